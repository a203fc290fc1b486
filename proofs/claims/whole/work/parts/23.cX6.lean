def f_X6_hasOffice (ad : gA) (σ : gS) (a1 : Int32) : Option Int32 := (if a1 < 0 then (some (0 : Int32)) else (if (σ 6 0 3) ≤ a1 then (some (0 : Int32)) else (some (1 : Int32))))
theorem hd_X6_hasOffice : yX6_hasOffice.cls ≠ "java/lang/invoke/MethodHandle" ∧ yX6_hasOffice.cls ≠ "java/lang/invoke/VarHandle" ∧ (parseMethodDescriptor yX6_hasOffice.desc).map (fun d => d.parameters.length) = some 1 := by decide +kernel
set_option maxHeartbeats 4000000 in
set_option maxRecDepth 100000 in
theorem c_X6_hasOffice (l : Launch) (D : va_G) (cy : Nat → ClassId) (A : Nat → Prop) (ad : gA) (L : gL)  (σ : gS) (hT : (6, 0) ∈ L) (a1 : Int32) (r0 : Int32) (hf : f_X6_hasOffice ad σ a1 = some r0) : g_Mi l yX6_hasOffice cX6_hasOffice 2 (some .boolean) ({ frames := 0, cells := 0, slots := 0, locals := 0 } : Room) D cy A ad L σ [.ref (ad 6 0), .int a1] r0 σ := by
  refine g_met (by decide) (Nat.le_of_ble_eq_true rfl) (fun p e s m below meth c C hr hlocks hnm G ls hl => ?_)
  have hl : lv_has ls 2 [(0, .ref (ad 6 0)), (1, .int a1)] := hl
  unfold f_X6_hasOffice at hf
  refine lv_iload_n C.x C.b dX6_hasOffice_0 rfl (lv_at hl 1 rfl) ?_
  refine lv_if_lt (tgt := 16) C.x C.b dX6_hasOffice_1 (by decide) (fun cb => ?_) (fun cb => ?_)
  · have hf := g_t cb hf
    refine lv_iconst (v := (0 : Int32)) C.x C.b dX6_hasOffice_16 (by decide) ?_
    exact g_ezp C G hr hlocks hf rfl dX6_hasOffice_17
  · have hf := g_f cb hf
    refine lv_iload_n C.x C.b dX6_hasOffice_4 rfl (lv_at hl 1 rfl) ?_
    refine lv_aload_n C.x C.b dX6_hasOffice_5 rfl (lv_at hl 0 rfl) ?_
    refine g_geti C G 6 0 3 hT rfl ginX6 (by decide) tw123 dX6_hasOffice_6 ?_
    refine lv_icmp_ge (tgt := 16) C.x C.b dX6_hasOffice_9 (by decide) (fun cb => ?_) (fun cb => ?_)
    · have hf := g_t cb hf
      refine lv_iconst (v := (0 : Int32)) C.x C.b dX6_hasOffice_16 (by decide) ?_
      exact g_ezp C G hr hlocks hf rfl dX6_hasOffice_17
    · have hf := g_f cb hf
      refine lv_iconst (v := (1 : Int32)) C.x C.b dX6_hasOffice_12 (by decide) ?_
      refine lv_goto (tgt := 17) C.x C.b dX6_hasOffice_13 (by decide) ?_
      exact g_ezp C G hr hlocks hf rfl dX6_hasOffice_17
def f_X6_hasPerson (ad : gA) (σ : gS) (a1 : Int32) : Option Int32 := (if a1 < 0 then (some (0 : Int32)) else (if (σ 6 0 4) ≤ a1 then (some (0 : Int32)) else (some (1 : Int32))))
theorem hd_X6_hasPerson : yX6_hasPerson.cls ≠ "java/lang/invoke/MethodHandle" ∧ yX6_hasPerson.cls ≠ "java/lang/invoke/VarHandle" ∧ (parseMethodDescriptor yX6_hasPerson.desc).map (fun d => d.parameters.length) = some 1 := by decide +kernel
set_option maxHeartbeats 4000000 in
set_option maxRecDepth 100000 in
theorem c_X6_hasPerson (l : Launch) (D : va_G) (cy : Nat → ClassId) (A : Nat → Prop) (ad : gA) (L : gL)  (σ : gS) (hT : (6, 0) ∈ L) (a1 : Int32) (r0 : Int32) (hf : f_X6_hasPerson ad σ a1 = some r0) : g_Mi l yX6_hasPerson cX6_hasPerson 2 (some .boolean) ({ frames := 0, cells := 0, slots := 0, locals := 0 } : Room) D cy A ad L σ [.ref (ad 6 0), .int a1] r0 σ := by
  refine g_met (by decide) (Nat.le_of_ble_eq_true rfl) (fun p e s m below meth c C hr hlocks hnm G ls hl => ?_)
  have hl : lv_has ls 2 [(0, .ref (ad 6 0)), (1, .int a1)] := hl
  unfold f_X6_hasPerson at hf
  refine lv_iload_n C.x C.b dX6_hasPerson_0 rfl (lv_at hl 1 rfl) ?_
  refine lv_if_lt (tgt := 16) C.x C.b dX6_hasPerson_1 (by decide) (fun cb => ?_) (fun cb => ?_)
  · have hf := g_t cb hf
    refine lv_iconst (v := (0 : Int32)) C.x C.b dX6_hasPerson_16 (by decide) ?_
    exact g_ezp C G hr hlocks hf rfl dX6_hasPerson_17
  · have hf := g_f cb hf
    refine lv_iload_n C.x C.b dX6_hasPerson_4 rfl (lv_at hl 1 rfl) ?_
    refine lv_aload_n C.x C.b dX6_hasPerson_5 rfl (lv_at hl 0 rfl) ?_
    refine g_geti C G 6 0 4 hT rfl ginX6 (by decide) tw126 dX6_hasPerson_6 ?_
    refine lv_icmp_ge (tgt := 16) C.x C.b dX6_hasPerson_9 (by decide) (fun cb => ?_) (fun cb => ?_)
    · have hf := g_t cb hf
      refine lv_iconst (v := (0 : Int32)) C.x C.b dX6_hasPerson_16 (by decide) ?_
      exact g_ezp C G hr hlocks hf rfl dX6_hasPerson_17
    · have hf := g_f cb hf
      refine lv_iconst (v := (1 : Int32)) C.x C.b dX6_hasPerson_12 (by decide) ?_
      refine lv_goto (tgt := 17) C.x C.b dX6_hasPerson_13 (by decide) ?_
      exact g_ezp C G hr hlocks hf rfl dX6_hasPerson_17
def f_X6_hasLaw (ad : gA) (σ : gS) (a1 : Int32) : Option Int32 := (if a1 < 0 then (some (0 : Int32)) else (if (σ 6 0 5) ≤ a1 then (some (0 : Int32)) else (some (1 : Int32))))
theorem hd_X6_hasLaw : yX6_hasLaw.cls ≠ "java/lang/invoke/MethodHandle" ∧ yX6_hasLaw.cls ≠ "java/lang/invoke/VarHandle" ∧ (parseMethodDescriptor yX6_hasLaw.desc).map (fun d => d.parameters.length) = some 1 := by decide +kernel
set_option maxHeartbeats 4000000 in
set_option maxRecDepth 100000 in
theorem c_X6_hasLaw (l : Launch) (D : va_G) (cy : Nat → ClassId) (A : Nat → Prop) (ad : gA) (L : gL)  (σ : gS) (hT : (6, 0) ∈ L) (a1 : Int32) (r0 : Int32) (hf : f_X6_hasLaw ad σ a1 = some r0) : g_Mi l yX6_hasLaw cX6_hasLaw 2 (some .boolean) ({ frames := 0, cells := 0, slots := 0, locals := 0 } : Room) D cy A ad L σ [.ref (ad 6 0), .int a1] r0 σ := by
  refine g_met (by decide) (Nat.le_of_ble_eq_true rfl) (fun p e s m below meth c C hr hlocks hnm G ls hl => ?_)
  have hl : lv_has ls 2 [(0, .ref (ad 6 0)), (1, .int a1)] := hl
  unfold f_X6_hasLaw at hf
  refine lv_iload_n C.x C.b dX6_hasLaw_0 rfl (lv_at hl 1 rfl) ?_
  refine lv_if_lt (tgt := 16) C.x C.b dX6_hasLaw_1 (by decide) (fun cb => ?_) (fun cb => ?_)
  · have hf := g_t cb hf
    refine lv_iconst (v := (0 : Int32)) C.x C.b dX6_hasLaw_16 (by decide) ?_
    exact g_ezp C G hr hlocks hf rfl dX6_hasLaw_17
  · have hf := g_f cb hf
    refine lv_iload_n C.x C.b dX6_hasLaw_4 rfl (lv_at hl 1 rfl) ?_
    refine lv_aload_n C.x C.b dX6_hasLaw_5 rfl (lv_at hl 0 rfl) ?_
    refine g_geti C G 6 0 5 hT rfl ginX6 (by decide) tw129 dX6_hasLaw_6 ?_
    refine lv_icmp_ge (tgt := 16) C.x C.b dX6_hasLaw_9 (by decide) (fun cb => ?_) (fun cb => ?_)
    · have hf := g_t cb hf
      refine lv_iconst (v := (0 : Int32)) C.x C.b dX6_hasLaw_16 (by decide) ?_
      exact g_ezp C G hr hlocks hf rfl dX6_hasLaw_17
    · have hf := g_f cb hf
      refine lv_iconst (v := (1 : Int32)) C.x C.b dX6_hasLaw_12 (by decide) ?_
      refine lv_goto (tgt := 17) C.x C.b dX6_hasLaw_13 (by decide) ?_
      exact g_ezp C G hr hlocks hf rfl dX6_hasLaw_17
def f_X6_hasSeat (ad : gA) (σ : gS) (a1 : Int32) (a2 : Int32) (a3 : Int32) : Option Int32 := ((f_X6_hasOffice ad σ a1).bind fun q1 => (if q1 = 0 then (some (0 : Int32)) else ((f_X8_isYear ad σ a2).bind fun q2 => (if q2 = 0 then (some (0 : Int32)) else (if a3 < 0 then (some (0 : Int32)) else (if g_ix a1 8 then (if σ 25 0 a1.toNatClampNeg < 0 then none else (if (σ 3 a1.toNatClampNeg 0) ≤ a3 then (some (0 : Int32)) else (some (1 : Int32)))) else none))))))
theorem hd_X6_hasSeat : yX6_hasSeat.cls ≠ "java/lang/invoke/MethodHandle" ∧ yX6_hasSeat.cls ≠ "java/lang/invoke/VarHandle" ∧ (parseMethodDescriptor yX6_hasSeat.desc).map (fun d => d.parameters.length) = some 3 := by decide +kernel
set_option maxHeartbeats 4000000 in
set_option maxRecDepth 100000 in
theorem c_X6_hasSeat (l : Launch) (D : va_G) (cy : Nat → ClassId) (A : Nat → Prop) (ad : gA) (L : gL)  (σ : gS) (hT : (6, 0) ∈ L) (a1 : Int32) (a2 : Int32) (a3 : Int32) (r0 : Int32) (hf : f_X6_hasSeat ad σ a1 a2 a3 = some r0) : g_Mi l yX6_hasSeat cX6_hasSeat 4 (some .boolean) ({ frames := 1, cells := 0, slots := 0, locals := 21 } : Room) D cy A ad L σ [.ref (ad 6 0), .int a1, .int a2, .int a3] r0 σ := by
  refine g_met (by decide) (Nat.le_of_ble_eq_true rfl) (fun p e s m below meth c C hr hlocks hnm G ls hl => ?_)
  have hl : lv_has ls 4 [(0, .ref (ad 6 0)), (1, .int a1), (2, .int a2), (3, .int a3)] := hl
  unfold f_X6_hasSeat at hf
  refine lv_aload_n C.x C.b dX6_hasSeat_0 rfl (lv_at hl 0 rfl) ?_
  refine lv_iload_n C.x C.b dX6_hasSeat_1 rfl (lv_at hl 1 rfl) ?_
  obtain ⟨q1, eq1, hf⟩ := g_b hf
  refine g_calli G (g_runV (As := [.int a1]) (rest := []) C G 6 0 (c_X6_hasOffice l D cy A ad L σ hT a1 q1 eq1) ⟨tw439, tw55, tw444, ⟨tw437, tw438⟩, hd_X6_hasOffice⟩ (by decide) hT rfl ⟨rfl, by decide⟩ hl.1 rfl (Nat.le_of_ble_eq_true rfl) dX6_hasSeat_2 ⟨Nat.le_of_ble_eq_true rfl, Nat.le_of_ble_eq_true rfl⟩) (fun H locs G => ?_)
  refine lv_if_eq (tgt := 36) C.x C.b dX6_hasSeat_5 (by decide) (fun cb => ?_) (fun cb => ?_)
  · have hf := g_t cb hf
    refine lv_iconst (v := (0 : Int32)) C.x C.b dX6_hasSeat_36 (by decide) ?_
    exact g_ezp C G hr hlocks hf rfl dX6_hasSeat_37
  · have hf := g_f cb hf
    refine lv_iload_n C.x C.b dX6_hasSeat_8 rfl (lv_at hl 2 rfl) ?_
    obtain ⟨q2, eq2, hf⟩ := g_b hf
    refine g_calli G (g_runN (As := [.int a2]) (rest := []) C G (c_X8_isYear l D cy A ad L σ a2 q2 eq2) ⟨tw419, tw54, List.mem_of_getElem? (i := 6) rfl, tw418, hd_X8_isYear⟩ (by decide) hl.1 rfl (Nat.le_of_ble_eq_true rfl) dX6_hasSeat_9 ⟨Nat.le_of_ble_eq_true rfl, Nat.le_of_ble_eq_true rfl⟩) (fun H locs G => ?_)
    refine lv_if_eq (tgt := 36) C.x C.b dX6_hasSeat_12 (by decide) (fun cb => ?_) (fun cb => ?_)
    · have hf := g_t cb hf
      refine lv_iconst (v := (0 : Int32)) C.x C.b dX6_hasSeat_36 (by decide) ?_
      exact g_ezp C G hr hlocks hf rfl dX6_hasSeat_37
    · have hf := g_f cb hf
      refine lv_iload_n C.x C.b dX6_hasSeat_15 rfl (lv_at hl 3 rfl) ?_
      refine lv_if_lt (tgt := 36) C.x C.b dX6_hasSeat_16 (by decide) (fun cb => ?_) (fun cb => ?_)
      · have hf := g_t cb hf
        refine lv_iconst (v := (0 : Int32)) C.x C.b dX6_hasSeat_36 (by decide) ?_
        exact g_ezp C G hr hlocks hf rfl dX6_hasSeat_37
      · have hf := g_f cb hf
        refine lv_iload_n C.x C.b dX6_hasSeat_19 rfl (lv_at hl 3 rfl) ?_
        refine lv_aload_n C.x C.b dX6_hasSeat_20 rfl (lv_at hl 0 rfl) ?_
        refine g_getr C G 6 0 0 25 hT rfl ginX6 (by decide) tw115 dX6_hasSeat_21 (fun hL3 => ?_)
        refine lv_iload_n C.x C.b dX6_hasSeat_24 rfl (lv_at hl 1 rfl) ?_
        obtain ⟨hi4, hf⟩ := g_ok hf
        obtain ⟨hq5, hf⟩ := g_okn hf
        refine g_aldq (n := 8) C G 25 0 3 hL3 (by decide) rfl rfl hi4 hq5 dX6_hasSeat_25 (fun hL6 => ?_)
        refine g_geti C G 3 a1.toNatClampNeg 0 hL6 rfl ginX3 (by decide) tw315 dX6_hasSeat_26 ?_
        refine lv_icmp_ge (tgt := 36) C.x C.b dX6_hasSeat_29 (by decide) (fun cb => ?_) (fun cb => ?_)
        · have hf := g_t cb hf
          refine lv_iconst (v := (0 : Int32)) C.x C.b dX6_hasSeat_36 (by decide) ?_
          exact g_ezp C G hr hlocks hf rfl dX6_hasSeat_37
        · have hf := g_f cb hf
          refine lv_iconst (v := (1 : Int32)) C.x C.b dX6_hasSeat_32 (by decide) ?_
          refine lv_goto (tgt := 37) C.x C.b dX6_hasSeat_33 (by decide) ?_
          exact g_ezp C G hr hlocks hf rfl dX6_hasSeat_37
def f_X6_isNumberOf (ad : gA) (σ : gS) (a1 : Int32) (a2 : Int32) : Option Int32 := (if a1 = (0 : Int32) then (if a2 < 0 then (some (0 : Int32)) else (if (99 : Int32) < a2 then (some (0 : Int32)) else (some (1 : Int32)))) else (if a1 = (1 : Int32) then ((f_X6_hasOffice ad σ a2).bind fun q1 => (if g_bo q1 then (some q1) else none)) else (if a1 = (2 : Int32) then (if a2 < (1 : Int32) then (some (0 : Int32)) else (if (99 : Int32) < a2 then (some (0 : Int32)) else (some (1 : Int32)))) else (if a1 = (3 : Int32) then (if a2 < (1 : Int32) then (some (0 : Int32)) else (if (99 : Int32) < a2 then (some (0 : Int32)) else (some (1 : Int32)))) else (if a1 = (4 : Int32) then ((f_X8_isOrder ad σ a2).bind fun q2 => (if g_bo q2 then (some q2) else none)) else (some (1 : Int32)))))))
theorem hd_X6_isNumberOf : yX6_isNumberOf.cls ≠ "java/lang/invoke/MethodHandle" ∧ yX6_isNumberOf.cls ≠ "java/lang/invoke/VarHandle" ∧ (parseMethodDescriptor yX6_isNumberOf.desc).map (fun d => d.parameters.length) = some 2 := by decide +kernel
set_option maxHeartbeats 4000000 in
set_option maxRecDepth 100000 in
theorem c_X6_isNumberOf (l : Launch) (D : va_G) (cy : Nat → ClassId) (A : Nat → Prop) (ad : gA) (L : gL)  (σ : gS) (hT : (6, 0) ∈ L) (a1 : Int32) (a2 : Int32) (r0 : Int32) (hf : f_X6_isNumberOf ad σ a1 a2 = some r0) : g_Mi l yX6_isNumberOf cX6_isNumberOf 3 (some .boolean) ({ frames := 1, cells := 0, slots := 0, locals := 21 } : Room) D cy A ad L σ [.ref (ad 6 0), .int a1, .int a2] r0 σ := by
  refine g_met (by decide) (Nat.le_of_ble_eq_true rfl) (fun p e s m below meth c C hr hlocks hnm G ls hl => ?_)
  have hl : lv_has ls 3 [(0, .ref (ad 6 0)), (1, .int a1), (2, .int a2)] := hl
  unfold f_X6_isNumberOf at hf
  refine lv_iload_n C.x C.b dX6_isNumberOf_0 rfl (lv_at hl 1 rfl) ?_
  by_cases c0 : a1 = (0 : Int32)
  · have hf := g_t c0 hf
    have e9 := g_swI c0 (show ((0 : Int32)).toInt = 0 from by decide)
    refine lv_tableIn (tgt := 36) C.x C.b dX6_isNumberOf_1 (by omega) (by omega) (by rw [e9]; rfl) (by decide) ?_
    refine lv_iload_n C.x C.b dX6_isNumberOf_36 rfl (lv_at hl 2 rfl) ?_
    refine lv_if_lt (tgt := 50) C.x C.b dX6_isNumberOf_37 (by decide) (fun cb => ?_) (fun cb => ?_)
    · have hf := g_t cb hf
      refine lv_iconst (v := (0 : Int32)) C.x C.b dX6_isNumberOf_50 (by decide) ?_
      exact g_ezp C G hr hlocks hf rfl dX6_isNumberOf_51
    · have hf := g_f cb hf
      refine lv_iload_n C.x C.b dX6_isNumberOf_40 rfl (lv_at hl 2 rfl) ?_
      refine lv_bipush (v := (99 : Int32)) C.x C.b dX6_isNumberOf_41 (by decide) ?_
      refine lv_icmp_gt (tgt := 50) C.x C.b dX6_isNumberOf_43 (by decide) (fun cb => ?_) (fun cb => ?_)
      · have hf := g_t cb hf
        refine lv_iconst (v := (0 : Int32)) C.x C.b dX6_isNumberOf_50 (by decide) ?_
        exact g_ezp C G hr hlocks hf rfl dX6_isNumberOf_51
      · have hf := g_f cb hf
        refine lv_iconst (v := (1 : Int32)) C.x C.b dX6_isNumberOf_46 (by decide) ?_
        refine lv_goto (tgt := 51) C.x C.b dX6_isNumberOf_47 (by decide) ?_
        exact g_ezp C G hr hlocks hf rfl dX6_isNumberOf_51
  have hf := g_f c0 hf
  by_cases c1 : a1 = (1 : Int32)
  · have hf := g_t c1 hf
    have e9 := g_swI c1 (show ((1 : Int32)).toInt = 1 from by decide)
    refine lv_tableIn (tgt := 52) C.x C.b dX6_isNumberOf_1 (by omega) (by omega) (by rw [e9]; rfl) (by decide) ?_
    refine lv_aload_n C.x C.b dX6_isNumberOf_52 rfl (lv_at hl 0 rfl) ?_
    refine lv_iload_n C.x C.b dX6_isNumberOf_53 rfl (lv_at hl 2 rfl) ?_
    obtain ⟨q1, eq1, hf⟩ := g_b hf
    refine g_calli G (g_runV (As := [.int a2]) (rest := []) C G 6 0 (c_X6_hasOffice l D cy A ad L σ hT a2 q1 eq1) ⟨tw439, tw55, tw444, ⟨tw437, tw438⟩, hd_X6_hasOffice⟩ (by decide) hT rfl ⟨rfl, by decide⟩ hl.1 rfl (Nat.le_of_ble_eq_true rfl) dX6_isNumberOf_54 ⟨Nat.le_of_ble_eq_true rfl, Nat.le_of_ble_eq_true rfl⟩) (fun H locs G => ?_)
    obtain ⟨hbo, hf⟩ := g_ok hf
    exact g_ezp C G hr hlocks hf (g_bo_fit hbo).1 dX6_isNumberOf_57
  have hf := g_f c1 hf
  by_cases c2 : a1 = (2 : Int32)
  · have hf := g_t c2 hf
    have e9 := g_swI c2 (show ((2 : Int32)).toInt = 2 from by decide)
    refine lv_tableIn (tgt := 58) C.x C.b dX6_isNumberOf_1 (by omega) (by omega) (by rw [e9]; rfl) (by decide) ?_
    refine lv_iload_n C.x C.b dX6_isNumberOf_58 rfl (lv_at hl 2 rfl) ?_
    refine lv_iconst (v := (1 : Int32)) C.x C.b dX6_isNumberOf_59 (by decide) ?_
    refine lv_icmp_lt (tgt := 73) C.x C.b dX6_isNumberOf_60 (by decide) (fun cb => ?_) (fun cb => ?_)
    · have hf := g_t cb hf
      refine lv_iconst (v := (0 : Int32)) C.x C.b dX6_isNumberOf_73 (by decide) ?_
      exact g_ezp C G hr hlocks hf rfl dX6_isNumberOf_74
    · have hf := g_f cb hf
      refine lv_iload_n C.x C.b dX6_isNumberOf_63 rfl (lv_at hl 2 rfl) ?_
      refine lv_bipush (v := (99 : Int32)) C.x C.b dX6_isNumberOf_64 (by decide) ?_
      refine lv_icmp_gt (tgt := 73) C.x C.b dX6_isNumberOf_66 (by decide) (fun cb => ?_) (fun cb => ?_)
      · have hf := g_t cb hf
        refine lv_iconst (v := (0 : Int32)) C.x C.b dX6_isNumberOf_73 (by decide) ?_
        exact g_ezp C G hr hlocks hf rfl dX6_isNumberOf_74
      · have hf := g_f cb hf
        refine lv_iconst (v := (1 : Int32)) C.x C.b dX6_isNumberOf_69 (by decide) ?_
        refine lv_goto (tgt := 74) C.x C.b dX6_isNumberOf_70 (by decide) ?_
        exact g_ezp C G hr hlocks hf rfl dX6_isNumberOf_74
  have hf := g_f c2 hf
  by_cases c3 : a1 = (3 : Int32)
  · have hf := g_t c3 hf
    have e9 := g_swI c3 (show ((3 : Int32)).toInt = 3 from by decide)
    refine lv_tableIn (tgt := 58) C.x C.b dX6_isNumberOf_1 (by omega) (by omega) (by rw [e9]; rfl) (by decide) ?_
    refine lv_iload_n C.x C.b dX6_isNumberOf_58 rfl (lv_at hl 2 rfl) ?_
    refine lv_iconst (v := (1 : Int32)) C.x C.b dX6_isNumberOf_59 (by decide) ?_
    refine lv_icmp_lt (tgt := 73) C.x C.b dX6_isNumberOf_60 (by decide) (fun cb => ?_) (fun cb => ?_)
    · have hf := g_t cb hf
      refine lv_iconst (v := (0 : Int32)) C.x C.b dX6_isNumberOf_73 (by decide) ?_
      exact g_ezp C G hr hlocks hf rfl dX6_isNumberOf_74
    · have hf := g_f cb hf
      refine lv_iload_n C.x C.b dX6_isNumberOf_63 rfl (lv_at hl 2 rfl) ?_
      refine lv_bipush (v := (99 : Int32)) C.x C.b dX6_isNumberOf_64 (by decide) ?_
      refine lv_icmp_gt (tgt := 73) C.x C.b dX6_isNumberOf_66 (by decide) (fun cb => ?_) (fun cb => ?_)
      · have hf := g_t cb hf
        refine lv_iconst (v := (0 : Int32)) C.x C.b dX6_isNumberOf_73 (by decide) ?_
        exact g_ezp C G hr hlocks hf rfl dX6_isNumberOf_74
      · have hf := g_f cb hf
        refine lv_iconst (v := (1 : Int32)) C.x C.b dX6_isNumberOf_69 (by decide) ?_
        refine lv_goto (tgt := 74) C.x C.b dX6_isNumberOf_70 (by decide) ?_
        exact g_ezp C G hr hlocks hf rfl dX6_isNumberOf_74
  have hf := g_f c3 hf
  by_cases c4 : a1 = (4 : Int32)
  · have hf := g_t c4 hf
    have e9 := g_swI c4 (show ((4 : Int32)).toInt = 4 from by decide)
    refine lv_tableIn (tgt := 75) C.x C.b dX6_isNumberOf_1 (by omega) (by omega) (by rw [e9]; rfl) (by decide) ?_
    refine lv_iload_n C.x C.b dX6_isNumberOf_75 rfl (lv_at hl 2 rfl) ?_
    obtain ⟨q2, eq2, hf⟩ := g_b hf
    refine g_calli G (g_runN (As := [.int a2]) (rest := []) C G (c_X8_isOrder l D cy A ad L σ a2 q2 eq2) ⟨tw336, tw54, List.mem_of_getElem? (i := 5) rfl, tw335, hd_X8_isOrder⟩ (by decide) hl.1 rfl (Nat.le_of_ble_eq_true rfl) dX6_isNumberOf_76 ⟨Nat.le_of_ble_eq_true rfl, Nat.le_of_ble_eq_true rfl⟩) (fun H locs G => ?_)
    obtain ⟨hbo, hf⟩ := g_ok hf
    exact g_ezp C G hr hlocks hf (g_bo_fit hbo).1 dX6_isNumberOf_79
  have hf := g_f c4 hf
  have n0 := lv_neT c0 (show ((0 : Int32)).toInt = 0 from by decide)
  have n1 := lv_neT c1 (show ((1 : Int32)).toInt = 1 from by decide)
  have n2 := lv_neT c2 (show ((2 : Int32)).toInt = 2 from by decide)
  have n3 := lv_neT c3 (show ((3 : Int32)).toInt = 3 from by decide)
  have n4 := lv_neT c4 (show ((4 : Int32)).toInt = 4 from by decide)
  refine lv_tableOut (tgt := 80) C.x C.b dX6_isNumberOf_1 (by omega) (by decide) ?_
  refine lv_iconst (v := (1 : Int32)) C.x C.b dX6_isNumberOf_80 (by decide) ?_
  exact g_ezp C G hr hlocks hf rfl dX6_isNumberOf_81
def f_X6_put (ad : gA) (σ : gS) (a1 : Int32) (a2 : Int32) (a3 : Int32) (a4 : Int32) : Option gS := (if g_ix a2 8 then (if σ 25 0 a2.toNatClampNeg < 0 then none else ((f_X3_setCode ad σ a2.toNatClampNeg a3 a4 a1).bind fun σ5 => (if g_ix a1 24 then (if σ5 26 0 a1.toNatClampNeg < 0 then none else (if g_ix a3 200 then (g_let (g_up σ5 24 a1.toNatClampNeg a3.toNatClampNeg (vp_nar .byte ((a2).toInt8.toInt32))) fun σ12 => (g_let (g_up σ12 6 0 6 ((σ12 6 0 6) + (1 : Int32))) fun σ13 => (some σ13))) else none)) else none))) else none)
theorem hd_X6_put : yX6_put.cls ≠ "java/lang/invoke/MethodHandle" ∧ yX6_put.cls ≠ "java/lang/invoke/VarHandle" ∧ (parseMethodDescriptor yX6_put.desc).map (fun d => d.parameters.length) = some 4 := by decide +kernel
set_option maxHeartbeats 4000000 in
set_option maxRecDepth 100000 in
theorem c_X6_put (l : Launch) (D : va_G) (cy : Nat → ClassId) (A : Nat → Prop) (ad : gA) (L : gL)  (σ : gS) (hT : (6, 0) ∈ L) (a1 : Int32) (a2 : Int32) (a3 : Int32) (a4 : Int32) (σ0 : gS) (hf : f_X6_put ad σ a1 a2 a3 a4 = some σ0) : g_Mv l yX6_put cX6_put 5 none ({ frames := 1, cells := 0, slots := 0, locals := 23 } : Room) D cy A ad L σ [.ref (ad 6 0), .int a1, .int a2, .int a3, .int a4] σ0 := by
  refine g_met (by decide) (Nat.le_of_ble_eq_true rfl) (fun p e s m below meth c C hr hlocks hnm G ls hl => ?_)
  have hl : lv_has ls 5 [(0, .ref (ad 6 0)), (1, .int a1), (2, .int a2), (3, .int a3), (4, .int a4)] := hl
  unfold f_X6_put at hf
  refine lv_aload_n C.x C.b dX6_put_0 rfl (lv_at hl 0 rfl) ?_
  refine g_getr C G 6 0 0 25 hT rfl ginX6 (by decide) tw115 dX6_put_1 (fun hL1 => ?_)
  refine lv_iload_n C.x C.b dX6_put_4 rfl (lv_at hl 2 rfl) ?_
  obtain ⟨hi2, hf⟩ := g_ok hf
  obtain ⟨hq3, hf⟩ := g_okn hf
  refine g_aldq (n := 8) C G 25 0 3 hL1 (by decide) rfl rfl hi2 hq3 dX6_put_5 (fun hL4 => ?_)
  refine lv_iload_n C.x C.b dX6_put_6 rfl (lv_at hl 3 rfl) ?_
  refine lv_iload C.x C.b dX6_put_7 (lv_at hl 4 rfl) ?_
  refine lv_iload_n C.x C.b dX6_put_9 rfl (lv_at hl 1 rfl) ?_
  obtain ⟨σ5, eσ5, hf⟩ := g_b hf
  refine g_callv G (g_runV (As := [.int a3, .int a4, .int a1]) (rest := []) C G 3 a2.toNatClampNeg (c_X3_setCode l D cy A ad L σ a2.toNatClampNeg hL4 a3 a4 a1 σ5 eσ5) ⟨tw506, tw61, tw503, ⟨tw504, tw505⟩, hd_X3_setCode⟩ (by decide) hL4 rfl ⟨rfl, by decide⟩ hl.1 rfl (Nat.le_of_ble_eq_true rfl) dX6_put_10 ⟨Nat.le_of_ble_eq_true rfl, Nat.le_of_ble_eq_true rfl⟩) (fun H locs G => ?_)
  refine lv_aload_n C.x C.b dX6_put_13 rfl (lv_at hl 0 rfl) ?_
  refine g_getr C G 6 0 1 26 hT rfl ginX6 (by decide) tw118 dX6_put_14 (fun hL6 => ?_)
  refine lv_iload_n C.x C.b dX6_put_17 rfl (lv_at hl 1 rfl) ?_
  obtain ⟨hi7, hf⟩ := g_ok hf
  obtain ⟨hq8, hf⟩ := g_okn hf
  refine g_aldq (n := 24) C G 26 0 5 hL6 (by decide) rfl rfl hi7 hq8 dX6_put_18 (fun hL9 => ?_)
  refine g_getr C G 5 a1.toNatClampNeg 2 24 hL9 rfl ginX5 (by decide) tw358 dX6_put_19 (fun hL10 => ?_)
  refine lv_iload_n C.x C.b dX6_put_22 rfl (lv_at hl 3 rfl) ?_
  refine lv_iload_n C.x C.b dX6_put_23 rfl (lv_at hl 2 rfl) ?_
  refine lv_i2b C.x C.b dX6_put_24 rfl ?_
  obtain ⟨hi11, hf⟩ := g_ok hf
  refine g_bast (n := 200) C G 24 a1.toNatClampNeg hL10 (by decide) rfl hi11 dX6_put_25 (fun H locs G => ?_)
  obtain ⟨σ12, eσ12, hf⟩ := g_lt hf
  rw [← eσ12] at G
  refine lv_aload_n C.x C.b dX6_put_26 rfl (lv_at hl 0 rfl) ?_
  refine lv_dup C.x C.b dX6_put_27 rfl ?_
  refine g_geti C G 6 0 6 hT rfl ginX6 (by decide) tw131 dX6_put_28 ?_
  refine lv_iconst (v := (1 : Int32)) C.x C.b dX6_put_31 (by decide) ?_
  refine lv_iadd C.x C.b dX6_put_32 ?_
  refine g_puti C G 6 0 6 hT (v := ((σ12 6 0 6) + (1 : Int32))) rfl ginX6 tyX6_ok nmX6 (by decide) ⟨rfl, rfl⟩ tw131 dX6_put_33 (fun H locs G => ?_)
  obtain ⟨σ13, eσ13, hf⟩ := g_lt hf
  rw [← eσ13] at G
  exact g_evi C G hr hlocks hf dX6_put_36
def f_X6_vacate_P25 (ad : gA) (a1 : Int32) (a2 : Int32) (a3 : Int32) (a4 : Int32) (σ : gS) : Option gS := (if g_ix a2 8 then (if σ 25 0 a2.toNatClampNeg < 0 then none else ((f_X3_setCode ad σ a2.toNatClampNeg a3 a4 (-1 : Int32)).bind fun σ11 => (if g_ix a1 24 then (if σ11 26 0 a1.toNatClampNeg < 0 then none else (if g_ix a3 200 then (g_let (g_up σ11 24 a1.toNatClampNeg a3.toNatClampNeg (vp_nar .byte (-1 : Int32))) fun σ18 => (g_let (g_up σ18 6 0 6 ((σ18 6 0 6) - (1 : Int32))) fun σ19 => (some σ19))) else none)) else none))) else none)
def f_X6_vacate (ad : gA) (σ : gS) (a1 : Int32) (a2 : Int32) (a3 : Int32) (a4 : Int32) : Option gS := (if g_ix a2 8 then (if σ 25 0 a2.toNatClampNeg < 0 then none else ((f_X3_isVoid ad σ a2.toNatClampNeg a3 a4).bind fun q5 => (if q5 = 0 then (f_X6_vacate_P25 ad a1 a2 a3 a4 σ) else (g_let (g_up σ 6 0 7 ((σ 6 0 7) - (1 : Int32))) fun σ6 => (f_X6_vacate_P25 ad a1 a2 a3 a4 σ6))))) else none)
theorem hd_X6_vacate : yX6_vacate.cls ≠ "java/lang/invoke/MethodHandle" ∧ yX6_vacate.cls ≠ "java/lang/invoke/VarHandle" ∧ (parseMethodDescriptor yX6_vacate.desc).map (fun d => d.parameters.length) = some 4 := by decide +kernel
set_option maxHeartbeats 4000000 in
set_option maxRecDepth 100000 in
theorem c_X6_vacate (l : Launch) (D : va_G) (cy : Nat → ClassId) (A : Nat → Prop) (ad : gA) (L : gL)  (σ : gS) (hT : (6, 0) ∈ L) (a1 : Int32) (a2 : Int32) (a3 : Int32) (a4 : Int32) (σ0 : gS) (hf : f_X6_vacate ad σ a1 a2 a3 a4 = some σ0) : g_Mv l yX6_vacate cX6_vacate 5 none ({ frames := 2, cells := 0, slots := 0, locals := 44 } : Room) D cy A ad L σ [.ref (ad 6 0), .int a1, .int a2, .int a3, .int a4] σ0 := by
  refine g_met (by decide) (Nat.le_of_ble_eq_true rfl) (fun p e s m below meth c C hr hlocks hnm G ls hl => ?_)
  have hl : lv_has ls 5 [(0, .ref (ad 6 0)), (1, .int a1), (2, .int a2), (3, .int a3), (4, .int a4)] := hl
  have pt25 : ∀ (σ : gS) (H : Heap) (locs : List Loc) (ls : Array Slot), g_H D cy A ad L σ s.heap H locs → lv_has ls 5 [(0, .ref (ad 6 0)), (1, .int a1), (2, .int a2), (3, .int a3), (4, .int a4)] → f_X6_vacate_P25 ad a1 a2 a3 a4 σ = some σ0 → g_Wv p l e ({ frames := 2, cells := 0, slots := 0, locals := 44 } : Room) s m below meth c H locs 0 0 D cy A ad L [.ref (ad 6 0), .int a1, .int a2, .int a3, .int a4] σ0 (F0 m 25 ls []) := by
    intro σ H locs ls G hl hf
    unfold f_X6_vacate_P25 at hf
    refine lv_aload_n C.x C.b dX6_vacate_25 rfl (lv_at hl 0 rfl) ?_
    refine g_getr C G 6 0 0 25 hT rfl ginX6 (by decide) tw115 dX6_vacate_26 (fun hL7 => ?_)
    refine lv_iload_n C.x C.b dX6_vacate_29 rfl (lv_at hl 2 rfl) ?_
    obtain ⟨hi8, hf⟩ := g_ok hf
    obtain ⟨hq9, hf⟩ := g_okn hf
    refine g_aldq (n := 8) C G 25 0 3 hL7 (by decide) rfl rfl hi8 hq9 dX6_vacate_30 (fun hL10 => ?_)
    refine lv_iload_n C.x C.b dX6_vacate_31 rfl (lv_at hl 3 rfl) ?_
    refine lv_iload C.x C.b dX6_vacate_32 (lv_at hl 4 rfl) ?_
    refine lv_iconst (v := (-1 : Int32)) C.x C.b dX6_vacate_34 (by decide) ?_
    obtain ⟨σ11, eσ11, hf⟩ := g_b hf
    refine g_callv G (g_runV (As := [.int a3, .int a4, .int (-1 : Int32)]) (rest := []) C G 3 a2.toNatClampNeg (c_X3_setCode l D cy A ad L σ a2.toNatClampNeg hL10 a3 a4 (-1 : Int32) σ11 eσ11) ⟨tw506, tw61, tw503, ⟨tw504, tw505⟩, hd_X3_setCode⟩ (by decide) hL10 rfl ⟨rfl, by decide⟩ hl.1 rfl (Nat.le_of_ble_eq_true rfl) dX6_vacate_35 ⟨Nat.le_of_ble_eq_true rfl, Nat.le_of_ble_eq_true rfl⟩) (fun H locs G => ?_)
    refine lv_aload_n C.x C.b dX6_vacate_38 rfl (lv_at hl 0 rfl) ?_
    refine g_getr C G 6 0 1 26 hT rfl ginX6 (by decide) tw118 dX6_vacate_39 (fun hL12 => ?_)
    refine lv_iload_n C.x C.b dX6_vacate_42 rfl (lv_at hl 1 rfl) ?_
    obtain ⟨hi13, hf⟩ := g_ok hf
    obtain ⟨hq14, hf⟩ := g_okn hf
    refine g_aldq (n := 24) C G 26 0 5 hL12 (by decide) rfl rfl hi13 hq14 dX6_vacate_43 (fun hL15 => ?_)
    refine g_getr C G 5 a1.toNatClampNeg 2 24 hL15 rfl ginX5 (by decide) tw358 dX6_vacate_44 (fun hL16 => ?_)
    refine lv_iload_n C.x C.b dX6_vacate_47 rfl (lv_at hl 3 rfl) ?_
    refine lv_iconst (v := (-1 : Int32)) C.x C.b dX6_vacate_48 (by decide) ?_
    obtain ⟨hi17, hf⟩ := g_ok hf
    refine g_bast (n := 200) C G 24 a1.toNatClampNeg hL16 (by decide) rfl hi17 dX6_vacate_49 (fun H locs G => ?_)
    obtain ⟨σ18, eσ18, hf⟩ := g_lt hf
    rw [← eσ18] at G
    refine lv_aload_n C.x C.b dX6_vacate_50 rfl (lv_at hl 0 rfl) ?_
    refine lv_dup C.x C.b dX6_vacate_51 rfl ?_
    refine g_geti C G 6 0 6 hT rfl ginX6 (by decide) tw131 dX6_vacate_52 ?_
    refine lv_iconst (v := (1 : Int32)) C.x C.b dX6_vacate_55 (by decide) ?_
    refine lv_isub C.x C.b dX6_vacate_56 ?_
    refine g_puti C G 6 0 6 hT (v := ((σ18 6 0 6) - (1 : Int32))) rfl ginX6 tyX6_ok nmX6 (by decide) ⟨rfl, rfl⟩ tw131 dX6_vacate_57 (fun H locs G => ?_)
    obtain ⟨σ19, eσ19, hf⟩ := g_lt hf
    rw [← eσ19] at G
    exact g_evi C G hr hlocks hf dX6_vacate_60
  unfold f_X6_vacate at hf
  refine lv_aload_n C.x C.b dX6_vacate_0 rfl (lv_at hl 0 rfl) ?_
  refine g_getr C G 6 0 0 25 hT rfl ginX6 (by decide) tw115 dX6_vacate_1 (fun hL1 => ?_)
  refine lv_iload_n C.x C.b dX6_vacate_4 rfl (lv_at hl 2 rfl) ?_
  obtain ⟨hi2, hf⟩ := g_ok hf
  obtain ⟨hq3, hf⟩ := g_okn hf
  refine g_aldq (n := 8) C G 25 0 3 hL1 (by decide) rfl rfl hi2 hq3 dX6_vacate_5 (fun hL4 => ?_)
  refine lv_iload_n C.x C.b dX6_vacate_6 rfl (lv_at hl 3 rfl) ?_
  refine lv_iload C.x C.b dX6_vacate_7 (lv_at hl 4 rfl) ?_
  obtain ⟨q5, eq5, hf⟩ := g_b hf
  refine g_calli G (g_runV (As := [.int a3, .int a4]) (rest := []) C G 3 a2.toNatClampNeg (c_X3_isVoid l D cy A ad L σ a2.toNatClampNeg hL4 a3 a4 q5 eq5) ⟨tw527, tw61, tw524, ⟨tw525, tw526⟩, hd_X3_isVoid⟩ (by decide) hL4 rfl ⟨rfl, by decide⟩ hl.1 rfl (Nat.le_of_ble_eq_true rfl) dX6_vacate_9 ⟨Nat.le_of_ble_eq_true rfl, Nat.le_of_ble_eq_true rfl⟩) (fun H locs G => ?_)
  refine lv_if_eq (tgt := 25) C.x C.b dX6_vacate_12 (by decide) (fun cb => ?_) (fun cb => ?_)
  · have hf := g_t cb hf
    exact pt25 σ _ _ ls G (lv_sub hl [0, 1, 2, 3, 4] rfl) hf
  · have hf := g_f cb hf
    refine lv_aload_n C.x C.b dX6_vacate_15 rfl (lv_at hl 0 rfl) ?_
    refine lv_dup C.x C.b dX6_vacate_16 rfl ?_
    refine g_geti C G 6 0 7 hT rfl ginX6 (by decide) tw133 dX6_vacate_17 ?_
    refine lv_iconst (v := (1 : Int32)) C.x C.b dX6_vacate_20 (by decide) ?_
    refine lv_isub C.x C.b dX6_vacate_21 ?_
    refine g_puti C G 6 0 7 hT (v := ((σ 6 0 7) - (1 : Int32))) rfl ginX6 tyX6_ok nmX6 (by decide) ⟨rfl, rfl⟩ tw133 dX6_vacate_22 (fun H locs G => ?_)
    obtain ⟨σ6, eσ6, hf⟩ := g_lt hf
    rw [← eσ6] at G
    exact pt25 σ6 _ _ ls G (lv_sub hl [0, 1, 2, 3, 4] rfl) hf
def f_X6_mark_P11 (ad : gA) (a1 : Int32) (a2 : Int32) (a3 : Int32) (a4 : Int32) (a5 : Int32) (σ : gS) (k0 : Int32) : Option gS := (if g_ix a2 8 then (if σ 25 0 a2.toNatClampNeg < 0 then none else ((f_X3_setCode ad σ a2.toNatClampNeg a3 a4 (a1 + k0)).bind fun σ5 => (if g_ix a1 24 then (if σ5 26 0 a1.toNatClampNeg < 0 then none else (if g_ix a3 200 then (g_let (g_up σ5 24 a1.toNatClampNeg a3.toNatClampNeg (vp_nar .byte (((a2 + k0)).toInt8.toInt32))) fun σ12 => (if a5 = 0 then (g_let (g_up σ12 6 0 7 ((σ12 6 0 7) + (-1 : Int32))) fun σ13 => (some σ13)) else (g_let (g_up σ12 6 0 7 ((σ12 6 0 7) + (1 : Int32))) fun σ14 => (some σ14)))) else none)) else none))) else none)
def f_X6_mark (ad : gA) (σ : gS) (a1 : Int32) (a2 : Int32) (a3 : Int32) (a4 : Int32) (a5 : Int32) : Option gS := (if a5 = 0 then (f_X6_mark_P11 ad a1 a2 a3 a4 a5 σ (0 : Int32)) else (f_X6_mark_P11 ad a1 a2 a3 a4 a5 σ (100 : Int32)))
theorem hd_X6_mark : yX6_mark.cls ≠ "java/lang/invoke/MethodHandle" ∧ yX6_mark.cls ≠ "java/lang/invoke/VarHandle" ∧ (parseMethodDescriptor yX6_mark.desc).map (fun d => d.parameters.length) = some 5 := by decide +kernel
set_option maxHeartbeats 4000000 in
set_option maxRecDepth 100000 in
theorem c_X6_mark (l : Launch) (D : va_G) (cy : Nat → ClassId) (A : Nat → Prop) (ad : gA) (L : gL)  (σ : gS) (hT : (6, 0) ∈ L) (a1 : Int32) (a2 : Int32) (a3 : Int32) (a4 : Int32) (a5 : Int32) (σ0 : gS) (hf : f_X6_mark ad σ a1 a2 a3 a4 a5 = some σ0) : g_Mv l yX6_mark cX6_mark 7 none ({ frames := 1, cells := 0, slots := 0, locals := 23 } : Room) D cy A ad L σ [.ref (ad 6 0), .int a1, .int a2, .int a3, .int a4, .int a5] σ0 := by
  refine g_met (by decide) (Nat.le_of_ble_eq_true rfl) (fun p e s m below meth c C hr hlocks hnm G ls hl => ?_)
  have hl : lv_has ls 7 [(0, .ref (ad 6 0)), (1, .int a1), (2, .int a2), (3, .int a3), (4, .int a4), (5, .int a5)] := hl
  have pt11 : ∀ (σ : gS) (k0 : Int32) (H : Heap) (locs : List Loc) (ls : Array Slot), g_H D cy A ad L σ s.heap H locs → lv_has ls 7 [(0, .ref (ad 6 0)), (1, .int a1), (2, .int a2), (3, .int a3), (4, .int a4), (5, .int a5)] → f_X6_mark_P11 ad a1 a2 a3 a4 a5 σ k0 = some σ0 → g_Wv p l e ({ frames := 1, cells := 0, slots := 0, locals := 23 } : Room) s m below meth c H locs 0 0 D cy A ad L [.ref (ad 6 0), .int a1, .int a2, .int a3, .int a4, .int a5] σ0 (F0 m 11 ls [.int k0]) := by
    intro σ k0 H locs ls G hl hf
    unfold f_X6_mark_P11 at hf
    refine lv_istore (lv' := [(6, .int k0), (0, .ref (ad 6 0)), (1, .int a1), (2, .int a2), (3, .int a3), (4, .int a4), (5, .int a5)]) C.x C.b dX6_mark_11 hl (by decide) rfl (fun ls hl => ?_)
    refine lv_aload_n C.x C.b dX6_mark_13 rfl (lv_at hl 1 rfl) ?_
    refine g_getr C G 6 0 0 25 hT rfl ginX6 (by decide) tw115 dX6_mark_14 (fun hL1 => ?_)
    refine lv_iload_n C.x C.b dX6_mark_17 rfl (lv_at hl 3 rfl) ?_
    obtain ⟨hi2, hf⟩ := g_ok hf
    obtain ⟨hq3, hf⟩ := g_okn hf
    refine g_aldq (n := 8) C G 25 0 3 hL1 (by decide) rfl rfl hi2 hq3 dX6_mark_18 (fun hL4 => ?_)
    refine lv_iload_n C.x C.b dX6_mark_19 rfl (lv_at hl 4 rfl) ?_
    refine lv_iload C.x C.b dX6_mark_20 (lv_at hl 5 rfl) ?_
    refine lv_iload_n C.x C.b dX6_mark_22 rfl (lv_at hl 2 rfl) ?_
    refine lv_iload C.x C.b dX6_mark_23 (lv_at hl 0 rfl) ?_
    refine lv_iadd C.x C.b dX6_mark_25 ?_
    obtain ⟨σ5, eσ5, hf⟩ := g_b hf
    refine g_callv G (g_runV (As := [.int a3, .int a4, .int (a1 + k0)]) (rest := []) C G 3 a2.toNatClampNeg (c_X3_setCode l D cy A ad L σ a2.toNatClampNeg hL4 a3 a4 (a1 + k0) σ5 eσ5) ⟨tw506, tw61, tw503, ⟨tw504, tw505⟩, hd_X3_setCode⟩ (by decide) hL4 rfl ⟨rfl, by decide⟩ hl.1 rfl (Nat.le_of_ble_eq_true rfl) dX6_mark_26 ⟨Nat.le_of_ble_eq_true rfl, Nat.le_of_ble_eq_true rfl⟩) (fun H locs G => ?_)
    refine lv_aload_n C.x C.b dX6_mark_29 rfl (lv_at hl 1 rfl) ?_
    refine g_getr C G 6 0 1 26 hT rfl ginX6 (by decide) tw118 dX6_mark_30 (fun hL6 => ?_)
    refine lv_iload_n C.x C.b dX6_mark_33 rfl (lv_at hl 2 rfl) ?_
    obtain ⟨hi7, hf⟩ := g_ok hf
    obtain ⟨hq8, hf⟩ := g_okn hf
    refine g_aldq (n := 24) C G 26 0 5 hL6 (by decide) rfl rfl hi7 hq8 dX6_mark_34 (fun hL9 => ?_)
    refine g_getr C G 5 a1.toNatClampNeg 2 24 hL9 rfl ginX5 (by decide) tw358 dX6_mark_35 (fun hL10 => ?_)
    refine lv_iload_n C.x C.b dX6_mark_38 rfl (lv_at hl 4 rfl) ?_
    refine lv_iload_n C.x C.b dX6_mark_39 rfl (lv_at hl 3 rfl) ?_
    refine lv_iload C.x C.b dX6_mark_40 (lv_at hl 0 rfl) ?_
    refine lv_iadd C.x C.b dX6_mark_42 ?_
    refine lv_i2b C.x C.b dX6_mark_43 rfl ?_
    obtain ⟨hi11, hf⟩ := g_ok hf
    refine g_bast (n := 200) C G 24 a1.toNatClampNeg hL10 (by decide) rfl hi11 dX6_mark_44 (fun H locs G => ?_)
    obtain ⟨σ12, eσ12, hf⟩ := g_lt hf
    rw [← eσ12] at G
    refine lv_aload_n C.x C.b dX6_mark_45 rfl (lv_at hl 1 rfl) ?_
    refine lv_dup C.x C.b dX6_mark_46 rfl ?_
    refine g_geti C G 6 0 7 hT rfl ginX6 (by decide) tw133 dX6_mark_47 ?_
    refine lv_iload C.x C.b dX6_mark_50 (lv_at hl 6 rfl) ?_
    refine lv_if_eq (tgt := 59) C.x C.b dX6_mark_52 (by decide) (fun cb => ?_) (fun cb => ?_)
    · have hf := g_t cb hf
      refine lv_iconst (v := (-1 : Int32)) C.x C.b dX6_mark_59 (by decide) ?_
      refine lv_iadd C.x C.b dX6_mark_60 ?_
      refine g_puti C G 6 0 7 hT (v := ((σ12 6 0 7) + (-1 : Int32))) rfl ginX6 tyX6_ok nmX6 (by decide) ⟨rfl, rfl⟩ tw133 dX6_mark_61 (fun H locs G => ?_)
      obtain ⟨σ13, eσ13, hf⟩ := g_lt hf
      rw [← eσ13] at G
      exact g_evi C G hr hlocks hf dX6_mark_64
    · have hf := g_f cb hf
      refine lv_iconst (v := (1 : Int32)) C.x C.b dX6_mark_55 (by decide) ?_
      refine lv_goto (tgt := 60) C.x C.b dX6_mark_56 (by decide) ?_
      refine lv_iadd C.x C.b dX6_mark_60 ?_
      refine g_puti C G 6 0 7 hT (v := ((σ12 6 0 7) + (1 : Int32))) rfl ginX6 tyX6_ok nmX6 (by decide) ⟨rfl, rfl⟩ tw133 dX6_mark_61 (fun H locs G => ?_)
      obtain ⟨σ14, eσ14, hf⟩ := g_lt hf
      rw [← eσ14] at G
      exact g_evi C G hr hlocks hf dX6_mark_64
  unfold f_X6_mark at hf
  refine lv_iload C.x C.b dX6_mark_0 (lv_at hl 5 rfl) ?_
  refine lv_if_eq (tgt := 10) C.x C.b dX6_mark_2 (by decide) (fun cb => ?_) (fun cb => ?_)
  · have hf := g_t cb hf
    refine lv_iconst (v := (0 : Int32)) C.x C.b dX6_mark_10 (by decide) ?_
    exact pt11 σ (0 : Int32) _ _ ls G (lv_sub hl [0, 1, 2, 3, 4, 5] rfl) hf
  · have hf := g_f cb hf
    refine lv_bipush (v := (100 : Int32)) C.x C.b dX6_mark_5 (by decide) ?_
    refine lv_goto (tgt := 11) C.x C.b dX6_mark_7 (by decide) ?_
    exact pt11 σ (100 : Int32) _ _ ls G (lv_sub hl [0, 1, 2, 3, 4, 5] rfl) hf
def f_X6_firstBar_P160 (σ : gS) : Option (Int32 × gS) := (some ((-2 : Int32), σ))
def f_X6_firstBar_L107 (ad : gA) (a2 : Int32) (a3 : Int32) (K107 : gS → Option (Int32 × gS)) : Nat → gS → Nat → Int32 → Option (Int32 × gS)
  | 0, _, _, _ => none
  | n + 1, σ, v5, v6 => (if (σ 6 0 5) ≤ v6 then (K107 σ) else (if g_ix v6 20 then (if σ 27 0 v6.toNatClampNeg < 0 then none else ((f_X2_binds ad σ v6.toNatClampNeg a2 a3).bind fun q21 => (if q21 = 0 then (f_X6_firstBar_L107 ad a2 a3 K107 n σ v5 (v6 + (1 : Int32))) else (if g_ix v6 20 then (if σ 27 0 v6.toNatClampNeg < 0 then none else ((f_X2_bars ad σ v6.toNatClampNeg v5 a3).bind fun q27 => (if q27 = 0 then (f_X6_firstBar_L107 ad a2 a3 K107 n σ v5 (v6 + (1 : Int32))) else (some (v6, σ))))) else none)))) else none))
def f_X6_firstBar_P72 (ad : gA) (a2 : Int32) (a3 : Int32) (σ : gS) (v5 : Nat) : Option (Int32 × gS) := (if g_ix a2 8 then (if σ 25 0 a2.toNatClampNeg < 0 then none else (if (σ 3 a2.toNatClampNeg 1) = 0 then (if g_ix a2 8 then (if σ 25 0 a2.toNatClampNeg < 0 then none else ((f_X4_look ad σ v5 a2.toNatClampNeg a2 a3).bind fun σ16 => (f_X6_firstBar_L107 ad a2 a3 (f_X6_firstBar_P160) g_fuel σ16 v5 (0 : Int32)))) else none) else (some ((-2 : Int32), σ)))) else none)
def f_X6_firstBar_P53 (ad : gA) (a2 : Int32) (a3 : Int32) (a4 : Int32) (σ : gS) (v5 : Nat) : Option (Int32 × gS) := (if a4 = 0 then (f_X6_firstBar_P72 ad a2 a3 σ v5) else (if g_ix a3 200 then (if (σ 24 v5 a3.toNatClampNeg) = (-1 : Int32) then (f_X6_firstBar_P72 ad a2 a3 σ v5) else (some ((-7 : Int32), σ))) else none))
def f_X6_firstBar (ad : gA) (σ : gS) (a1 : Int32) (a2 : Int32) (a3 : Int32) (a4 : Int32) : Option (Int32 × gS) := (if g_ix a1 24 then (if σ 26 0 a1.toNatClampNeg < 0 then none else (if a3 < (σ 5 a1.toNatClampNeg 5) then (if (σ 5 a1.toNatClampNeg 3) ≤ a3 then (if a3 < (σ 5 a1.toNatClampNeg 6) then (f_X6_firstBar_P53 ad a2 a3 a4 σ a1.toNatClampNeg) else (if (σ 5 a1.toNatClampNeg 7) < a3 then (f_X6_firstBar_P53 ad a2 a3 a4 σ a1.toNatClampNeg) else (some ((-6 : Int32), σ)))) else (some ((-5 : Int32), σ))) else (some ((-4 : Int32), σ)))) else none)
theorem hd_X6_firstBar : yX6_firstBar.cls ≠ "java/lang/invoke/MethodHandle" ∧ yX6_firstBar.cls ≠ "java/lang/invoke/VarHandle" ∧ (parseMethodDescriptor yX6_firstBar.desc).map (fun d => d.parameters.length) = some 4 := by decide +kernel
set_option maxHeartbeats 4000000 in
set_option maxRecDepth 100000 in
theorem c_X6_firstBar (l : Launch) (D : va_G) (cy : Nat → ClassId) (A : Nat → Prop) (ad : gA) (L : gL)  (σ : gS) (hT : (6, 0) ∈ L) (a1 : Int32) (a2 : Int32) (a3 : Int32) (a4 : Int32) (r0 : Int32) (σ0 : gS) (hf : f_X6_firstBar ad σ a1 a2 a3 a4 = some (r0, σ0)) : g_Mi l yX6_firstBar cX6_firstBar 7 (some .int) ({ frames := 3, cells := 0, slots := 0, locals := 72 } : Room) D cy A ad L σ [.ref (ad 6 0), .int a1, .int a2, .int a3, .int a4] r0 σ0 := by
  refine g_met (by decide) (Nat.le_of_ble_eq_true rfl) (fun p e s m below meth c C hr hlocks hnm G ls hl => ?_)
  have hl : lv_has ls 7 [(0, .ref (ad 6 0)), (1, .int a1), (2, .int a2), (3, .int a3), (4, .int a4)] := hl
  have pt160 : ∀ (σ : gS) (H : Heap) (locs : List Loc) (ls : Array Slot), g_H D cy A ad L σ s.heap H locs → lv_has ls 7 [] → f_X6_firstBar_P160 σ = some (r0, σ0) → g_Wi p l e ({ frames := 3, cells := 0, slots := 0, locals := 72 } : Room) s m below meth c H locs 0 0 D cy A ad L [.ref (ad 6 0), .int a1, .int a2, .int a3, .int a4] r0 σ0 (F0 m 160 ls []) := by
    intro σ H locs ls G hl hf
    unfold f_X6_firstBar_P160 at hf
    refine lv_bipush (v := (-2 : Int32)) C.x C.b dX6_firstBar_160 (by decide) ?_
    exact g_eii C G hr hlocks hf dX6_firstBar_162
  have lp107 : ∀ n107 : Nat, ∀ (σ : gS) (v5 : Nat) (v6 : Int32), (5, v5) ∈ L → ∀ (H : Heap) (locs : List Loc) (ls : Array Slot), g_H D cy A ad L σ s.heap H locs → lv_has ls 7 [(0, .ref (ad 6 0)), (2, .int a2), (3, .int a3), (5, .ref (ad 5 v5)), (6, .int v6)] → f_X6_firstBar_L107 ad a2 a3 (f_X6_firstBar_P160) n107 σ v5 v6 = some (r0, σ0) → g_Wi p l e ({ frames := 3, cells := 0, slots := 0, locals := 72 } : Room) s m below meth c H locs 0 0 D cy A ad L [.ref (ad 6 0), .int a1, .int a2, .int a3, .int a4] r0 σ0 (F0 m 107 ls []) := by
    intro n107
    induction n107 with
    | zero =>
      intro σ v5 v6 hv5 H locs ls G hl hf
      rw [f_X6_firstBar_L107] at hf
      cases hf
    | succ n107 ih107 =>
      intro σ v5 v6 hv5 H locs ls G hl hf
      rw [f_X6_firstBar_L107] at hf
      refine lv_iload C.x C.b dX6_firstBar_107 (lv_at hl 4 rfl) ?_
      refine lv_aload_n C.x C.b dX6_firstBar_109 rfl (lv_at hl 0 rfl) ?_
      refine g_geti C G 6 0 5 hT rfl ginX6 (by decide) tw129 dX6_firstBar_110 ?_
      refine lv_icmp_ge (tgt := 160) C.x C.b dX6_firstBar_113 (by decide) (fun cb => ?_) (fun cb => ?_)
      · have hf := g_t cb hf
        exact pt160 σ _ _ ls G (lv_sub hl [] rfl) hf
      · have hf := g_f cb hf
        refine lv_aload_n C.x C.b dX6_firstBar_116 rfl (lv_at hl 0 rfl) ?_
        refine g_getr C G 6 0 2 27 hT rfl ginX6 (by decide) tw121 dX6_firstBar_117 (fun hL17 => ?_)
        refine lv_iload C.x C.b dX6_firstBar_120 (lv_at hl 4 rfl) ?_
        obtain ⟨hi18, hf⟩ := g_ok hf
        obtain ⟨hq19, hf⟩ := g_okn hf
        refine g_aldq (n := 20) C G 27 0 2 hL17 (by decide) rfl rfl hi18 hq19 dX6_firstBar_122 (fun hL20 => ?_)
        refine lv_iload_n C.x C.b dX6_firstBar_123 rfl (lv_at hl 1 rfl) ?_
        refine lv_iload_n C.x C.b dX6_firstBar_124 rfl (lv_at hl 2 rfl) ?_
        obtain ⟨q21, eq21, hf⟩ := g_b hf
        refine g_calli G (g_runV (As := [.int a2, .int a3]) (rest := []) C G 2 v6.toNatClampNeg (c_X2_binds l D cy A ad L σ v6.toNatClampNeg hL20 a2 a3 q21 eq21) ⟨tw577, tw64, tw574, ⟨tw575, tw576⟩, hd_X2_binds⟩ (by decide) hL20 rfl ⟨rfl, by decide⟩ hl.1 rfl (Nat.le_of_ble_eq_true rfl) dX6_firstBar_125 ⟨Nat.le_of_ble_eq_true rfl, Nat.le_of_ble_eq_true rfl⟩) (fun H locs G => ?_)
        refine lv_if_eq (tgt := 154) C.x C.b dX6_firstBar_128 (by decide) (fun cb => ?_) (fun cb => ?_)
        · have hf := g_t cb hf
          refine lv_iinc (v := (v6 + (1 : Int32))) (lv' := [(6, .int (v6 + (1 : Int32))), (0, .ref (ad 6 0)), (2, .int a2), (3, .int a3), (5, .ref (ad 5 v5))]) C.x C.b dX6_firstBar_154 hl (k := 4) rfl rfl (by decide) rfl (fun ls hl => ?_)
          refine lv_goto (tgt := 107) C.x C.b dX6_firstBar_157 (by decide) ?_
          exact ih107 σ v5 (v6 + (1 : Int32)) hv5 _ _ ls G (lv_sub hl [1, 2, 3, 4, 0] rfl) hf
        · have hf := g_f cb hf
          refine lv_aload_n C.x C.b dX6_firstBar_131 rfl (lv_at hl 0 rfl) ?_
          refine g_getr C G 6 0 2 27 hT rfl ginX6 (by decide) tw121 dX6_firstBar_132 (fun hL22 => ?_)
          refine lv_iload C.x C.b dX6_firstBar_135 (lv_at hl 4 rfl) ?_
          obtain ⟨hi23, hf⟩ := g_ok hf
          obtain ⟨hq24, hf⟩ := g_okn hf
          refine g_aldq (n := 20) C G 27 0 2 hL22 (by decide) rfl rfl hi23 hq24 dX6_firstBar_137 (fun hL25 => ?_)
          refine lv_aload C.x C.b dX6_firstBar_138 (lv_at hl 3 rfl) ?_
          refine lv_iload_n C.x C.b dX6_firstBar_140 rfl (lv_at hl 2 rfl) ?_
          refine lv_aload_n C.x C.b dX6_firstBar_141 rfl (lv_at hl 0 rfl) ?_
          refine g_getr C G 6 0 8 4 hT rfl ginX6 (by decide) tw135 dX6_firstBar_142 (fun hL26 => ?_)
          obtain ⟨q27, eq27, hf⟩ := g_b hf
          refine g_calli G (g_runV (As := [.ref (ad 5 v5), .int a3, .ref (ad 4 0)]) (rest := []) C G 2 v6.toNatClampNeg (c_X2_bars l D cy A ad L σ v6.toNatClampNeg hL25 v5 hv5 a3 hL26 q27 eq27) ⟨tw581, tw64, tw578, ⟨tw579, tw580⟩, hd_X2_bars⟩ (by decide) hL25 rfl ⟨rfl, by decide⟩ hl.1 rfl (Nat.le_of_ble_eq_true rfl) dX6_firstBar_145 ⟨Nat.le_of_ble_eq_true rfl, Nat.le_of_ble_eq_true rfl⟩) (fun H locs G => ?_)
          refine lv_if_eq (tgt := 154) C.x C.b dX6_firstBar_148 (by decide) (fun cb => ?_) (fun cb => ?_)
          · have hf := g_t cb hf
            refine lv_iinc (v := (v6 + (1 : Int32))) (lv' := [(6, .int (v6 + (1 : Int32))), (0, .ref (ad 6 0)), (2, .int a2), (3, .int a3), (5, .ref (ad 5 v5))]) C.x C.b dX6_firstBar_154 hl (k := 4) rfl rfl (by decide) rfl (fun ls hl => ?_)
            refine lv_goto (tgt := 107) C.x C.b dX6_firstBar_157 (by decide) ?_
            exact ih107 σ v5 (v6 + (1 : Int32)) hv5 _ _ ls G (lv_sub hl [1, 2, 3, 4, 0] rfl) hf
          · have hf := g_f cb hf
            refine lv_iload C.x C.b dX6_firstBar_151 (lv_at hl 4 rfl) ?_
            exact g_eii C G hr hlocks hf dX6_firstBar_153
  have pt72 : ∀ (σ : gS) (v5 : Nat), (5, v5) ∈ L → ∀ (H : Heap) (locs : List Loc) (ls : Array Slot), g_H D cy A ad L σ s.heap H locs → lv_has ls 7 [(0, .ref (ad 6 0)), (2, .int a2), (3, .int a3), (5, .ref (ad 5 v5))] → f_X6_firstBar_P72 ad a2 a3 σ v5 = some (r0, σ0) → g_Wi p l e ({ frames := 3, cells := 0, slots := 0, locals := 72 } : Room) s m below meth c H locs 0 0 D cy A ad L [.ref (ad 6 0), .int a1, .int a2, .int a3, .int a4] r0 σ0 (F0 m 72 ls []) := by
    intro σ v5 hv5 H locs ls G hl hf
    unfold f_X6_firstBar_P72 at hf
    refine lv_aload_n C.x C.b dX6_firstBar_72 rfl (lv_at hl 0 rfl) ?_
    refine g_getr C G 6 0 0 25 hT rfl ginX6 (by decide) tw115 dX6_firstBar_73 (fun hL7 => ?_)
    refine lv_iload_n C.x C.b dX6_firstBar_76 rfl (lv_at hl 1 rfl) ?_
    obtain ⟨hi8, hf⟩ := g_ok hf
    obtain ⟨hq9, hf⟩ := g_okn hf
    refine g_aldq (n := 8) C G 25 0 3 hL7 (by decide) rfl rfl hi8 hq9 dX6_firstBar_77 (fun hL10 => ?_)
    refine g_geti C G 3 a2.toNatClampNeg 1 hL10 rfl ginX3 (by decide) tw317 dX6_firstBar_78 ?_
    refine lv_if_eq (tgt := 87) C.x C.b dX6_firstBar_81 (by decide) (fun cb => ?_) (fun cb => ?_)
    · have hf := g_t cb hf
      refine lv_aload_n C.x C.b dX6_firstBar_87 rfl (lv_at hl 0 rfl) ?_
      refine g_getr C G 6 0 8 4 hT rfl ginX6 (by decide) tw135 dX6_firstBar_88 (fun hL11 => ?_)
      refine lv_aload C.x C.b dX6_firstBar_91 (lv_at hl 3 rfl) ?_
      refine lv_aload_n C.x C.b dX6_firstBar_93 rfl (lv_at hl 0 rfl) ?_
      refine g_getr C G 6 0 0 25 hT rfl ginX6 (by decide) tw115 dX6_firstBar_94 (fun hL12 => ?_)
      refine lv_iload_n C.x C.b dX6_firstBar_97 rfl (lv_at hl 1 rfl) ?_
      obtain ⟨hi13, hf⟩ := g_ok hf
      obtain ⟨hq14, hf⟩ := g_okn hf
      refine g_aldq (n := 8) C G 25 0 3 hL12 (by decide) rfl rfl hi13 hq14 dX6_firstBar_98 (fun hL15 => ?_)
      refine lv_iload_n C.x C.b dX6_firstBar_99 rfl (lv_at hl 1 rfl) ?_
      refine lv_iload_n C.x C.b dX6_firstBar_100 rfl (lv_at hl 2 rfl) ?_
      obtain ⟨σ16, eσ16, hf⟩ := g_b hf
      refine g_callv G (g_runV (As := [.ref (ad 5 v5), .ref (ad 3 a2.toNatClampNeg), .int a2, .int a3]) (rest := []) C G 4 0 (c_X4_look l D cy A ad L σ hL11 v5 hv5 a2.toNatClampNeg hL15 a2 a3 σ16 eσ16) ⟨tw569, tw56, tw566, ⟨tw567, tw568⟩, hd_X4_look⟩ (by decide) hL11 rfl ⟨rfl, by decide⟩ hl.1 rfl (Nat.le_of_ble_eq_true rfl) dX6_firstBar_101 ⟨Nat.le_of_ble_eq_true rfl, Nat.le_of_ble_eq_true rfl⟩) (fun H locs G => ?_)
      refine lv_iconst (v := (0 : Int32)) C.x C.b dX6_firstBar_104 (by decide) ?_
      refine lv_istore (lv' := [(6, .int (0 : Int32)), (0, .ref (ad 6 0)), (2, .int a2), (3, .int a3), (5, .ref (ad 5 v5))]) C.x C.b dX6_firstBar_105 hl (by decide) rfl (fun ls hl => ?_)
      exact lp107 g_fuel σ16 v5 (0 : Int32) hv5 _ _ ls G (lv_sub hl [1, 2, 3, 4, 0] rfl) hf
    · have hf := g_f cb hf
      refine lv_bipush (v := (-2 : Int32)) C.x C.b dX6_firstBar_84 (by decide) ?_
      exact g_eii C G hr hlocks hf dX6_firstBar_86
  have pt53 : ∀ (σ : gS) (v5 : Nat), (5, v5) ∈ L → ∀ (H : Heap) (locs : List Loc) (ls : Array Slot), g_H D cy A ad L σ s.heap H locs → lv_has ls 7 [(0, .ref (ad 6 0)), (2, .int a2), (3, .int a3), (4, .int a4), (5, .ref (ad 5 v5))] → f_X6_firstBar_P53 ad a2 a3 a4 σ v5 = some (r0, σ0) → g_Wi p l e ({ frames := 3, cells := 0, slots := 0, locals := 72 } : Room) s m below meth c H locs 0 0 D cy A ad L [.ref (ad 6 0), .int a1, .int a2, .int a3, .int a4] r0 σ0 (F0 m 53 ls []) := by
    intro σ v5 hv5 H locs ls G hl hf
    unfold f_X6_firstBar_P53 at hf
    refine lv_iload C.x C.b dX6_firstBar_53 (lv_at hl 3 rfl) ?_
    refine lv_if_eq (tgt := 72) C.x C.b dX6_firstBar_55 (by decide) (fun cb => ?_) (fun cb => ?_)
    · have hf := g_t cb hf
      exact pt72 σ v5 hv5 _ _ ls G (lv_sub hl [0, 1, 2, 4] rfl) hf
    · have hf := g_f cb hf
      refine lv_aload C.x C.b dX6_firstBar_58 (lv_at hl 4 rfl) ?_
      refine g_getr C G 5 v5 2 24 hv5 rfl ginX5 (by decide) tw358 dX6_firstBar_60 (fun hL5 => ?_)
      refine lv_iload_n C.x C.b dX6_firstBar_63 rfl (lv_at hl 2 rfl) ?_
      obtain ⟨hi6, hf⟩ := g_ok hf
      refine g_bald (n := 200) C G 24 v5 hL5 (by decide) rfl hi6 dX6_firstBar_64 ?_
      refine lv_iconst (v := (-1 : Int32)) C.x C.b dX6_firstBar_65 (by decide) ?_
      refine lv_icmp_eq (tgt := 72) C.x C.b dX6_firstBar_66 (by decide) (fun cb => ?_) (fun cb => ?_)
      · have hf := g_t cb hf
        exact pt72 σ v5 hv5 _ _ ls G (lv_sub hl [0, 1, 2, 4] rfl) hf
      · have hf := g_f cb hf
        refine lv_bipush (v := (-7 : Int32)) C.x C.b dX6_firstBar_69 (by decide) ?_
        exact g_eii C G hr hlocks hf dX6_firstBar_71
  unfold f_X6_firstBar at hf
  refine lv_aload_n C.x C.b dX6_firstBar_0 rfl (lv_at hl 0 rfl) ?_
  refine g_getr C G 6 0 1 26 hT rfl ginX6 (by decide) tw118 dX6_firstBar_1 (fun hL1 => ?_)
  refine lv_iload_n C.x C.b dX6_firstBar_4 rfl (lv_at hl 1 rfl) ?_
  obtain ⟨hi2, hf⟩ := g_ok hf
  obtain ⟨hq3, hf⟩ := g_okn hf
  refine g_aldq (n := 24) C G 26 0 5 hL1 (by decide) rfl rfl hi2 hq3 dX6_firstBar_5 (fun hL4 => ?_)
  refine lv_astore (lv' := [(5, .ref (ad 5 a1.toNatClampNeg)), (0, .ref (ad 6 0)), (1, .int a1), (2, .int a2), (3, .int a3), (4, .int a4)]) C.x C.b dX6_firstBar_6 hl (by decide) rfl (fun ls hl => ?_)
  refine lv_iload_n C.x C.b dX6_firstBar_8 rfl (lv_at hl 4 rfl) ?_
  refine lv_aload C.x C.b dX6_firstBar_9 (lv_at hl 0 rfl) ?_
  refine g_geti C G 5 a1.toNatClampNeg 5 hL4 rfl ginX5 (by decide) tw371 dX6_firstBar_11 ?_
  refine lv_icmp_lt (tgt := 20) C.x C.b dX6_firstBar_14 (by decide) (fun cb => ?_) (fun cb => ?_)
  · have hf := g_t cb hf
    refine lv_iload_n C.x C.b dX6_firstBar_20 rfl (lv_at hl 4 rfl) ?_
    refine lv_aload C.x C.b dX6_firstBar_21 (lv_at hl 0 rfl) ?_
    refine g_geti C G 5 a1.toNatClampNeg 3 hL4 rfl ginX5 (by decide) tw363 dX6_firstBar_23 ?_
    refine lv_icmp_ge (tgt := 32) C.x C.b dX6_firstBar_26 (by decide) (fun cb => ?_) (fun cb => ?_)
    · have hf := g_t cb hf
      refine lv_iload_n C.x C.b dX6_firstBar_32 rfl (lv_at hl 4 rfl) ?_
      refine lv_aload C.x C.b dX6_firstBar_33 (lv_at hl 0 rfl) ?_
      refine g_geti C G 5 a1.toNatClampNeg 6 hL4 rfl ginX5 (by decide) tw374 dX6_firstBar_35 ?_
      refine lv_icmp_lt (tgt := 53) C.x C.b dX6_firstBar_38 (by decide) (fun cb => ?_) (fun cb => ?_)
      · have hf := g_t cb hf
        exact pt53 σ a1.toNatClampNeg hL4 _ _ ls G (lv_sub hl [1, 3, 4, 5, 0] rfl) hf
      · have hf := g_f cb hf
        refine lv_iload_n C.x C.b dX6_firstBar_41 rfl (lv_at hl 4 rfl) ?_
        refine lv_aload C.x C.b dX6_firstBar_42 (lv_at hl 0 rfl) ?_
        refine g_geti C G 5 a1.toNatClampNeg 7 hL4 rfl ginX5 (by decide) tw377 dX6_firstBar_44 ?_
        refine lv_icmp_gt (tgt := 53) C.x C.b dX6_firstBar_47 (by decide) (fun cb => ?_) (fun cb => ?_)
        · have hf := g_t cb hf
          exact pt53 σ a1.toNatClampNeg hL4 _ _ ls G (lv_sub hl [1, 3, 4, 5, 0] rfl) hf
        · have hf := g_f cb hf
          refine lv_bipush (v := (-6 : Int32)) C.x C.b dX6_firstBar_50 (by decide) ?_
          exact g_eii C G hr hlocks hf dX6_firstBar_52
    · have hf := g_f cb hf
      refine lv_bipush (v := (-5 : Int32)) C.x C.b dX6_firstBar_29 (by decide) ?_
      exact g_eii C G hr hlocks hf dX6_firstBar_31
  · have hf := g_f cb hf
    refine lv_bipush (v := (-4 : Int32)) C.x C.b dX6_firstBar_17 (by decide) ?_
    exact g_eii C G hr hlocks hf dX6_firstBar_19
def f_X6_level_P84 (σ : gS) : Option (Int32 × gS) := (some ((2 : Int32), σ))
def f_X6_level_L32 (ad : gA) (a1 : Int32) (a2 : Int32) (a3 : Int32) (K32 : gS → Option (Int32 × gS)) : Nat → gS → Int32 → Option (Int32 × gS)
  | 0, _, _ => none
  | n + 1, σ, v4 => (if (σ 6 0 5) ≤ v4 then (K32 σ) else (if g_ix v4 20 then (if σ 27 0 v4.toNatClampNeg < 0 then none else ((f_X2_binds ad σ v4.toNatClampNeg a2 a3).bind fun q10 => (if q10 = 0 then (f_X6_level_L32 ad a1 a2 a3 K32 n σ (v4 + (1 : Int32))) else (if g_ix v4 20 then (if σ 27 0 v4.toNatClampNeg < 0 then none else (if g_ix a1 24 then (if σ 26 0 a1.toNatClampNeg < 0 then none else ((f_X2_leavesDoubt ad σ v4.toNatClampNeg a1.toNatClampNeg a3).bind fun q19 => (if q19 = 0 then (f_X6_level_L32 ad a1 a2 a3 K32 n σ (v4 + (1 : Int32))) else (some ((1 : Int32), σ))))) else none)) else none)))) else none))
def f_X6_level (ad : gA) (σ : gS) (a1 : Int32) (a2 : Int32) (a3 : Int32) : Option (Int32 × gS) := ((f_X6_firstBar ad σ a1 a2 a3 (1 : Int32)).bind fun q1 => (if q1.1 = (-2 : Int32) then (if g_ix a2 8 then (if q1.2 25 0 a2.toNatClampNeg < 0 then none else (if (q1.2 3 a2.toNatClampNeg 1) = 0 then (f_X6_level_L32 ad a1 a2 a3 (f_X6_level_P84) g_fuel q1.2 (0 : Int32)) else (some ((2 : Int32), q1.2)))) else none) else (some ((0 : Int32), q1.2))))
theorem hd_X6_level : yX6_level.cls ≠ "java/lang/invoke/MethodHandle" ∧ yX6_level.cls ≠ "java/lang/invoke/VarHandle" ∧ (parseMethodDescriptor yX6_level.desc).map (fun d => d.parameters.length) = some 3 := by decide +kernel
set_option maxHeartbeats 4000000 in
set_option maxRecDepth 100000 in
theorem c_X6_level (l : Launch) (D : va_G) (cy : Nat → ClassId) (A : Nat → Prop) (ad : gA) (L : gL)  (σ : gS) (hT : (6, 0) ∈ L) (a1 : Int32) (a2 : Int32) (a3 : Int32) (r0 : Int32) (σ0 : gS) (hf : f_X6_level ad σ a1 a2 a3 = some (r0, σ0)) : g_Mi l yX6_level cX6_level 5 (some .int) ({ frames := 4, cells := 0, slots := 0, locals := 98 } : Room) D cy A ad L σ [.ref (ad 6 0), .int a1, .int a2, .int a3] r0 σ0 := by
  refine g_met (by decide) (Nat.le_of_ble_eq_true rfl) (fun p e s m below meth c C hr hlocks hnm G ls hl => ?_)
  have hl : lv_has ls 5 [(0, .ref (ad 6 0)), (1, .int a1), (2, .int a2), (3, .int a3)] := hl
  have pt84 : ∀ (σ : gS) (H : Heap) (locs : List Loc) (ls : Array Slot), g_H D cy A ad L σ s.heap H locs → lv_has ls 5 [] → f_X6_level_P84 σ = some (r0, σ0) → g_Wi p l e ({ frames := 4, cells := 0, slots := 0, locals := 98 } : Room) s m below meth c H locs 0 0 D cy A ad L [.ref (ad 6 0), .int a1, .int a2, .int a3] r0 σ0 (F0 m 84 ls []) := by
    intro σ H locs ls G hl hf
    unfold f_X6_level_P84 at hf
    refine lv_iconst (v := (2 : Int32)) C.x C.b dX6_level_84 (by decide) ?_
    exact g_eii C G hr hlocks hf dX6_level_85
  have lp32 : ∀ n32 : Nat, ∀ (σ : gS) (v4 : Int32) (H : Heap) (locs : List Loc) (ls : Array Slot), g_H D cy A ad L σ s.heap H locs → lv_has ls 5 [(0, .ref (ad 6 0)), (1, .int a1), (2, .int a2), (3, .int a3), (4, .int v4)] → f_X6_level_L32 ad a1 a2 a3 (f_X6_level_P84) n32 σ v4 = some (r0, σ0) → g_Wi p l e ({ frames := 4, cells := 0, slots := 0, locals := 98 } : Room) s m below meth c H locs 0 0 D cy A ad L [.ref (ad 6 0), .int a1, .int a2, .int a3] r0 σ0 (F0 m 32 ls []) := by
    intro n32
    induction n32 with
    | zero =>
      intro σ v4 H locs ls G hl hf
      rw [f_X6_level_L32] at hf
      cases hf
    | succ n32 ih32 =>
      intro σ v4 H locs ls G hl hf
      rw [f_X6_level_L32] at hf
      refine lv_iload C.x C.b dX6_level_32 (lv_at hl 4 rfl) ?_
      refine lv_aload_n C.x C.b dX6_level_34 rfl (lv_at hl 0 rfl) ?_
      refine g_geti C G 6 0 5 hT rfl ginX6 (by decide) tw129 dX6_level_35 ?_
      refine lv_icmp_ge (tgt := 84) C.x C.b dX6_level_38 (by decide) (fun cb => ?_) (fun cb => ?_)
      · have hf := g_t cb hf
        exact pt84 σ _ _ ls G (lv_sub hl [] rfl) hf
      · have hf := g_f cb hf
        refine lv_aload_n C.x C.b dX6_level_41 rfl (lv_at hl 0 rfl) ?_
        refine g_getr C G 6 0 2 27 hT rfl ginX6 (by decide) tw121 dX6_level_42 (fun hL6 => ?_)
        refine lv_iload C.x C.b dX6_level_45 (lv_at hl 4 rfl) ?_
        obtain ⟨hi7, hf⟩ := g_ok hf
        obtain ⟨hq8, hf⟩ := g_okn hf
        refine g_aldq (n := 20) C G 27 0 2 hL6 (by decide) rfl rfl hi7 hq8 dX6_level_47 (fun hL9 => ?_)
        refine lv_iload_n C.x C.b dX6_level_48 rfl (lv_at hl 2 rfl) ?_
        refine lv_iload_n C.x C.b dX6_level_49 rfl (lv_at hl 3 rfl) ?_
        obtain ⟨q10, eq10, hf⟩ := g_b hf
        refine g_calli G (g_runV (As := [.int a2, .int a3]) (rest := []) C G 2 v4.toNatClampNeg (c_X2_binds l D cy A ad L σ v4.toNatClampNeg hL9 a2 a3 q10 eq10) ⟨tw577, tw64, tw574, ⟨tw575, tw576⟩, hd_X2_binds⟩ (by decide) hL9 rfl ⟨rfl, by decide⟩ hl.1 rfl (Nat.le_of_ble_eq_true rfl) dX6_level_50 ⟨Nat.le_of_ble_eq_true rfl, Nat.le_of_ble_eq_true rfl⟩) (fun H locs G => ?_)
        refine lv_if_eq (tgt := 78) C.x C.b dX6_level_53 (by decide) (fun cb => ?_) (fun cb => ?_)
        · have hf := g_t cb hf
          refine lv_iinc (v := (v4 + (1 : Int32))) (lv' := [(4, .int (v4 + (1 : Int32))), (0, .ref (ad 6 0)), (1, .int a1), (2, .int a2), (3, .int a3)]) C.x C.b dX6_level_78 hl (k := 4) rfl rfl (by decide) rfl (fun ls hl => ?_)
          refine lv_goto (tgt := 32) C.x C.b dX6_level_81 (by decide) ?_
          exact ih32 σ (v4 + (1 : Int32)) _ _ ls G (lv_sub hl [1, 2, 3, 4, 0] rfl) hf
        · have hf := g_f cb hf
          refine lv_aload_n C.x C.b dX6_level_56 rfl (lv_at hl 0 rfl) ?_
          refine g_getr C G 6 0 2 27 hT rfl ginX6 (by decide) tw121 dX6_level_57 (fun hL11 => ?_)
          refine lv_iload C.x C.b dX6_level_60 (lv_at hl 4 rfl) ?_
          obtain ⟨hi12, hf⟩ := g_ok hf
          obtain ⟨hq13, hf⟩ := g_okn hf
          refine g_aldq (n := 20) C G 27 0 2 hL11 (by decide) rfl rfl hi12 hq13 dX6_level_62 (fun hL14 => ?_)
          refine lv_aload_n C.x C.b dX6_level_63 rfl (lv_at hl 0 rfl) ?_
          refine g_getr C G 6 0 1 26 hT rfl ginX6 (by decide) tw118 dX6_level_64 (fun hL15 => ?_)
          refine lv_iload_n C.x C.b dX6_level_67 rfl (lv_at hl 1 rfl) ?_
          obtain ⟨hi16, hf⟩ := g_ok hf
          obtain ⟨hq17, hf⟩ := g_okn hf
          refine g_aldq (n := 24) C G 26 0 5 hL15 (by decide) rfl rfl hi16 hq17 dX6_level_68 (fun hL18 => ?_)
          refine lv_iload_n C.x C.b dX6_level_69 rfl (lv_at hl 3 rfl) ?_
          obtain ⟨q19, eq19, hf⟩ := g_b hf
          refine g_calli G (g_runV (As := [.ref (ad 5 a1.toNatClampNeg), .int a3]) (rest := []) C G 2 v4.toNatClampNeg (c_X2_leavesDoubt l D cy A ad L σ v4.toNatClampNeg hL14 a1.toNatClampNeg hL18 a3 q19 eq19) ⟨tw585, tw64, tw582, ⟨tw583, tw584⟩, hd_X2_leavesDoubt⟩ (by decide) hL14 rfl ⟨rfl, by decide⟩ hl.1 rfl (Nat.le_of_ble_eq_true rfl) dX6_level_70 ⟨Nat.le_of_ble_eq_true rfl, Nat.le_of_ble_eq_true rfl⟩) (fun H locs G => ?_)
          refine lv_if_eq (tgt := 78) C.x C.b dX6_level_73 (by decide) (fun cb => ?_) (fun cb => ?_)
          · have hf := g_t cb hf
            refine lv_iinc (v := (v4 + (1 : Int32))) (lv' := [(4, .int (v4 + (1 : Int32))), (0, .ref (ad 6 0)), (1, .int a1), (2, .int a2), (3, .int a3)]) C.x C.b dX6_level_78 hl (k := 4) rfl rfl (by decide) rfl (fun ls hl => ?_)
            refine lv_goto (tgt := 32) C.x C.b dX6_level_81 (by decide) ?_
            exact ih32 σ (v4 + (1 : Int32)) _ _ ls G (lv_sub hl [1, 2, 3, 4, 0] rfl) hf
          · have hf := g_f cb hf
            refine lv_iconst (v := (1 : Int32)) C.x C.b dX6_level_76 (by decide) ?_
            exact g_eii C G hr hlocks hf dX6_level_77
  unfold f_X6_level at hf
  refine lv_aload_n C.x C.b dX6_level_0 rfl (lv_at hl 0 rfl) ?_
  refine lv_iload_n C.x C.b dX6_level_1 rfl (lv_at hl 1 rfl) ?_
  refine lv_iload_n C.x C.b dX6_level_2 rfl (lv_at hl 2 rfl) ?_
  refine lv_iload_n C.x C.b dX6_level_3 rfl (lv_at hl 3 rfl) ?_
  refine lv_iconst (v := (1 : Int32)) C.x C.b dX6_level_4 (by decide) ?_
  obtain ⟨q1, eq1, hf⟩ := g_b hf
  refine g_calli G (g_runV (As := [.int a1, .int a2, .int a3, .int (1 : Int32)]) (rest := []) C G 6 0 (c_X6_firstBar l D cy A ad L σ hT a1 a2 a3 (1 : Int32) q1.1 q1.2 eq1) ⟨tw565, tw55, tw562, ⟨tw563, tw564⟩, hd_X6_firstBar⟩ (by decide) hT rfl ⟨rfl, by decide⟩ hl.1 rfl (Nat.le_of_ble_eq_true rfl) dX6_level_5 ⟨Nat.le_of_ble_eq_true rfl, Nat.le_of_ble_eq_true rfl⟩) (fun H locs G => ?_)
  refine lv_bipush (v := (-2 : Int32)) C.x C.b dX6_level_8 (by decide) ?_
  refine lv_icmp_eq (tgt := 15) C.x C.b dX6_level_10 (by decide) (fun cb => ?_) (fun cb => ?_)
  · have hf := g_t cb hf
    refine lv_aload_n C.x C.b dX6_level_15 rfl (lv_at hl 0 rfl) ?_
    refine g_getr C G 6 0 0 25 hT rfl ginX6 (by decide) tw115 dX6_level_16 (fun hL2 => ?_)
    refine lv_iload_n C.x C.b dX6_level_19 rfl (lv_at hl 2 rfl) ?_
    obtain ⟨hi3, hf⟩ := g_ok hf
    obtain ⟨hq4, hf⟩ := g_okn hf
    refine g_aldq (n := 8) C G 25 0 3 hL2 (by decide) rfl rfl hi3 hq4 dX6_level_20 (fun hL5 => ?_)
    refine g_geti C G 3 a2.toNatClampNeg 1 hL5 rfl ginX3 (by decide) tw317 dX6_level_21 ?_
    refine lv_if_eq (tgt := 29) C.x C.b dX6_level_24 (by decide) (fun cb => ?_) (fun cb => ?_)
    · have hf := g_t cb hf
      refine lv_iconst (v := (0 : Int32)) C.x C.b dX6_level_29 (by decide) ?_
      refine lv_istore (lv' := [(4, .int (0 : Int32)), (0, .ref (ad 6 0)), (1, .int a1), (2, .int a2), (3, .int a3)]) C.x C.b dX6_level_30 hl (by decide) rfl (fun ls hl => ?_)
      exact lp32 g_fuel q1.2 (0 : Int32) _ _ ls G (lv_sub hl [1, 2, 3, 4, 0] rfl) hf
    · have hf := g_f cb hf
      refine lv_iconst (v := (2 : Int32)) C.x C.b dX6_level_27 (by decide) ?_
      exact g_eii C G hr hlocks hf dX6_level_28
  · have hf := g_f cb hf
    refine lv_iconst (v := (0 : Int32)) C.x C.b dX6_level_13 (by decide) ?_
    exact g_eii C G hr hlocks hf dX6_level_14
def f_X6_breachesIn_P67 (σ : gS) (v4 : Int32) : Option (Int32 × gS) := (some (v4, σ))
def f_X6_breachesIn_L13 (ad : gA) (a1 : Int32) (a2 : Int32) (K13 : gS → Int32 → Option (Int32 × gS)) : Nat → gS → Nat → Int32 → Int32 → Option (Int32 × gS)
  | 0, _, _, _, _ => none
  | n + 1, σ, v3, v4, v5 => (if (σ 3 v3 0) ≤ v5 then (K13 σ v4) else ((f_X3_code ad σ v3 a2 v5).bind fun q5 => (if q5 = (-1 : Int32) then (f_X6_breachesIn_L13 ad a1 a2 K13 n σ v3 v4 (v5 + (1 : Int32))) else (if (100 : Int32) ≤ q5 then (f_X6_breachesIn_L13 ad a1 a2 K13 n σ v3 v4 (v5 + (1 : Int32))) else ((f_X6_firstBar ad σ q5 a1 a2 (0 : Int32)).bind fun q6 => (if q6.1 = (-2 : Int32) then (f_X6_breachesIn_L13 ad a1 a2 K13 n q6.2 v3 v4 (v5 + (1 : Int32))) else (f_X6_breachesIn_L13 ad a1 a2 K13 n q6.2 v3 (v4 + (1 : Int32)) (v5 + (1 : Int32)))))))))
def f_X6_breachesIn (ad : gA) (σ : gS) (a1 : Int32) (a2 : Int32) : Option (Int32 × gS) := (if g_ix a1 8 then (if σ 25 0 a1.toNatClampNeg < 0 then none else (f_X6_breachesIn_L13 ad a1 a2 (f_X6_breachesIn_P67) g_fuel σ a1.toNatClampNeg (0 : Int32) (0 : Int32))) else none)
theorem hd_X6_breachesIn : yX6_breachesIn.cls ≠ "java/lang/invoke/MethodHandle" ∧ yX6_breachesIn.cls ≠ "java/lang/invoke/VarHandle" ∧ (parseMethodDescriptor yX6_breachesIn.desc).map (fun d => d.parameters.length) = some 2 := by decide +kernel
set_option maxHeartbeats 4000000 in
set_option maxRecDepth 100000 in
theorem c_X6_breachesIn (l : Launch) (D : va_G) (cy : Nat → ClassId) (A : Nat → Prop) (ad : gA) (L : gL)  (σ : gS) (hT : (6, 0) ∈ L) (a1 : Int32) (a2 : Int32) (r0 : Int32) (σ0 : gS) (hf : f_X6_breachesIn ad σ a1 a2 = some (r0, σ0)) : g_Mi l yX6_breachesIn cX6_breachesIn 7 (some .int) ({ frames := 4, cells := 0, slots := 0, locals := 98 } : Room) D cy A ad L σ [.ref (ad 6 0), .int a1, .int a2] r0 σ0 := by
  refine g_met (by decide) (Nat.le_of_ble_eq_true rfl) (fun p e s m below meth c C hr hlocks hnm G ls hl => ?_)
  have hl : lv_has ls 7 [(0, .ref (ad 6 0)), (1, .int a1), (2, .int a2)] := hl
  have pt67 : ∀ (σ : gS) (v4 : Int32) (H : Heap) (locs : List Loc) (ls : Array Slot), g_H D cy A ad L σ s.heap H locs → lv_has ls 7 [(4, .int v4)] → f_X6_breachesIn_P67 σ v4 = some (r0, σ0) → g_Wi p l e ({ frames := 4, cells := 0, slots := 0, locals := 98 } : Room) s m below meth c H locs 0 0 D cy A ad L [.ref (ad 6 0), .int a1, .int a2] r0 σ0 (F0 m 67 ls []) := by
    intro σ v4 H locs ls G hl hf
    unfold f_X6_breachesIn_P67 at hf
    refine lv_iload C.x C.b dX6_breachesIn_67 (lv_at hl 0 rfl) ?_
    exact g_eii C G hr hlocks hf dX6_breachesIn_69
  have lp13 : ∀ n13 : Nat, ∀ (σ : gS) (v3 : Nat) (v4 : Int32) (v5 : Int32), (3, v3) ∈ L → ∀ (H : Heap) (locs : List Loc) (ls : Array Slot), g_H D cy A ad L σ s.heap H locs → lv_has ls 7 [(0, .ref (ad 6 0)), (1, .int a1), (2, .int a2), (3, .ref (ad 3 v3)), (4, .int v4), (5, .int v5)] → f_X6_breachesIn_L13 ad a1 a2 (f_X6_breachesIn_P67) n13 σ v3 v4 v5 = some (r0, σ0) → g_Wi p l e ({ frames := 4, cells := 0, slots := 0, locals := 98 } : Room) s m below meth c H locs 0 0 D cy A ad L [.ref (ad 6 0), .int a1, .int a2] r0 σ0 (F0 m 13 ls []) := by
    intro n13
    induction n13 with
    | zero =>
      intro σ v3 v4 v5 hv3 H locs ls G hl hf
      rw [f_X6_breachesIn_L13] at hf
      cases hf
    | succ n13 ih13 =>
      intro σ v3 v4 v5 hv3 H locs ls G hl hf
      rw [f_X6_breachesIn_L13] at hf
      refine lv_iload C.x C.b dX6_breachesIn_13 (lv_at hl 5 rfl) ?_
      refine lv_aload_n C.x C.b dX6_breachesIn_15 rfl (lv_at hl 3 rfl) ?_
      refine g_geti C G 3 v3 0 hv3 rfl ginX3 (by decide) tw315 dX6_breachesIn_16 ?_
      refine lv_icmp_ge (tgt := 67) C.x C.b dX6_breachesIn_19 (by decide) (fun cb => ?_) (fun cb => ?_)
      · have hf := g_t cb hf
        exact pt67 σ v4 _ _ ls G (lv_sub hl [4] rfl) hf
      · have hf := g_f cb hf
        refine lv_aload_n C.x C.b dX6_breachesIn_22 rfl (lv_at hl 3 rfl) ?_
        refine lv_iload_n C.x C.b dX6_breachesIn_23 rfl (lv_at hl 2 rfl) ?_
        refine lv_iload C.x C.b dX6_breachesIn_24 (lv_at hl 5 rfl) ?_
        obtain ⟨q5, eq5, hf⟩ := g_b hf
        refine g_calli G (g_runV (As := [.int a2, .int v5]) (rest := []) C G 3 v3 (c_X3_code l D cy A ad L σ v3 hv3 a2 v5 q5 eq5) ⟨tw498, tw61, tw603, ⟨tw496, tw497⟩, hd_X3_code⟩ (by decide) hv3 rfl ⟨rfl, by decide⟩ hl.1 rfl (Nat.le_of_ble_eq_true rfl) dX6_breachesIn_26 ⟨Nat.le_of_ble_eq_true rfl, Nat.le_of_ble_eq_true rfl⟩) (fun H locs G => ?_)
        refine lv_istore (lv' := [(6, .int q5), (0, .ref (ad 6 0)), (1, .int a1), (2, .int a2), (3, .ref (ad 3 v3)), (4, .int v4), (5, .int v5)]) C.x C.b dX6_breachesIn_29 hl (by decide) rfl (fun ls hl => ?_)
        refine lv_iload C.x C.b dX6_breachesIn_31 (lv_at hl 0 rfl) ?_
        refine lv_iconst (v := (-1 : Int32)) C.x C.b dX6_breachesIn_33 (by decide) ?_
        refine lv_icmp_eq (tgt := 61) C.x C.b dX6_breachesIn_34 (by decide) (fun cb => ?_) (fun cb => ?_)
        · have hf := g_t cb hf
          refine lv_iinc (v := (v5 + (1 : Int32))) (lv' := [(5, .int (v5 + (1 : Int32))), (6, .int q5), (0, .ref (ad 6 0)), (1, .int a1), (2, .int a2), (3, .ref (ad 3 v3)), (4, .int v4)]) C.x C.b dX6_breachesIn_61 hl (k := 6) rfl rfl (by decide) rfl (fun ls hl => ?_)
          refine lv_goto (tgt := 13) C.x C.b dX6_breachesIn_64 (by decide) ?_
          exact ih13 σ v3 v4 (v5 + (1 : Int32)) hv3 _ _ ls G (lv_sub hl [2, 3, 4, 5, 6, 0] rfl) hf
        · have hf := g_f cb hf
          refine lv_iload C.x C.b dX6_breachesIn_37 (lv_at hl 0 rfl) ?_
          refine lv_bipush (v := (100 : Int32)) C.x C.b dX6_breachesIn_39 (by decide) ?_
          refine lv_icmp_ge (tgt := 61) C.x C.b dX6_breachesIn_41 (by decide) (fun cb => ?_) (fun cb => ?_)
          · have hf := g_t cb hf
            refine lv_iinc (v := (v5 + (1 : Int32))) (lv' := [(5, .int (v5 + (1 : Int32))), (6, .int q5), (0, .ref (ad 6 0)), (1, .int a1), (2, .int a2), (3, .ref (ad 3 v3)), (4, .int v4)]) C.x C.b dX6_breachesIn_61 hl (k := 6) rfl rfl (by decide) rfl (fun ls hl => ?_)
            refine lv_goto (tgt := 13) C.x C.b dX6_breachesIn_64 (by decide) ?_
            exact ih13 σ v3 v4 (v5 + (1 : Int32)) hv3 _ _ ls G (lv_sub hl [2, 3, 4, 5, 6, 0] rfl) hf
          · have hf := g_f cb hf
            refine lv_aload_n C.x C.b dX6_breachesIn_44 rfl (lv_at hl 1 rfl) ?_
            refine lv_iload C.x C.b dX6_breachesIn_45 (lv_at hl 0 rfl) ?_
            refine lv_iload_n C.x C.b dX6_breachesIn_47 rfl (lv_at hl 2 rfl) ?_
            refine lv_iload_n C.x C.b dX6_breachesIn_48 rfl (lv_at hl 3 rfl) ?_
            refine lv_iconst (v := (0 : Int32)) C.x C.b dX6_breachesIn_49 (by decide) ?_
            obtain ⟨q6, eq6, hf⟩ := g_b hf
            refine g_calli G (g_runV (As := [.int q5, .int a1, .int a2, .int (0 : Int32)]) (rest := []) C G 6 0 (c_X6_firstBar l D cy A ad L σ hT q5 a1 a2 (0 : Int32) q6.1 q6.2 eq6) ⟨tw565, tw55, tw562, ⟨tw563, tw564⟩, hd_X6_firstBar⟩ (by decide) hT rfl ⟨rfl, by decide⟩ hl.1 rfl (Nat.le_of_ble_eq_true rfl) dX6_breachesIn_50 ⟨Nat.le_of_ble_eq_true rfl, Nat.le_of_ble_eq_true rfl⟩) (fun H locs G => ?_)
            refine lv_bipush (v := (-2 : Int32)) C.x C.b dX6_breachesIn_53 (by decide) ?_
            refine lv_icmp_eq (tgt := 61) C.x C.b dX6_breachesIn_55 (by decide) (fun cb => ?_) (fun cb => ?_)
            · have hf := g_t cb hf
              refine lv_iinc (v := (v5 + (1 : Int32))) (lv' := [(5, .int (v5 + (1 : Int32))), (6, .int q5), (0, .ref (ad 6 0)), (1, .int a1), (2, .int a2), (3, .ref (ad 3 v3)), (4, .int v4)]) C.x C.b dX6_breachesIn_61 hl (k := 6) rfl rfl (by decide) rfl (fun ls hl => ?_)
              refine lv_goto (tgt := 13) C.x C.b dX6_breachesIn_64 (by decide) ?_
              exact ih13 q6.2 v3 v4 (v5 + (1 : Int32)) hv3 _ _ ls G (lv_sub hl [2, 3, 4, 5, 6, 0] rfl) hf
            · have hf := g_f cb hf
              refine lv_iinc (v := (v4 + (1 : Int32))) (lv' := [(4, .int (v4 + (1 : Int32))), (6, .int q5), (0, .ref (ad 6 0)), (1, .int a1), (2, .int a2), (3, .ref (ad 3 v3)), (5, .int v5)]) C.x C.b dX6_breachesIn_58 hl (k := 5) rfl rfl (by decide) rfl (fun ls hl => ?_)
              refine lv_iinc (v := (v5 + (1 : Int32))) (lv' := [(5, .int (v5 + (1 : Int32))), (4, .int (v4 + (1 : Int32))), (6, .int q5), (0, .ref (ad 6 0)), (1, .int a1), (2, .int a2), (3, .ref (ad 3 v3))]) C.x C.b dX6_breachesIn_61 hl (k := 6) rfl rfl (by decide) rfl (fun ls hl => ?_)
              refine lv_goto (tgt := 13) C.x C.b dX6_breachesIn_64 (by decide) ?_
              exact ih13 q6.2 v3 (v4 + (1 : Int32)) (v5 + (1 : Int32)) hv3 _ _ ls G (lv_sub hl [3, 4, 5, 6, 1, 0] rfl) hf
  unfold f_X6_breachesIn at hf
  refine lv_aload_n C.x C.b dX6_breachesIn_0 rfl (lv_at hl 0 rfl) ?_
  refine g_getr C G 6 0 0 25 hT rfl ginX6 (by decide) tw115 dX6_breachesIn_1 (fun hL1 => ?_)
  refine lv_iload_n C.x C.b dX6_breachesIn_4 rfl (lv_at hl 1 rfl) ?_
  obtain ⟨hi2, hf⟩ := g_ok hf
  obtain ⟨hq3, hf⟩ := g_okn hf
  refine g_aldq (n := 8) C G 25 0 3 hL1 (by decide) rfl rfl hi2 hq3 dX6_breachesIn_5 (fun hL4 => ?_)
  refine lv_astore_n (lv' := [(3, .ref (ad 3 a1.toNatClampNeg)), (0, .ref (ad 6 0)), (1, .int a1), (2, .int a2)]) C.x C.b dX6_breachesIn_6 rfl hl (by decide) rfl (fun ls hl => ?_)
  refine lv_iconst (v := (0 : Int32)) C.x C.b dX6_breachesIn_7 (by decide) ?_
  refine lv_istore (lv' := [(4, .int (0 : Int32)), (3, .ref (ad 3 a1.toNatClampNeg)), (0, .ref (ad 6 0)), (1, .int a1), (2, .int a2)]) C.x C.b dX6_breachesIn_8 hl (by decide) rfl (fun ls hl => ?_)
  refine lv_iconst (v := (0 : Int32)) C.x C.b dX6_breachesIn_10 (by decide) ?_
  refine lv_istore (lv' := [(5, .int (0 : Int32)), (4, .int (0 : Int32)), (3, .ref (ad 3 a1.toNatClampNeg)), (0, .ref (ad 6 0)), (1, .int a1), (2, .int a2)]) C.x C.b dX6_breachesIn_11 hl (by decide) rfl (fun ls hl => ?_)
  exact lp13 g_fuel σ a1.toNatClampNeg (0 : Int32) (0 : Int32) hL4 _ _ ls G (lv_sub hl [3, 4, 5, 2, 1, 0] rfl) hf
def f_X6_kinLawBinds_P59  : Option Int32 := (some (0 : Int32))
def f_X6_kinLawBinds_L16 (ad : gA) (σ : gS) (a1 : Int32) (a2 : Int32) (K16 : Option Int32) : Nat → Int32 → Option Int32
  | 0, _ => none
  | n + 1, v3 => (if (σ 6 0 5) ≤ v3 then (K16) else (if g_ix v3 20 then (if σ 27 0 v3.toNatClampNeg < 0 then none else (if (σ 2 v3.toNatClampNeg 1) = (5 : Int32) then (if g_ix v3 20 then (if σ 27 0 v3.toNatClampNeg < 0 then none else ((f_X2_binds ad σ v3.toNatClampNeg a1 a2).bind fun q13 => (if q13 = 0 then (f_X6_kinLawBinds_L16 ad σ a1 a2 K16 n (v3 + (1 : Int32))) else (some (1 : Int32))))) else none) else (f_X6_kinLawBinds_L16 ad σ a1 a2 K16 n (v3 + (1 : Int32))))) else none))
def f_X6_kinLawBinds (ad : gA) (σ : gS) (a1 : Int32) (a2 : Int32) : Option Int32 := (if g_ix a1 8 then (if σ 25 0 a1.toNatClampNeg < 0 then none else (if (σ 3 a1.toNatClampNeg 1) = 0 then (f_X6_kinLawBinds_L16 ad σ a1 a2 (f_X6_kinLawBinds_P59) g_fuel (0 : Int32)) else (some (0 : Int32)))) else none)
theorem hd_X6_kinLawBinds : yX6_kinLawBinds.cls ≠ "java/lang/invoke/MethodHandle" ∧ yX6_kinLawBinds.cls ≠ "java/lang/invoke/VarHandle" ∧ (parseMethodDescriptor yX6_kinLawBinds.desc).map (fun d => d.parameters.length) = some 2 := by decide +kernel
set_option maxHeartbeats 4000000 in
set_option maxRecDepth 100000 in
theorem c_X6_kinLawBinds (l : Launch) (D : va_G) (cy : Nat → ClassId) (A : Nat → Prop) (ad : gA) (L : gL)  (σ : gS) (hT : (6, 0) ∈ L) (a1 : Int32) (a2 : Int32) (r0 : Int32) (hf : f_X6_kinLawBinds ad σ a1 a2 = some r0) : g_Mi l yX6_kinLawBinds cX6_kinLawBinds 4 (some .boolean) ({ frames := 1, cells := 0, slots := 0, locals := 22 } : Room) D cy A ad L σ [.ref (ad 6 0), .int a1, .int a2] r0 σ := by
  refine g_met (by decide) (Nat.le_of_ble_eq_true rfl) (fun p e s m below meth c C hr hlocks hnm G ls hl => ?_)
  have hl : lv_has ls 4 [(0, .ref (ad 6 0)), (1, .int a1), (2, .int a2)] := hl
  have pt59 : ∀ (H : Heap) (locs : List Loc) (ls : Array Slot), g_H D cy A ad L σ s.heap H locs → lv_has ls 4 [] → f_X6_kinLawBinds_P59  = some r0 → g_Wi p l e ({ frames := 1, cells := 0, slots := 0, locals := 22 } : Room) s m below meth c H locs 0 0 D cy A ad L [.ref (ad 6 0), .int a1, .int a2] r0 σ (F0 m 59 ls []) := by
    intro H locs ls G hl hf
    unfold f_X6_kinLawBinds_P59 at hf
    refine lv_iconst (v := (0 : Int32)) C.x C.b dX6_kinLawBinds_59 (by decide) ?_
    exact g_ezp C G hr hlocks hf rfl dX6_kinLawBinds_60
  have lp16 : ∀ n16 : Nat, ∀ (v3 : Int32) (H : Heap) (locs : List Loc) (ls : Array Slot), g_H D cy A ad L σ s.heap H locs → lv_has ls 4 [(0, .ref (ad 6 0)), (1, .int a1), (2, .int a2), (3, .int v3)] → f_X6_kinLawBinds_L16 ad σ a1 a2 (f_X6_kinLawBinds_P59) n16 v3 = some r0 → g_Wi p l e ({ frames := 1, cells := 0, slots := 0, locals := 22 } : Room) s m below meth c H locs 0 0 D cy A ad L [.ref (ad 6 0), .int a1, .int a2] r0 σ (F0 m 16 ls []) := by
    intro n16
    induction n16 with
    | zero =>
      intro v3 H locs ls G hl hf
      rw [f_X6_kinLawBinds_L16] at hf
      cases hf
    | succ n16 ih16 =>
      intro v3 H locs ls G hl hf
      rw [f_X6_kinLawBinds_L16] at hf
      refine lv_iload_n C.x C.b dX6_kinLawBinds_16 rfl (lv_at hl 3 rfl) ?_
      refine lv_aload_n C.x C.b dX6_kinLawBinds_17 rfl (lv_at hl 0 rfl) ?_
      refine g_geti C G 6 0 5 hT rfl ginX6 (by decide) tw129 dX6_kinLawBinds_18 ?_
      refine lv_icmp_ge (tgt := 59) C.x C.b dX6_kinLawBinds_21 (by decide) (fun cb => ?_) (fun cb => ?_)
      · have hf := g_t cb hf
        exact pt59  _ _ ls G (lv_sub hl [] rfl) hf
      · have hf := g_f cb hf
        refine lv_aload_n C.x C.b dX6_kinLawBinds_24 rfl (lv_at hl 0 rfl) ?_
        refine g_getr C G 6 0 2 27 hT rfl ginX6 (by decide) tw121 dX6_kinLawBinds_25 (fun hL5 => ?_)
        refine lv_iload_n C.x C.b dX6_kinLawBinds_28 rfl (lv_at hl 3 rfl) ?_
        obtain ⟨hi6, hf⟩ := g_ok hf
        obtain ⟨hq7, hf⟩ := g_okn hf
        refine g_aldq (n := 20) C G 27 0 2 hL5 (by decide) rfl rfl hi6 hq7 dX6_kinLawBinds_29 (fun hL8 => ?_)
        refine g_geti C G 2 v3.toNatClampNeg 1 hL8 rfl ginX2 (by decide) tw455 dX6_kinLawBinds_30 ?_
        refine lv_iconst (v := (5 : Int32)) C.x C.b dX6_kinLawBinds_33 (by decide) ?_
        refine lv_icmp_ne (tgt := 53) C.x C.b dX6_kinLawBinds_34 (by decide) (fun cb => ?_) (fun cb => ?_)
        · have hf := g_f cb hf
          refine lv_iinc (v := (v3 + (1 : Int32))) (lv' := [(3, .int (v3 + (1 : Int32))), (0, .ref (ad 6 0)), (1, .int a1), (2, .int a2)]) C.x C.b dX6_kinLawBinds_53 hl (k := 3) rfl rfl (by decide) rfl (fun ls hl => ?_)
          refine lv_goto (tgt := 16) C.x C.b dX6_kinLawBinds_56 (by decide) ?_
          exact ih16 (v3 + (1 : Int32)) _ _ ls G (lv_sub hl [1, 2, 3, 0] rfl) hf
        · have hf := g_t cb hf
          refine lv_aload_n C.x C.b dX6_kinLawBinds_37 rfl (lv_at hl 0 rfl) ?_
          refine g_getr C G 6 0 2 27 hT rfl ginX6 (by decide) tw121 dX6_kinLawBinds_38 (fun hL9 => ?_)
          refine lv_iload_n C.x C.b dX6_kinLawBinds_41 rfl (lv_at hl 3 rfl) ?_
          obtain ⟨hi10, hf⟩ := g_ok hf
          obtain ⟨hq11, hf⟩ := g_okn hf
          refine g_aldq (n := 20) C G 27 0 2 hL9 (by decide) rfl rfl hi10 hq11 dX6_kinLawBinds_42 (fun hL12 => ?_)
          refine lv_iload_n C.x C.b dX6_kinLawBinds_43 rfl (lv_at hl 1 rfl) ?_
          refine lv_iload_n C.x C.b dX6_kinLawBinds_44 rfl (lv_at hl 2 rfl) ?_
          obtain ⟨q13, eq13, hf⟩ := g_b hf
          refine g_calli G (g_runV (As := [.int a1, .int a2]) (rest := []) C G 2 v3.toNatClampNeg (c_X2_binds l D cy A ad L σ v3.toNatClampNeg hL12 a1 a2 q13 eq13) ⟨tw577, tw64, tw574, ⟨tw575, tw576⟩, hd_X2_binds⟩ (by decide) hL12 rfl ⟨rfl, by decide⟩ hl.1 rfl (Nat.le_of_ble_eq_true rfl) dX6_kinLawBinds_45 ⟨Nat.le_of_ble_eq_true rfl, Nat.le_of_ble_eq_true rfl⟩) (fun H locs G => ?_)
          refine lv_if_eq (tgt := 53) C.x C.b dX6_kinLawBinds_48 (by decide) (fun cb => ?_) (fun cb => ?_)
          · have hf := g_t cb hf
            refine lv_iinc (v := (v3 + (1 : Int32))) (lv' := [(3, .int (v3 + (1 : Int32))), (0, .ref (ad 6 0)), (1, .int a1), (2, .int a2)]) C.x C.b dX6_kinLawBinds_53 hl (k := 3) rfl rfl (by decide) rfl (fun ls hl => ?_)
            refine lv_goto (tgt := 16) C.x C.b dX6_kinLawBinds_56 (by decide) ?_
            exact ih16 (v3 + (1 : Int32)) _ _ ls G (lv_sub hl [1, 2, 3, 0] rfl) hf
          · have hf := g_f cb hf
            refine lv_iconst (v := (1 : Int32)) C.x C.b dX6_kinLawBinds_51 (by decide) ?_
            exact g_ezp C G hr hlocks hf rfl dX6_kinLawBinds_52
  unfold f_X6_kinLawBinds at hf
  refine lv_aload_n C.x C.b dX6_kinLawBinds_0 rfl (lv_at hl 0 rfl) ?_
  refine g_getr C G 6 0 0 25 hT rfl ginX6 (by decide) tw115 dX6_kinLawBinds_1 (fun hL1 => ?_)
  refine lv_iload_n C.x C.b dX6_kinLawBinds_4 rfl (lv_at hl 1 rfl) ?_
  obtain ⟨hi2, hf⟩ := g_ok hf
  obtain ⟨hq3, hf⟩ := g_okn hf
  refine g_aldq (n := 8) C G 25 0 3 hL1 (by decide) rfl rfl hi2 hq3 dX6_kinLawBinds_5 (fun hL4 => ?_)
  refine g_geti C G 3 a1.toNatClampNeg 1 hL4 rfl ginX3 (by decide) tw317 dX6_kinLawBinds_6 ?_
  refine lv_if_eq (tgt := 14) C.x C.b dX6_kinLawBinds_9 (by decide) (fun cb => ?_) (fun cb => ?_)
  · have hf := g_t cb hf
    refine lv_iconst (v := (0 : Int32)) C.x C.b dX6_kinLawBinds_14 (by decide) ?_
    refine lv_istore_n (lv' := [(3, .int (0 : Int32)), (0, .ref (ad 6 0)), (1, .int a1), (2, .int a2)]) C.x C.b dX6_kinLawBinds_15 rfl hl (by decide) rfl (fun ls hl => ?_)
    exact lp16 g_fuel (0 : Int32) _ _ ls G (lv_sub hl [1, 2, 3, 0] rfl) hf
  · have hf := g_f cb hf
    refine lv_iconst (v := (0 : Int32)) C.x C.b dX6_kinLawBinds_12 (by decide) ?_
    exact g_ezp C G hr hlocks hf rfl dX6_kinLawBinds_13
def f_X6_tie (ad : gA) (σ : gS) (a1 : Int32) (a2 : Int32) : Option gS := (if g_ix a1 24 then (if σ 26 0 a1.toNatClampNeg < 0 then none else (g_let (g_up σ 5 a1.toNatClampNeg 8 ((σ 5 a1.toNatClampNeg 8) ||| ((1 : Int32) <<< (a2 &&& 31)))) fun σ5 => (if g_ix a2 24 then (if σ5 26 0 a2.toNatClampNeg < 0 then none else (g_let (g_up σ5 5 a2.toNatClampNeg 8 ((σ5 5 a2.toNatClampNeg 8) ||| ((1 : Int32) <<< (a1 &&& 31)))) fun σ10 => (some σ10))) else none))) else none)
theorem hd_X6_tie : yX6_tie.cls ≠ "java/lang/invoke/MethodHandle" ∧ yX6_tie.cls ≠ "java/lang/invoke/VarHandle" ∧ (parseMethodDescriptor yX6_tie.desc).map (fun d => d.parameters.length) = some 2 := by decide +kernel
set_option maxHeartbeats 4000000 in
set_option maxRecDepth 100000 in
theorem c_X6_tie (l : Launch) (D : va_G) (cy : Nat → ClassId) (A : Nat → Prop) (ad : gA) (L : gL)  (σ : gS) (hT : (6, 0) ∈ L) (a1 : Int32) (a2 : Int32) (σ0 : gS) (hf : f_X6_tie ad σ a1 a2 = some σ0) : g_Mv l yX6_tie cX6_tie 3 none ({ frames := 0, cells := 0, slots := 0, locals := 0 } : Room) D cy A ad L σ [.ref (ad 6 0), .int a1, .int a2] σ0 := by
  refine g_met (by decide) (Nat.le_of_ble_eq_true rfl) (fun p e s m below meth c C hr hlocks hnm G ls hl => ?_)
  have hl : lv_has ls 3 [(0, .ref (ad 6 0)), (1, .int a1), (2, .int a2)] := hl
  unfold f_X6_tie at hf
  refine lv_aload_n C.x C.b dX6_tie_0 rfl (lv_at hl 0 rfl) ?_
  refine g_getr C G 6 0 1 26 hT rfl ginX6 (by decide) tw118 dX6_tie_1 (fun hL1 => ?_)
  refine lv_iload_n C.x C.b dX6_tie_4 rfl (lv_at hl 1 rfl) ?_
  obtain ⟨hi2, hf⟩ := g_ok hf
  obtain ⟨hq3, hf⟩ := g_okn hf
  refine g_aldq (n := 24) C G 26 0 5 hL1 (by decide) rfl rfl hi2 hq3 dX6_tie_5 (fun hL4 => ?_)
  refine lv_dup C.x C.b dX6_tie_6 rfl ?_
  refine g_geti C G 5 a1.toNatClampNeg 8 hL4 rfl ginX5 (by decide) tw381 dX6_tie_7 ?_
  refine lv_iconst (v := (1 : Int32)) C.x C.b dX6_tie_10 (by decide) ?_
  refine lv_iload_n C.x C.b dX6_tie_11 rfl (lv_at hl 2 rfl) ?_
  refine lv_ishl C.x C.b dX6_tie_12 ?_
  refine lv_ior C.x C.b dX6_tie_13 ?_
  refine g_puti C G 5 a1.toNatClampNeg 8 hL4 (v := ((σ 5 a1.toNatClampNeg 8) ||| ((1 : Int32) <<< (a2 &&& 31)))) rfl ginX5 tyX5_ok nmX5 (by decide) ⟨rfl, rfl⟩ tw381 dX6_tie_14 (fun H locs G => ?_)
  obtain ⟨σ5, eσ5, hf⟩ := g_lt hf
  rw [← eσ5] at G
  refine lv_aload_n C.x C.b dX6_tie_17 rfl (lv_at hl 0 rfl) ?_
  refine g_getr C G 6 0 1 26 hT rfl ginX6 (by decide) tw118 dX6_tie_18 (fun hL6 => ?_)
  refine lv_iload_n C.x C.b dX6_tie_21 rfl (lv_at hl 2 rfl) ?_
  obtain ⟨hi7, hf⟩ := g_ok hf
  obtain ⟨hq8, hf⟩ := g_okn hf
  refine g_aldq (n := 24) C G 26 0 5 hL6 (by decide) rfl rfl hi7 hq8 dX6_tie_22 (fun hL9 => ?_)
  refine lv_dup C.x C.b dX6_tie_23 rfl ?_
  refine g_geti C G 5 a2.toNatClampNeg 8 hL9 rfl ginX5 (by decide) tw381 dX6_tie_24 ?_
  refine lv_iconst (v := (1 : Int32)) C.x C.b dX6_tie_27 (by decide) ?_
  refine lv_iload_n C.x C.b dX6_tie_28 rfl (lv_at hl 1 rfl) ?_
  refine lv_ishl C.x C.b dX6_tie_29 ?_
  refine lv_ior C.x C.b dX6_tie_30 ?_
  refine g_puti C G 5 a2.toNatClampNeg 8 hL9 (v := ((σ5 5 a2.toNatClampNeg 8) ||| ((1 : Int32) <<< (a1 &&& 31)))) rfl ginX5 tyX5_ok nmX5 (by decide) ⟨rfl, rfl⟩ tw381 dX6_tie_31 (fun H locs G => ?_)
  obtain ⟨σ10, eσ10, hf⟩ := g_lt hf
  rw [← eσ10] at G
  exact g_evi C G hr hlocks hf dX6_tie_34
def f_X6_addPerson_P74 (σ : gS) (v2 : Int32) : Option (Int32 × gS) := (some (v2, σ))
def f_X6_addPerson_L41 (ad : gA) (a1 : Nat) (K41 : gS → Int32 → Option (Int32 × gS)) : Nat → gS → Int32 → Int32 → Option (Int32 × gS)
  | 0, _, _, _ => none
  | n + 1, σ, v2, v3 => (if v2 ≤ v3 then (K41 σ v2) else (if g_ix v3 24 then (if σ 26 0 v3.toNatClampNeg < 0 then none else (if (σ 5 v3.toNatClampNeg 1) = (σ 5 a1 1) then ((f_X6_tie ad σ v2 v3).bind fun σ11 => (f_X6_addPerson_L41 ad a1 K41 n σ11 v2 (v3 + (1 : Int32)))) else (f_X6_addPerson_L41 ad a1 K41 n σ v2 (v3 + (1 : Int32))))) else none))
def f_X6_addPerson (ad : gA) (σ : gS) (a1 : Nat) : Option (Int32 × gS) := (if g_ix (σ 6 0 4) 24 then (if (σ 6 0 4).toNatClampNeg = a1 then (g_let (g_up σ 26 0 a1 0) fun σ3 => (g_let (g_up σ3 6 0 4 ((σ3 6 0 4) + (1 : Int32))) fun σ5 => (if (σ5 5 a1 1) = (-1 : Int32) then (f_X6_addPerson_P74 σ5 (σ 6 0 4)) else ((f_X6_tie ad σ5 (σ 6 0 4) (σ5 5 a1 1)).bind fun σ6 => (f_X6_addPerson_L41 ad a1 (f_X6_addPerson_P74) g_fuel σ6 (σ 6 0 4) (0 : Int32)))))) else none) else none)
theorem hd_X6_addPerson : yX6_addPerson.cls ≠ "java/lang/invoke/MethodHandle" ∧ yX6_addPerson.cls ≠ "java/lang/invoke/VarHandle" ∧ (parseMethodDescriptor yX6_addPerson.desc).map (fun d => d.parameters.length) = some 1 := by decide +kernel
set_option maxHeartbeats 4000000 in
set_option maxRecDepth 100000 in
theorem c_X6_addPerson (l : Launch) (D : va_G) (cy : Nat → ClassId) (A : Nat → Prop) (ad : gA) (L : gL)  (σ : gS) (hT : (6, 0) ∈ L) (a1 : Nat) (ha1 : (5, a1) ∈ L) (r0 : Int32) (σ0 : gS) (hf : f_X6_addPerson ad σ a1 = some (r0, σ0)) : g_Mi l yX6_addPerson cX6_addPerson 4 (some .int) ({ frames := 1, cells := 0, slots := 0, locals := 22 } : Room) D cy A ad L σ [.ref (ad 6 0), .ref (ad 5 a1)] r0 σ0 := by
  refine g_met (by decide) (Nat.le_of_ble_eq_true rfl) (fun p e s m below meth c C hr hlocks hnm G ls hl => ?_)
  have hl : lv_has ls 4 [(0, .ref (ad 6 0)), (1, .ref (ad 5 a1))] := hl
  have pt74 : ∀ (σ : gS) (v2 : Int32) (H : Heap) (locs : List Loc) (ls : Array Slot), g_H D cy A ad L σ s.heap H locs → lv_has ls 4 [(2, .int v2)] → f_X6_addPerson_P74 σ v2 = some (r0, σ0) → g_Wi p l e ({ frames := 1, cells := 0, slots := 0, locals := 22 } : Room) s m below meth c H locs 0 0 D cy A ad L [.ref (ad 6 0), .ref (ad 5 a1)] r0 σ0 (F0 m 74 ls []) := by
    intro σ v2 H locs ls G hl hf
    unfold f_X6_addPerson_P74 at hf
    refine lv_iload_n C.x C.b dX6_addPerson_74 rfl (lv_at hl 0 rfl) ?_
    exact g_eii C G hr hlocks hf dX6_addPerson_75
  have lp41 : ∀ n41 : Nat, ∀ (σ : gS) (v2 : Int32) (v3 : Int32) (H : Heap) (locs : List Loc) (ls : Array Slot), g_H D cy A ad L σ s.heap H locs → lv_has ls 4 [(0, .ref (ad 6 0)), (1, .ref (ad 5 a1)), (2, .int v2), (3, .int v3)] → f_X6_addPerson_L41 ad a1 (f_X6_addPerson_P74) n41 σ v2 v3 = some (r0, σ0) → g_Wi p l e ({ frames := 1, cells := 0, slots := 0, locals := 22 } : Room) s m below meth c H locs 0 0 D cy A ad L [.ref (ad 6 0), .ref (ad 5 a1)] r0 σ0 (F0 m 41 ls []) := by
    intro n41
    induction n41 with
    | zero =>
      intro σ v2 v3 H locs ls G hl hf
      rw [f_X6_addPerson_L41] at hf
      cases hf
    | succ n41 ih41 =>
      intro σ v2 v3 H locs ls G hl hf
      rw [f_X6_addPerson_L41] at hf
      refine lv_iload_n C.x C.b dX6_addPerson_41 rfl (lv_at hl 3 rfl) ?_
      refine lv_iload_n C.x C.b dX6_addPerson_42 rfl (lv_at hl 2 rfl) ?_
      refine lv_icmp_ge (tgt := 74) C.x C.b dX6_addPerson_43 (by decide) (fun cb => ?_) (fun cb => ?_)
      · have hf := g_t cb hf
        exact pt74 σ v2 _ _ ls G (lv_sub hl [2] rfl) hf
      · have hf := g_f cb hf
        refine lv_aload_n C.x C.b dX6_addPerson_46 rfl (lv_at hl 0 rfl) ?_
        refine g_getr C G 6 0 1 26 hT rfl ginX6 (by decide) tw118 dX6_addPerson_47 (fun hL7 => ?_)
        refine lv_iload_n C.x C.b dX6_addPerson_50 rfl (lv_at hl 3 rfl) ?_
        obtain ⟨hi8, hf⟩ := g_ok hf
        obtain ⟨hq9, hf⟩ := g_okn hf
        refine g_aldq (n := 24) C G 26 0 5 hL7 (by decide) rfl rfl hi8 hq9 dX6_addPerson_51 (fun hL10 => ?_)
        refine g_geti C G 5 v3.toNatClampNeg 1 hL10 rfl ginX5 (by decide) tw354 dX6_addPerson_52 ?_
        refine lv_aload_n C.x C.b dX6_addPerson_55 rfl (lv_at hl 1 rfl) ?_
        refine g_geti C G 5 a1 1 ha1 rfl ginX5 (by decide) tw354 dX6_addPerson_56 ?_
        refine lv_icmp_ne (tgt := 68) C.x C.b dX6_addPerson_59 (by decide) (fun cb => ?_) (fun cb => ?_)
        · have hf := g_f cb hf
          refine lv_iinc (v := (v3 + (1 : Int32))) (lv' := [(3, .int (v3 + (1 : Int32))), (0, .ref (ad 6 0)), (1, .ref (ad 5 a1)), (2, .int v2)]) C.x C.b dX6_addPerson_68 hl (k := 3) rfl rfl (by decide) rfl (fun ls hl => ?_)
          refine lv_goto (tgt := 41) C.x C.b dX6_addPerson_71 (by decide) ?_
          exact ih41 σ v2 (v3 + (1 : Int32)) _ _ ls G (lv_sub hl [1, 2, 3, 0] rfl) hf
        · have hf := g_t cb hf
          refine lv_aload_n C.x C.b dX6_addPerson_62 rfl (lv_at hl 0 rfl) ?_
          refine lv_iload_n C.x C.b dX6_addPerson_63 rfl (lv_at hl 2 rfl) ?_
          refine lv_iload_n C.x C.b dX6_addPerson_64 rfl (lv_at hl 3 rfl) ?_
          obtain ⟨σ11, eσ11, hf⟩ := g_b hf
          refine g_callv G (g_runV (As := [.int v2, .int v3]) (rest := []) C G 6 0 (c_X6_tie l D cy A ad L σ hT v2 v3 σ11 eσ11) ⟨tw408, tw55, tw405, ⟨tw407, tw0⟩, hd_X6_tie⟩ (by decide) hT rfl ⟨rfl, by decide⟩ hl.1 rfl (Nat.le_of_ble_eq_true rfl) dX6_addPerson_65 ⟨Nat.le_of_ble_eq_true rfl, Nat.le_of_ble_eq_true rfl⟩) (fun H locs G => ?_)
          refine lv_iinc (v := (v3 + (1 : Int32))) (lv' := [(3, .int (v3 + (1 : Int32))), (0, .ref (ad 6 0)), (1, .ref (ad 5 a1)), (2, .int v2)]) C.x C.b dX6_addPerson_68 hl (k := 3) rfl rfl (by decide) rfl (fun ls hl => ?_)
          refine lv_goto (tgt := 41) C.x C.b dX6_addPerson_71 (by decide) ?_
          exact ih41 σ11 v2 (v3 + (1 : Int32)) _ _ ls G (lv_sub hl [1, 2, 3, 0] rfl) hf
  unfold f_X6_addPerson at hf
  refine lv_aload_n C.x C.b dX6_addPerson_0 rfl (lv_at hl 0 rfl) ?_
  refine g_geti C G 6 0 4 hT rfl ginX6 (by decide) tw126 dX6_addPerson_1 ?_
  refine lv_istore_n (lv' := [(2, .int (σ 6 0 4)), (0, .ref (ad 6 0)), (1, .ref (ad 5 a1))]) C.x C.b dX6_addPerson_4 rfl hl (by decide) rfl (fun ls hl => ?_)
  refine lv_aload_n C.x C.b dX6_addPerson_5 rfl (lv_at hl 1 rfl) ?_
  refine g_getr C G 6 0 1 26 hT rfl ginX6 (by decide) tw118 dX6_addPerson_6 (fun hL1 => ?_)
  refine lv_iload_n C.x C.b dX6_addPerson_9 rfl (lv_at hl 0 rfl) ?_
  refine lv_aload_n C.x C.b dX6_addPerson_10 rfl (lv_at hl 2 rfl) ?_
  obtain ⟨hi2, hf⟩ := g_ok hf
  obtain ⟨hq4, hf⟩ := g_ok hf
  refine g_astq (n := 24) C G 26 0 5 a1 hL1 (by decide) rfl hq4 ha1 rfl hi2 dX6_addPerson_11 (fun H locs G => ?_)
  obtain ⟨σ3, eσ3, hf⟩ := g_lt hf
  rw [← eσ3] at G
  refine lv_aload_n C.x C.b dX6_addPerson_12 rfl (lv_at hl 1 rfl) ?_
  refine lv_dup C.x C.b dX6_addPerson_13 rfl ?_
  refine g_geti C G 6 0 4 hT rfl ginX6 (by decide) tw126 dX6_addPerson_14 ?_
  refine lv_iconst (v := (1 : Int32)) C.x C.b dX6_addPerson_17 (by decide) ?_
  refine lv_iadd C.x C.b dX6_addPerson_18 ?_
  refine g_puti C G 6 0 4 hT (v := ((σ3 6 0 4) + (1 : Int32))) rfl ginX6 tyX6_ok nmX6 (by decide) ⟨rfl, rfl⟩ tw126 dX6_addPerson_19 (fun H locs G => ?_)
  obtain ⟨σ5, eσ5, hf⟩ := g_lt hf
  rw [← eσ5] at G
  refine lv_aload_n C.x C.b dX6_addPerson_22 rfl (lv_at hl 2 rfl) ?_
  refine g_geti C G 5 a1 1 ha1 rfl ginX5 (by decide) tw354 dX6_addPerson_23 ?_
  refine lv_iconst (v := (-1 : Int32)) C.x C.b dX6_addPerson_26 (by decide) ?_
  refine lv_icmp_eq (tgt := 74) C.x C.b dX6_addPerson_27 (by decide) (fun cb => ?_) (fun cb => ?_)
  · have hf := g_t cb hf
    exact pt74 σ5 (σ 6 0 4) _ _ ls G (lv_sub hl [0] rfl) hf
  · have hf := g_f cb hf
    refine lv_aload_n C.x C.b dX6_addPerson_30 rfl (lv_at hl 1 rfl) ?_
    refine lv_iload_n C.x C.b dX6_addPerson_31 rfl (lv_at hl 0 rfl) ?_
    refine lv_aload_n C.x C.b dX6_addPerson_32 rfl (lv_at hl 2 rfl) ?_
    refine g_geti C G 5 a1 1 ha1 rfl ginX5 (by decide) tw354 dX6_addPerson_33 ?_
    obtain ⟨σ6, eσ6, hf⟩ := g_b hf
    refine g_callv G (g_runV (As := [.int (σ 6 0 4), .int (σ5 5 a1 1)]) (rest := []) C G 6 0 (c_X6_tie l D cy A ad L σ5 hT (σ 6 0 4) (σ5 5 a1 1) σ6 eσ6) ⟨tw408, tw55, tw405, ⟨tw407, tw0⟩, hd_X6_tie⟩ (by decide) hT rfl ⟨rfl, by decide⟩ hl.1 rfl (Nat.le_of_ble_eq_true rfl) dX6_addPerson_36 ⟨Nat.le_of_ble_eq_true rfl, Nat.le_of_ble_eq_true rfl⟩) (fun H locs G => ?_)
    refine lv_iconst (v := (0 : Int32)) C.x C.b dX6_addPerson_39 (by decide) ?_
    refine lv_istore_n (lv' := [(3, .int (0 : Int32)), (2, .int (σ 6 0 4)), (0, .ref (ad 6 0)), (1, .ref (ad 5 a1))]) C.x C.b dX6_addPerson_40 rfl hl (by decide) rfl (fun ls hl => ?_)
    exact lp41 g_fuel σ6 (σ 6 0 4) (0 : Int32) _ _ ls G (lv_sub hl [2, 3, 1, 0] rfl) hf
def f_X6_addOffice (ad : gA) (σ : gS) (a1 : Nat) : Option (Int32 × gS) := (if g_ix (σ 6 0 3) 8 then (if (σ 6 0 3).toNatClampNeg = a1 then (g_let (g_up σ 25 0 a1 0) fun σ3 => (g_let (g_up σ3 6 0 3 ((σ3 6 0 3) + (1 : Int32))) fun σ5 => (some (((σ5 6 0 3) - (1 : Int32)), σ5)))) else none) else none)
theorem hd_X6_addOffice : yX6_addOffice.cls ≠ "java/lang/invoke/MethodHandle" ∧ yX6_addOffice.cls ≠ "java/lang/invoke/VarHandle" ∧ (parseMethodDescriptor yX6_addOffice.desc).map (fun d => d.parameters.length) = some 1 := by decide +kernel
set_option maxHeartbeats 4000000 in
set_option maxRecDepth 100000 in
theorem c_X6_addOffice (l : Launch) (D : va_G) (cy : Nat → ClassId) (A : Nat → Prop) (ad : gA) (L : gL)  (σ : gS) (hT : (6, 0) ∈ L) (a1 : Nat) (ha1 : (3, a1) ∈ L) (r0 : Int32) (σ0 : gS) (hf : f_X6_addOffice ad σ a1 = some (r0, σ0)) : g_Mi l yX6_addOffice cX6_addOffice 2 (some .int) ({ frames := 0, cells := 0, slots := 0, locals := 0 } : Room) D cy A ad L σ [.ref (ad 6 0), .ref (ad 3 a1)] r0 σ0 := by
  refine g_met (by decide) (Nat.le_of_ble_eq_true rfl) (fun p e s m below meth c C hr hlocks hnm G ls hl => ?_)
  have hl : lv_has ls 2 [(0, .ref (ad 6 0)), (1, .ref (ad 3 a1))] := hl
  unfold f_X6_addOffice at hf
  refine lv_aload_n C.x C.b dX6_addOffice_0 rfl (lv_at hl 0 rfl) ?_
  refine g_getr C G 6 0 0 25 hT rfl ginX6 (by decide) tw115 dX6_addOffice_1 (fun hL1 => ?_)
  refine lv_aload_n C.x C.b dX6_addOffice_4 rfl (lv_at hl 0 rfl) ?_
  refine g_geti C G 6 0 3 hT rfl ginX6 (by decide) tw123 dX6_addOffice_5 ?_
  refine lv_aload_n C.x C.b dX6_addOffice_8 rfl (lv_at hl 1 rfl) ?_
  obtain ⟨hi2, hf⟩ := g_ok hf
  obtain ⟨hq4, hf⟩ := g_ok hf
  refine g_astq (n := 8) C G 25 0 3 a1 hL1 (by decide) rfl hq4 ha1 rfl hi2 dX6_addOffice_9 (fun H locs G => ?_)
  obtain ⟨σ3, eσ3, hf⟩ := g_lt hf
  rw [← eσ3] at G
  refine lv_aload_n C.x C.b dX6_addOffice_10 rfl (lv_at hl 0 rfl) ?_
  refine lv_dup C.x C.b dX6_addOffice_11 rfl ?_
  refine g_geti C G 6 0 3 hT rfl ginX6 (by decide) tw123 dX6_addOffice_12 ?_
  refine lv_iconst (v := (1 : Int32)) C.x C.b dX6_addOffice_15 (by decide) ?_
  refine lv_iadd C.x C.b dX6_addOffice_16 ?_
  refine g_puti C G 6 0 3 hT (v := ((σ3 6 0 3) + (1 : Int32))) rfl ginX6 tyX6_ok nmX6 (by decide) ⟨rfl, rfl⟩ tw123 dX6_addOffice_17 (fun H locs G => ?_)
  obtain ⟨σ5, eσ5, hf⟩ := g_lt hf
  rw [← eσ5] at G
  refine lv_aload_n C.x C.b dX6_addOffice_20 rfl (lv_at hl 0 rfl) ?_
  refine g_geti C G 6 0 3 hT rfl ginX6 (by decide) tw123 dX6_addOffice_21 ?_
  refine lv_iconst (v := (1 : Int32)) C.x C.b dX6_addOffice_24 (by decide) ?_
  refine lv_isub C.x C.b dX6_addOffice_25 ?_
  exact g_eii C G hr hlocks hf dX6_addOffice_26
def f_X6_addLaw (ad : gA) (σ : gS) (a1 : Nat) : Option (Int32 × gS) := (if g_ix (σ 6 0 5) 20 then (if (σ 6 0 5).toNatClampNeg = a1 then (g_let (g_up σ 27 0 a1 0) fun σ3 => (g_let (g_up σ3 6 0 5 ((σ3 6 0 5) + (1 : Int32))) fun σ5 => (some (((σ5 6 0 5) - (1 : Int32)), σ5)))) else none) else none)
theorem hd_X6_addLaw : yX6_addLaw.cls ≠ "java/lang/invoke/MethodHandle" ∧ yX6_addLaw.cls ≠ "java/lang/invoke/VarHandle" ∧ (parseMethodDescriptor yX6_addLaw.desc).map (fun d => d.parameters.length) = some 1 := by decide +kernel
set_option maxHeartbeats 4000000 in
set_option maxRecDepth 100000 in
theorem c_X6_addLaw (l : Launch) (D : va_G) (cy : Nat → ClassId) (A : Nat → Prop) (ad : gA) (L : gL)  (σ : gS) (hT : (6, 0) ∈ L) (a1 : Nat) (ha1 : (2, a1) ∈ L) (r0 : Int32) (σ0 : gS) (hf : f_X6_addLaw ad σ a1 = some (r0, σ0)) : g_Mi l yX6_addLaw cX6_addLaw 2 (some .int) ({ frames := 0, cells := 0, slots := 0, locals := 0 } : Room) D cy A ad L σ [.ref (ad 6 0), .ref (ad 2 a1)] r0 σ0 := by
  refine g_met (by decide) (Nat.le_of_ble_eq_true rfl) (fun p e s m below meth c C hr hlocks hnm G ls hl => ?_)
  have hl : lv_has ls 2 [(0, .ref (ad 6 0)), (1, .ref (ad 2 a1))] := hl
  unfold f_X6_addLaw at hf
  refine lv_aload_n C.x C.b dX6_addLaw_0 rfl (lv_at hl 0 rfl) ?_
  refine g_getr C G 6 0 2 27 hT rfl ginX6 (by decide) tw121 dX6_addLaw_1 (fun hL1 => ?_)
  refine lv_aload_n C.x C.b dX6_addLaw_4 rfl (lv_at hl 0 rfl) ?_
  refine g_geti C G 6 0 5 hT rfl ginX6 (by decide) tw129 dX6_addLaw_5 ?_
  refine lv_aload_n C.x C.b dX6_addLaw_8 rfl (lv_at hl 1 rfl) ?_
  obtain ⟨hi2, hf⟩ := g_ok hf
  obtain ⟨hq4, hf⟩ := g_ok hf
  refine g_astq (n := 20) C G 27 0 2 a1 hL1 (by decide) rfl hq4 ha1 rfl hi2 dX6_addLaw_9 (fun H locs G => ?_)
  obtain ⟨σ3, eσ3, hf⟩ := g_lt hf
  rw [← eσ3] at G
  refine lv_aload_n C.x C.b dX6_addLaw_10 rfl (lv_at hl 0 rfl) ?_
  refine lv_dup C.x C.b dX6_addLaw_11 rfl ?_
  refine g_geti C G 6 0 5 hT rfl ginX6 (by decide) tw129 dX6_addLaw_12 ?_
  refine lv_iconst (v := (1 : Int32)) C.x C.b dX6_addLaw_15 (by decide) ?_
  refine lv_iadd C.x C.b dX6_addLaw_16 ?_
  refine g_puti C G 6 0 5 hT (v := ((σ3 6 0 5) + (1 : Int32))) rfl ginX6 tyX6_ok nmX6 (by decide) ⟨rfl, rfl⟩ tw129 dX6_addLaw_17 (fun H locs G => ?_)
  obtain ⟨σ5, eσ5, hf⟩ := g_lt hf
  rw [← eσ5] at G
  refine lv_aload_n C.x C.b dX6_addLaw_20 rfl (lv_at hl 0 rfl) ?_
  refine g_geti C G 6 0 5 hT rfl ginX6 (by decide) tw129 dX6_addLaw_21 ?_
  refine lv_iconst (v := (1 : Int32)) C.x C.b dX6_addLaw_24 (by decide) ?_
  refine lv_isub C.x C.b dX6_addLaw_25 ?_
  exact g_eii C G hr hlocks hf dX6_addLaw_26
