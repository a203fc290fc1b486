def f_X3_code (ad : gA) (σ : gS) (o : Nat) (a1 : Int32) (a2 : Int32) : Option Int32 := (if g_ix ((a1 * (σ 3 o 0)) + a2) (ad 33 o) then (some (σ 23 o (((a1 * (σ 3 o 0)) + a2).toNatClampNeg))) else none)
theorem hd_X3_code : yX3_code.cls ≠ "java/lang/invoke/MethodHandle" ∧ yX3_code.cls ≠ "java/lang/invoke/VarHandle" ∧ (parseMethodDescriptor yX3_code.desc).map (fun d => d.parameters.length) = some 2 := by decide +kernel
set_option maxHeartbeats 4000000 in
set_option maxRecDepth 100000 in
theorem c_X3_code (l : Launch) (D : va_G) (cy : Nat → ClassId) (A : Nat → Prop) (ad : gA) (L : gL)  (σ : gS) (o : Nat) (hT : (3, o) ∈ L) (a1 : Int32) (a2 : Int32) (r0 : Int32) (hf : f_X3_code ad σ o a1 a2 = some r0) : g_Mi l yX3_code cX3_code 3 (some .int) ({ frames := 0, cells := 0, slots := 0, locals := 0 } : Room) D cy A ad L σ [.ref (ad 3 o), .int a1, .int a2] r0 σ := by
  refine g_met (by decide) (Nat.le_of_ble_eq_true rfl) (fun p e s m below meth c C hr hlocks hnm G ls hl => ?_)
  have hl : lv_has ls 3 [(0, .ref (ad 3 o)), (1, .int a1), (2, .int a2)] := hl
  unfold f_X3_code at hf
  refine lv_aload_n C.x C.b dX3_code_0 rfl (lv_at hl 0 rfl) ?_
  refine g_getr C G 3 o 2 23 hT rfl ginX3 (by decide) tw318 dX3_code_1 (fun hL1 => ?_)
  refine lv_iload_n C.x C.b dX3_code_4 rfl (lv_at hl 1 rfl) ?_
  refine lv_aload_n C.x C.b dX3_code_5 rfl (lv_at hl 0 rfl) ?_
  refine g_geti C G 3 o 0 hT rfl ginX3 (by decide) tw313 dX3_code_6 ?_
  refine lv_imul C.x C.b dX3_code_9 ?_
  refine lv_iload_n C.x C.b dX3_code_10 rfl (lv_at hl 2 rfl) ?_
  refine lv_iadd C.x C.b dX3_code_11 ?_
  obtain ⟨hi2, hf⟩ := g_ok hf
  refine g_bald (n := (ad 33 o)) C G 23 o hL1 (by decide) rfl hi2 dX3_code_12 ?_
  exact g_eip C G hr hlocks hf dX3_code_13
def f_X3_setCode (ad : gA) (σ : gS) (o : Nat) (a1 : Int32) (a2 : Int32) (a3 : Int32) : Option gS := (if g_ix ((a1 * (σ 3 o 0)) + a2) (ad 33 o) then (g_let (g_up σ 23 o (((a1 * (σ 3 o 0)) + a2).toNatClampNeg) (vp_nar .byte ((a3).toInt8.toInt32))) fun σ3 => (some σ3)) else none)
theorem hd_X3_setCode : yX3_setCode.cls ≠ "java/lang/invoke/MethodHandle" ∧ yX3_setCode.cls ≠ "java/lang/invoke/VarHandle" ∧ (parseMethodDescriptor yX3_setCode.desc).map (fun d => d.parameters.length) = some 3 := by decide +kernel
set_option maxHeartbeats 4000000 in
set_option maxRecDepth 100000 in
theorem c_X3_setCode (l : Launch) (D : va_G) (cy : Nat → ClassId) (A : Nat → Prop) (ad : gA) (L : gL)  (σ : gS) (o : Nat) (hT : (3, o) ∈ L) (a1 : Int32) (a2 : Int32) (a3 : Int32) (σ0 : gS) (hf : f_X3_setCode ad σ o a1 a2 a3 = some σ0) : g_Mv l yX3_setCode cX3_setCode 4 none ({ frames := 0, cells := 0, slots := 0, locals := 0 } : Room) D cy A ad L σ [.ref (ad 3 o), .int a1, .int a2, .int a3] σ0 := by
  refine g_met (by decide) (Nat.le_of_ble_eq_true rfl) (fun p e s m below meth c C hr hlocks hnm G ls hl => ?_)
  have hl : lv_has ls 4 [(0, .ref (ad 3 o)), (1, .int a1), (2, .int a2), (3, .int a3)] := hl
  unfold f_X3_setCode at hf
  refine lv_aload_n C.x C.b dX3_setCode_0 rfl (lv_at hl 0 rfl) ?_
  refine g_getr C G 3 o 2 23 hT rfl ginX3 (by decide) tw318 dX3_setCode_1 (fun hL1 => ?_)
  refine lv_iload_n C.x C.b dX3_setCode_4 rfl (lv_at hl 1 rfl) ?_
  refine lv_aload_n C.x C.b dX3_setCode_5 rfl (lv_at hl 0 rfl) ?_
  refine g_geti C G 3 o 0 hT rfl ginX3 (by decide) tw313 dX3_setCode_6 ?_
  refine lv_imul C.x C.b dX3_setCode_9 ?_
  refine lv_iload_n C.x C.b dX3_setCode_10 rfl (lv_at hl 2 rfl) ?_
  refine lv_iadd C.x C.b dX3_setCode_11 ?_
  refine lv_iload_n C.x C.b dX3_setCode_12 rfl (lv_at hl 3 rfl) ?_
  refine lv_i2b C.x C.b dX3_setCode_13 rfl ?_
  obtain ⟨hi2, hf⟩ := g_ok hf
  refine g_bast (n := (ad 33 o)) C G 23 o hL1 (by decide) rfl hi2 dX3_setCode_14 (fun H locs G => ?_)
  obtain ⟨σ3, eσ3, hf⟩ := g_lt hf
  rw [← eσ3] at G
  exact g_evi C G hr hlocks hf dX3_setCode_15
def f_X3_holder (ad : gA) (σ : gS) (o : Nat) (a1 : Int32) (a2 : Int32) : Option Int32 := ((f_X3_code ad σ o a1 a2).bind fun q1 => (if q1 = (-1 : Int32) then (some (-1 : Int32)) else (some (q1 - q1 / (100 : Int32) * (100 : Int32)))))
theorem hd_X3_holder : yX3_holder.cls ≠ "java/lang/invoke/MethodHandle" ∧ yX3_holder.cls ≠ "java/lang/invoke/VarHandle" ∧ (parseMethodDescriptor yX3_holder.desc).map (fun d => d.parameters.length) = some 2 := by decide +kernel
set_option maxHeartbeats 4000000 in
set_option maxRecDepth 100000 in
theorem c_X3_holder (l : Launch) (D : va_G) (cy : Nat → ClassId) (A : Nat → Prop) (ad : gA) (L : gL)  (σ : gS) (o : Nat) (hT : (3, o) ∈ L) (a1 : Int32) (a2 : Int32) (r0 : Int32) (hf : f_X3_holder ad σ o a1 a2 = some r0) : g_Mi l yX3_holder cX3_holder 4 (some .int) ({ frames := 1, cells := 0, slots := 0, locals := 22 } : Room) D cy A ad L σ [.ref (ad 3 o), .int a1, .int a2] r0 σ := by
  refine g_met (by decide) (Nat.le_of_ble_eq_true rfl) (fun p e s m below meth c C hr hlocks hnm G ls hl => ?_)
  have hl : lv_has ls 4 [(0, .ref (ad 3 o)), (1, .int a1), (2, .int a2)] := hl
  unfold f_X3_holder at hf
  refine lv_aload_n C.x C.b dX3_holder_0 rfl (lv_at hl 0 rfl) ?_
  refine lv_iload_n C.x C.b dX3_holder_1 rfl (lv_at hl 1 rfl) ?_
  refine lv_iload_n C.x C.b dX3_holder_2 rfl (lv_at hl 2 rfl) ?_
  obtain ⟨q1, eq1, hf⟩ := g_b hf
  refine g_calli G (g_runV (As := [.int a1, .int a2]) (rest := []) C G 3 o (c_X3_code l D cy A ad L σ o hT a1 a2 q1 eq1) ⟨tw498, tw61, tw495, ⟨tw496, tw497⟩, hd_X3_code⟩ (by decide) hT rfl ⟨rfl, by decide⟩ hl.1 rfl (Nat.le_of_ble_eq_true rfl) dX3_holder_3 ⟨Nat.le_of_ble_eq_true rfl, Nat.le_of_ble_eq_true rfl⟩) (fun H locs G => ?_)
  refine lv_istore_n (lv' := [(3, .int q1), (0, .ref (ad 3 o)), (1, .int a1), (2, .int a2)]) C.x C.b dX3_holder_6 rfl hl (by decide) rfl (fun ls hl => ?_)
  refine lv_iload_n C.x C.b dX3_holder_7 rfl (lv_at hl 0 rfl) ?_
  refine lv_iconst (v := (-1 : Int32)) C.x C.b dX3_holder_8 (by decide) ?_
  refine lv_icmp_ne (tgt := 16) C.x C.b dX3_holder_9 (by decide) (fun cb => ?_) (fun cb => ?_)
  · have hf := g_f cb hf
    refine lv_iload_n C.x C.b dX3_holder_16 rfl (lv_at hl 0 rfl) ?_
    refine lv_bipush (v := (100 : Int32)) C.x C.b dX3_holder_17 (by decide) ?_
    refine lv_irem C.x C.b dX3_holder_19 (by decide) ?_
    exact g_eip C G hr hlocks hf dX3_holder_20
  · have hf := g_t cb hf
    refine lv_iconst (v := (-1 : Int32)) C.x C.b dX3_holder_12 (by decide) ?_
    refine lv_goto (tgt := 20) C.x C.b dX3_holder_13 (by decide) ?_
    exact g_eip C G hr hlocks hf dX3_holder_20
def f_X3_isVoid (ad : gA) (σ : gS) (o : Nat) (a1 : Int32) (a2 : Int32) : Option Int32 := ((f_X3_code ad σ o a1 a2).bind fun q1 => (if q1 < (100 : Int32) then (some (0 : Int32)) else (some (1 : Int32))))
theorem hd_X3_isVoid : yX3_isVoid.cls ≠ "java/lang/invoke/MethodHandle" ∧ yX3_isVoid.cls ≠ "java/lang/invoke/VarHandle" ∧ (parseMethodDescriptor yX3_isVoid.desc).map (fun d => d.parameters.length) = some 2 := by decide +kernel
set_option maxHeartbeats 4000000 in
set_option maxRecDepth 100000 in
theorem c_X3_isVoid (l : Launch) (D : va_G) (cy : Nat → ClassId) (A : Nat → Prop) (ad : gA) (L : gL)  (σ : gS) (o : Nat) (hT : (3, o) ∈ L) (a1 : Int32) (a2 : Int32) (r0 : Int32) (hf : f_X3_isVoid ad σ o a1 a2 = some r0) : g_Mi l yX3_isVoid cX3_isVoid 3 (some .boolean) ({ frames := 1, cells := 0, slots := 0, locals := 22 } : Room) D cy A ad L σ [.ref (ad 3 o), .int a1, .int a2] r0 σ := by
  refine g_met (by decide) (Nat.le_of_ble_eq_true rfl) (fun p e s m below meth c C hr hlocks hnm G ls hl => ?_)
  have hl : lv_has ls 3 [(0, .ref (ad 3 o)), (1, .int a1), (2, .int a2)] := hl
  unfold f_X3_isVoid at hf
  refine lv_aload_n C.x C.b dX3_isVoid_0 rfl (lv_at hl 0 rfl) ?_
  refine lv_iload_n C.x C.b dX3_isVoid_1 rfl (lv_at hl 1 rfl) ?_
  refine lv_iload_n C.x C.b dX3_isVoid_2 rfl (lv_at hl 2 rfl) ?_
  obtain ⟨q1, eq1, hf⟩ := g_b hf
  refine g_calli G (g_runV (As := [.int a1, .int a2]) (rest := []) C G 3 o (c_X3_code l D cy A ad L σ o hT a1 a2 q1 eq1) ⟨tw498, tw61, tw495, ⟨tw496, tw497⟩, hd_X3_code⟩ (by decide) hT rfl ⟨rfl, by decide⟩ hl.1 rfl (Nat.le_of_ble_eq_true rfl) dX3_isVoid_3 ⟨Nat.le_of_ble_eq_true rfl, Nat.le_of_ble_eq_true rfl⟩) (fun H locs G => ?_)
  refine lv_bipush (v := (100 : Int32)) C.x C.b dX3_isVoid_6 (by decide) ?_
  refine lv_icmp_lt (tgt := 15) C.x C.b dX3_isVoid_8 (by decide) (fun cb => ?_) (fun cb => ?_)
  · have hf := g_t cb hf
    refine lv_iconst (v := (0 : Int32)) C.x C.b dX3_isVoid_15 (by decide) ?_
    exact g_ezp C G hr hlocks hf rfl dX3_isVoid_16
  · have hf := g_f cb hf
    refine lv_iconst (v := (1 : Int32)) C.x C.b dX3_isVoid_11 (by decide) ?_
    refine lv_goto (tgt := 16) C.x C.b dX3_isVoid_12 (by decide) ?_
    exact g_ezp C G hr hlocks hf rfl dX3_isVoid_16
def f_X3_firstEmpty_P28  : Option Int32 := (some (-1 : Int32))
def f_X3_firstEmpty_L2 (ad : gA) (σ : gS) (o : Nat) (a1 : Int32) (K2 : Option Int32) : Nat → Int32 → Option Int32
  | 0, _ => none
  | n + 1, v2 => (if (σ 3 o 0) ≤ v2 then (K2) else ((f_X3_code ad σ o a1 v2).bind fun q1 => (if q1 = (-1 : Int32) then (some v2) else (f_X3_firstEmpty_L2 ad σ o a1 K2 n (v2 + (1 : Int32))))))
def f_X3_firstEmpty (ad : gA) (σ : gS) (o : Nat) (a1 : Int32) : Option Int32 := (f_X3_firstEmpty_L2 ad σ o a1 (f_X3_firstEmpty_P28) g_fuel (0 : Int32))
theorem hd_X3_firstEmpty : yX3_firstEmpty.cls ≠ "java/lang/invoke/MethodHandle" ∧ yX3_firstEmpty.cls ≠ "java/lang/invoke/VarHandle" ∧ (parseMethodDescriptor yX3_firstEmpty.desc).map (fun d => d.parameters.length) = some 1 := by decide +kernel
set_option maxHeartbeats 4000000 in
set_option maxRecDepth 100000 in
theorem c_X3_firstEmpty (l : Launch) (D : va_G) (cy : Nat → ClassId) (A : Nat → Prop) (ad : gA) (L : gL)  (σ : gS) (o : Nat) (hT : (3, o) ∈ L) (a1 : Int32) (r0 : Int32) (hf : f_X3_firstEmpty ad σ o a1 = some r0) : g_Mi l yX3_firstEmpty cX3_firstEmpty 3 (some .int) ({ frames := 1, cells := 0, slots := 0, locals := 22 } : Room) D cy A ad L σ [.ref (ad 3 o), .int a1] r0 σ := by
  refine g_met (by decide) (Nat.le_of_ble_eq_true rfl) (fun p e s m below meth c C hr hlocks hnm G ls hl => ?_)
  have hl : lv_has ls 3 [(0, .ref (ad 3 o)), (1, .int a1)] := hl
  have pt28 : ∀ (H : Heap) (locs : List Loc) (ls : Array Slot), g_H D cy A ad L σ s.heap H locs → lv_has ls 3 [] → f_X3_firstEmpty_P28  = some r0 → g_Wi p l e ({ frames := 1, cells := 0, slots := 0, locals := 22 } : Room) s m below meth c H locs 0 0 D cy A ad L [.ref (ad 3 o), .int a1] r0 σ (F0 m 28 ls []) := by
    intro H locs ls G hl hf
    unfold f_X3_firstEmpty_P28 at hf
    refine lv_iconst (v := (-1 : Int32)) C.x C.b dX3_firstEmpty_28 (by decide) ?_
    exact g_eip C G hr hlocks hf dX3_firstEmpty_29
  have lp2 : ∀ n2 : Nat, ∀ (v2 : Int32) (H : Heap) (locs : List Loc) (ls : Array Slot), g_H D cy A ad L σ s.heap H locs → lv_has ls 3 [(0, .ref (ad 3 o)), (1, .int a1), (2, .int v2)] → f_X3_firstEmpty_L2 ad σ o a1 (f_X3_firstEmpty_P28) n2 v2 = some r0 → g_Wi p l e ({ frames := 1, cells := 0, slots := 0, locals := 22 } : Room) s m below meth c H locs 0 0 D cy A ad L [.ref (ad 3 o), .int a1] r0 σ (F0 m 2 ls []) := by
    intro n2
    induction n2 with
    | zero =>
      intro v2 H locs ls G hl hf
      rw [f_X3_firstEmpty_L2] at hf
      cases hf
    | succ n2 ih2 =>
      intro v2 H locs ls G hl hf
      rw [f_X3_firstEmpty_L2] at hf
      refine lv_iload_n C.x C.b dX3_firstEmpty_2 rfl (lv_at hl 2 rfl) ?_
      refine lv_aload_n C.x C.b dX3_firstEmpty_3 rfl (lv_at hl 0 rfl) ?_
      refine g_geti C G 3 o 0 hT rfl ginX3 (by decide) tw313 dX3_firstEmpty_4 ?_
      refine lv_icmp_ge (tgt := 28) C.x C.b dX3_firstEmpty_7 (by decide) (fun cb => ?_) (fun cb => ?_)
      · have hf := g_t cb hf
        exact pt28  _ _ ls G (lv_sub hl [] rfl) hf
      · have hf := g_f cb hf
        refine lv_aload_n C.x C.b dX3_firstEmpty_10 rfl (lv_at hl 0 rfl) ?_
        refine lv_iload_n C.x C.b dX3_firstEmpty_11 rfl (lv_at hl 1 rfl) ?_
        refine lv_iload_n C.x C.b dX3_firstEmpty_12 rfl (lv_at hl 2 rfl) ?_
        obtain ⟨q1, eq1, hf⟩ := g_b hf
        refine g_calli G (g_runV (As := [.int a1, .int v2]) (rest := []) C G 3 o (c_X3_code l D cy A ad L σ o hT a1 v2 q1 eq1) ⟨tw498, tw61, tw495, ⟨tw496, tw497⟩, hd_X3_code⟩ (by decide) hT rfl ⟨rfl, by decide⟩ hl.1 rfl (Nat.le_of_ble_eq_true rfl) dX3_firstEmpty_13 ⟨Nat.le_of_ble_eq_true rfl, Nat.le_of_ble_eq_true rfl⟩) (fun H locs G => ?_)
        refine lv_iconst (v := (-1 : Int32)) C.x C.b dX3_firstEmpty_16 (by decide) ?_
        refine lv_icmp_ne (tgt := 22) C.x C.b dX3_firstEmpty_17 (by decide) (fun cb => ?_) (fun cb => ?_)
        · have hf := g_f cb hf
          refine lv_iinc (v := (v2 + (1 : Int32))) (lv' := [(2, .int (v2 + (1 : Int32))), (0, .ref (ad 3 o)), (1, .int a1)]) C.x C.b dX3_firstEmpty_22 hl (k := 2) rfl rfl (by decide) rfl (fun ls hl => ?_)
          refine lv_goto (tgt := 2) C.x C.b dX3_firstEmpty_25 (by decide) ?_
          exact ih2 (v2 + (1 : Int32)) _ _ ls G (lv_sub hl [1, 2, 0] rfl) hf
        · have hf := g_t cb hf
          refine lv_iload_n C.x C.b dX3_firstEmpty_20 rfl (lv_at hl 2 rfl) ?_
          exact g_eip C G hr hlocks hf dX3_firstEmpty_21
  unfold f_X3_firstEmpty at hf
  refine lv_iconst (v := (0 : Int32)) C.x C.b dX3_firstEmpty_0 (by decide) ?_
  refine lv_istore_n (lv' := [(2, .int (0 : Int32)), (0, .ref (ad 3 o)), (1, .int a1)]) C.x C.b dX3_firstEmpty_1 rfl hl (by decide) rfl (fun ls hl => ?_)
  exact lp2 g_fuel (0 : Int32) _ _ ls G (lv_sub hl [1, 2, 0] rfl) hf
def f_X3_heldAhead_P31 (v3 : Int32) : Option Int32 := (some v3)
def f_X3_heldAhead_L5 (ad : gA) (σ : gS) (o : Nat) (a1 : Int32) (a2 : Int32) (K5 : Int32 → Option Int32) : Nat → Int32 → Int32 → Option Int32
  | 0, _, _ => none
  | n + 1, v3, v4 => (if a2 ≤ v4 then (K5 v3) else ((f_X3_code ad σ o a1 v4).bind fun q1 => (if q1 = (-1 : Int32) then (f_X3_heldAhead_L5 ad σ o a1 a2 K5 n v3 (v4 + (1 : Int32))) else (f_X3_heldAhead_L5 ad σ o a1 a2 K5 n (v3 + (1 : Int32)) (v4 + (1 : Int32))))))
def f_X3_heldAhead (ad : gA) (σ : gS) (o : Nat) (a1 : Int32) (a2 : Int32) : Option Int32 := (f_X3_heldAhead_L5 ad σ o a1 a2 (f_X3_heldAhead_P31) g_fuel (0 : Int32) (0 : Int32))
theorem hd_X3_heldAhead : yX3_heldAhead.cls ≠ "java/lang/invoke/MethodHandle" ∧ yX3_heldAhead.cls ≠ "java/lang/invoke/VarHandle" ∧ (parseMethodDescriptor yX3_heldAhead.desc).map (fun d => d.parameters.length) = some 2 := by decide +kernel
set_option maxHeartbeats 4000000 in
set_option maxRecDepth 100000 in
theorem c_X3_heldAhead (l : Launch) (D : va_G) (cy : Nat → ClassId) (A : Nat → Prop) (ad : gA) (L : gL)  (σ : gS) (o : Nat) (hT : (3, o) ∈ L) (a1 : Int32) (a2 : Int32) (r0 : Int32) (hf : f_X3_heldAhead ad σ o a1 a2 = some r0) : g_Mi l yX3_heldAhead cX3_heldAhead 5 (some .int) ({ frames := 1, cells := 0, slots := 0, locals := 22 } : Room) D cy A ad L σ [.ref (ad 3 o), .int a1, .int a2] r0 σ := by
  refine g_met (by decide) (Nat.le_of_ble_eq_true rfl) (fun p e s m below meth c C hr hlocks hnm G ls hl => ?_)
  have hl : lv_has ls 5 [(0, .ref (ad 3 o)), (1, .int a1), (2, .int a2)] := hl
  have pt31 : ∀ (v3 : Int32) (H : Heap) (locs : List Loc) (ls : Array Slot), g_H D cy A ad L σ s.heap H locs → lv_has ls 5 [(3, .int v3)] → f_X3_heldAhead_P31 v3 = some r0 → g_Wi p l e ({ frames := 1, cells := 0, slots := 0, locals := 22 } : Room) s m below meth c H locs 0 0 D cy A ad L [.ref (ad 3 o), .int a1, .int a2] r0 σ (F0 m 31 ls []) := by
    intro v3 H locs ls G hl hf
    unfold f_X3_heldAhead_P31 at hf
    refine lv_iload_n C.x C.b dX3_heldAhead_31 rfl (lv_at hl 0 rfl) ?_
    exact g_eip C G hr hlocks hf dX3_heldAhead_32
  have lp5 : ∀ n5 : Nat, ∀ (v3 : Int32) (v4 : Int32) (H : Heap) (locs : List Loc) (ls : Array Slot), g_H D cy A ad L σ s.heap H locs → lv_has ls 5 [(0, .ref (ad 3 o)), (1, .int a1), (2, .int a2), (3, .int v3), (4, .int v4)] → f_X3_heldAhead_L5 ad σ o a1 a2 (f_X3_heldAhead_P31) n5 v3 v4 = some r0 → g_Wi p l e ({ frames := 1, cells := 0, slots := 0, locals := 22 } : Room) s m below meth c H locs 0 0 D cy A ad L [.ref (ad 3 o), .int a1, .int a2] r0 σ (F0 m 5 ls []) := by
    intro n5
    induction n5 with
    | zero =>
      intro v3 v4 H locs ls G hl hf
      rw [f_X3_heldAhead_L5] at hf
      cases hf
    | succ n5 ih5 =>
      intro v3 v4 H locs ls G hl hf
      rw [f_X3_heldAhead_L5] at hf
      refine lv_iload C.x C.b dX3_heldAhead_5 (lv_at hl 4 rfl) ?_
      refine lv_iload_n C.x C.b dX3_heldAhead_7 rfl (lv_at hl 2 rfl) ?_
      refine lv_icmp_ge (tgt := 31) C.x C.b dX3_heldAhead_8 (by decide) (fun cb => ?_) (fun cb => ?_)
      · have hf := g_t cb hf
        exact pt31 v3 _ _ ls G (lv_sub hl [3] rfl) hf
      · have hf := g_f cb hf
        refine lv_aload_n C.x C.b dX3_heldAhead_11 rfl (lv_at hl 0 rfl) ?_
        refine lv_iload_n C.x C.b dX3_heldAhead_12 rfl (lv_at hl 1 rfl) ?_
        refine lv_iload C.x C.b dX3_heldAhead_13 (lv_at hl 4 rfl) ?_
        obtain ⟨q1, eq1, hf⟩ := g_b hf
        refine g_calli G (g_runV (As := [.int a1, .int v4]) (rest := []) C G 3 o (c_X3_code l D cy A ad L σ o hT a1 v4 q1 eq1) ⟨tw498, tw61, tw495, ⟨tw496, tw497⟩, hd_X3_code⟩ (by decide) hT rfl ⟨rfl, by decide⟩ hl.1 rfl (Nat.le_of_ble_eq_true rfl) dX3_heldAhead_15 ⟨Nat.le_of_ble_eq_true rfl, Nat.le_of_ble_eq_true rfl⟩) (fun H locs G => ?_)
        refine lv_iconst (v := (-1 : Int32)) C.x C.b dX3_heldAhead_18 (by decide) ?_
        refine lv_icmp_eq (tgt := 25) C.x C.b dX3_heldAhead_19 (by decide) (fun cb => ?_) (fun cb => ?_)
        · have hf := g_t cb hf
          refine lv_iinc (v := (v4 + (1 : Int32))) (lv' := [(4, .int (v4 + (1 : Int32))), (0, .ref (ad 3 o)), (1, .int a1), (2, .int a2), (3, .int v3)]) C.x C.b dX3_heldAhead_25 hl (k := 4) rfl rfl (by decide) rfl (fun ls hl => ?_)
          refine lv_goto (tgt := 5) C.x C.b dX3_heldAhead_28 (by decide) ?_
          exact ih5 v3 (v4 + (1 : Int32)) _ _ ls G (lv_sub hl [1, 2, 3, 4, 0] rfl) hf
        · have hf := g_f cb hf
          refine lv_iinc (v := (v3 + (1 : Int32))) (lv' := [(3, .int (v3 + (1 : Int32))), (0, .ref (ad 3 o)), (1, .int a1), (2, .int a2), (4, .int v4)]) C.x C.b dX3_heldAhead_22 hl (k := 3) rfl rfl (by decide) rfl (fun ls hl => ?_)
          refine lv_iinc (v := (v4 + (1 : Int32))) (lv' := [(4, .int (v4 + (1 : Int32))), (3, .int (v3 + (1 : Int32))), (0, .ref (ad 3 o)), (1, .int a1), (2, .int a2)]) C.x C.b dX3_heldAhead_25 hl (k := 4) rfl rfl (by decide) rfl (fun ls hl => ?_)
          refine lv_goto (tgt := 5) C.x C.b dX3_heldAhead_28 (by decide) ?_
          exact ih5 (v3 + (1 : Int32)) (v4 + (1 : Int32)) _ _ ls G (lv_sub hl [2, 3, 4, 1, 0] rfl) hf
  unfold f_X3_heldAhead at hf
  refine lv_iconst (v := (0 : Int32)) C.x C.b dX3_heldAhead_0 (by decide) ?_
  refine lv_istore_n (lv' := [(3, .int (0 : Int32)), (0, .ref (ad 3 o)), (1, .int a1), (2, .int a2)]) C.x C.b dX3_heldAhead_1 rfl hl (by decide) rfl (fun ls hl => ?_)
  refine lv_iconst (v := (0 : Int32)) C.x C.b dX3_heldAhead_2 (by decide) ?_
  refine lv_istore (lv' := [(4, .int (0 : Int32)), (3, .int (0 : Int32)), (0, .ref (ad 3 o)), (1, .int a1), (2, .int a2)]) C.x C.b dX3_heldAhead_3 hl (by decide) rfl (fun ls hl => ?_)
  exact lp5 g_fuel (0 : Int32) (0 : Int32) _ _ ls G (lv_sub hl [2, 3, 4, 1, 0] rfl) hf
def f_X3_holders_P46 (v2 : Int32) : Option Int32 := (some v2)
def f_X3_holders_L4 (ad : gA) (σ : gS) (o : Nat) (a1 : Int32) (K4 : Int32 → Option Int32) : Nat → Int32 → Int32 → Option Int32
  | 0, _, _ => none
  | n + 1, v2, v3 => (if (σ 3 o 0) ≤ v3 then (K4 v2) else ((f_X3_code ad σ o a1 v3).bind fun q1 => (if q1 = (-1 : Int32) then (f_X3_holders_L4 ad σ o a1 K4 n v2 (v3 + (1 : Int32))) else (if (100 : Int32) ≤ q1 then (f_X3_holders_L4 ad σ o a1 K4 n v2 (v3 + (1 : Int32))) else (f_X3_holders_L4 ad σ o a1 K4 n (v2 ||| ((1 : Int32) <<< (q1 &&& 31))) (v3 + (1 : Int32)))))))
def f_X3_holders (ad : gA) (σ : gS) (o : Nat) (a1 : Int32) : Option Int32 := (f_X3_holders_L4 ad σ o a1 (f_X3_holders_P46) g_fuel (0 : Int32) (0 : Int32))
theorem hd_X3_holders : yX3_holders.cls ≠ "java/lang/invoke/MethodHandle" ∧ yX3_holders.cls ≠ "java/lang/invoke/VarHandle" ∧ (parseMethodDescriptor yX3_holders.desc).map (fun d => d.parameters.length) = some 1 := by decide +kernel
set_option maxHeartbeats 4000000 in
set_option maxRecDepth 100000 in
theorem c_X3_holders (l : Launch) (D : va_G) (cy : Nat → ClassId) (A : Nat → Prop) (ad : gA) (L : gL)  (σ : gS) (o : Nat) (hT : (3, o) ∈ L) (a1 : Int32) (r0 : Int32) (hf : f_X3_holders ad σ o a1 = some r0) : g_Mi l yX3_holders cX3_holders 5 (some .int) ({ frames := 1, cells := 0, slots := 0, locals := 22 } : Room) D cy A ad L σ [.ref (ad 3 o), .int a1] r0 σ := by
  refine g_met (by decide) (Nat.le_of_ble_eq_true rfl) (fun p e s m below meth c C hr hlocks hnm G ls hl => ?_)
  have hl : lv_has ls 5 [(0, .ref (ad 3 o)), (1, .int a1)] := hl
  have pt46 : ∀ (v2 : Int32) (H : Heap) (locs : List Loc) (ls : Array Slot), g_H D cy A ad L σ s.heap H locs → lv_has ls 5 [(2, .int v2)] → f_X3_holders_P46 v2 = some r0 → g_Wi p l e ({ frames := 1, cells := 0, slots := 0, locals := 22 } : Room) s m below meth c H locs 0 0 D cy A ad L [.ref (ad 3 o), .int a1] r0 σ (F0 m 46 ls []) := by
    intro v2 H locs ls G hl hf
    unfold f_X3_holders_P46 at hf
    refine lv_iload_n C.x C.b dX3_holders_46 rfl (lv_at hl 0 rfl) ?_
    exact g_eip C G hr hlocks hf dX3_holders_47
  have lp4 : ∀ n4 : Nat, ∀ (v2 : Int32) (v3 : Int32) (H : Heap) (locs : List Loc) (ls : Array Slot), g_H D cy A ad L σ s.heap H locs → lv_has ls 5 [(0, .ref (ad 3 o)), (1, .int a1), (2, .int v2), (3, .int v3)] → f_X3_holders_L4 ad σ o a1 (f_X3_holders_P46) n4 v2 v3 = some r0 → g_Wi p l e ({ frames := 1, cells := 0, slots := 0, locals := 22 } : Room) s m below meth c H locs 0 0 D cy A ad L [.ref (ad 3 o), .int a1] r0 σ (F0 m 4 ls []) := by
    intro n4
    induction n4 with
    | zero =>
      intro v2 v3 H locs ls G hl hf
      rw [f_X3_holders_L4] at hf
      cases hf
    | succ n4 ih4 =>
      intro v2 v3 H locs ls G hl hf
      rw [f_X3_holders_L4] at hf
      refine lv_iload_n C.x C.b dX3_holders_4 rfl (lv_at hl 3 rfl) ?_
      refine lv_aload_n C.x C.b dX3_holders_5 rfl (lv_at hl 0 rfl) ?_
      refine g_geti C G 3 o 0 hT rfl ginX3 (by decide) tw313 dX3_holders_6 ?_
      refine lv_icmp_ge (tgt := 46) C.x C.b dX3_holders_9 (by decide) (fun cb => ?_) (fun cb => ?_)
      · have hf := g_t cb hf
        exact pt46 v2 _ _ ls G (lv_sub hl [2] rfl) hf
      · have hf := g_f cb hf
        refine lv_aload_n C.x C.b dX3_holders_12 rfl (lv_at hl 0 rfl) ?_
        refine lv_iload_n C.x C.b dX3_holders_13 rfl (lv_at hl 1 rfl) ?_
        refine lv_iload_n C.x C.b dX3_holders_14 rfl (lv_at hl 3 rfl) ?_
        obtain ⟨q1, eq1, hf⟩ := g_b hf
        refine g_calli G (g_runV (As := [.int a1, .int v3]) (rest := []) C G 3 o (c_X3_code l D cy A ad L σ o hT a1 v3 q1 eq1) ⟨tw498, tw61, tw495, ⟨tw496, tw497⟩, hd_X3_code⟩ (by decide) hT rfl ⟨rfl, by decide⟩ hl.1 rfl (Nat.le_of_ble_eq_true rfl) dX3_holders_15 ⟨Nat.le_of_ble_eq_true rfl, Nat.le_of_ble_eq_true rfl⟩) (fun H locs G => ?_)
        refine lv_istore (lv' := [(4, .int q1), (0, .ref (ad 3 o)), (1, .int a1), (2, .int v2), (3, .int v3)]) C.x C.b dX3_holders_18 hl (by decide) rfl (fun ls hl => ?_)
        refine lv_iload C.x C.b dX3_holders_20 (lv_at hl 0 rfl) ?_
        refine lv_iconst (v := (-1 : Int32)) C.x C.b dX3_holders_22 (by decide) ?_
        refine lv_icmp_eq (tgt := 40) C.x C.b dX3_holders_23 (by decide) (fun cb => ?_) (fun cb => ?_)
        · have hf := g_t cb hf
          refine lv_iinc (v := (v3 + (1 : Int32))) (lv' := [(3, .int (v3 + (1 : Int32))), (4, .int q1), (0, .ref (ad 3 o)), (1, .int a1), (2, .int v2)]) C.x C.b dX3_holders_40 hl (k := 4) rfl rfl (by decide) rfl (fun ls hl => ?_)
          refine lv_goto (tgt := 4) C.x C.b dX3_holders_43 (by decide) ?_
          exact ih4 v2 (v3 + (1 : Int32)) _ _ ls G (lv_sub hl [2, 3, 4, 0] rfl) hf
        · have hf := g_f cb hf
          refine lv_iload C.x C.b dX3_holders_26 (lv_at hl 0 rfl) ?_
          refine lv_bipush (v := (100 : Int32)) C.x C.b dX3_holders_28 (by decide) ?_
          refine lv_icmp_ge (tgt := 40) C.x C.b dX3_holders_30 (by decide) (fun cb => ?_) (fun cb => ?_)
          · have hf := g_t cb hf
            refine lv_iinc (v := (v3 + (1 : Int32))) (lv' := [(3, .int (v3 + (1 : Int32))), (4, .int q1), (0, .ref (ad 3 o)), (1, .int a1), (2, .int v2)]) C.x C.b dX3_holders_40 hl (k := 4) rfl rfl (by decide) rfl (fun ls hl => ?_)
            refine lv_goto (tgt := 4) C.x C.b dX3_holders_43 (by decide) ?_
            exact ih4 v2 (v3 + (1 : Int32)) _ _ ls G (lv_sub hl [2, 3, 4, 0] rfl) hf
          · have hf := g_f cb hf
            refine lv_iload_n C.x C.b dX3_holders_33 rfl (lv_at hl 3 rfl) ?_
            refine lv_iconst (v := (1 : Int32)) C.x C.b dX3_holders_34 (by decide) ?_
            refine lv_iload C.x C.b dX3_holders_35 (lv_at hl 0 rfl) ?_
            refine lv_ishl C.x C.b dX3_holders_37 ?_
            refine lv_ior C.x C.b dX3_holders_38 ?_
            refine lv_istore_n (lv' := [(2, .int (v2 ||| ((1 : Int32) <<< (q1 &&& 31)))), (4, .int q1), (0, .ref (ad 3 o)), (1, .int a1), (3, .int v3)]) C.x C.b dX3_holders_39 rfl hl (by decide) rfl (fun ls hl => ?_)
            refine lv_iinc (v := (v3 + (1 : Int32))) (lv' := [(3, .int (v3 + (1 : Int32))), (2, .int (v2 ||| ((1 : Int32) <<< (q1 &&& 31)))), (4, .int q1), (0, .ref (ad 3 o)), (1, .int a1)]) C.x C.b dX3_holders_40 hl (k := 4) rfl rfl (by decide) rfl (fun ls hl => ?_)
            refine lv_goto (tgt := 4) C.x C.b dX3_holders_43 (by decide) ?_
            exact ih4 (v2 ||| ((1 : Int32) <<< (q1 &&& 31))) (v3 + (1 : Int32)) _ _ ls G (lv_sub hl [3, 4, 1, 0] rfl) hf
  unfold f_X3_holders at hf
  refine lv_iconst (v := (0 : Int32)) C.x C.b dX3_holders_0 (by decide) ?_
  refine lv_istore_n (lv' := [(2, .int (0 : Int32)), (0, .ref (ad 3 o)), (1, .int a1)]) C.x C.b dX3_holders_1 rfl hl (by decide) rfl (fun ls hl => ?_)
  refine lv_iconst (v := (0 : Int32)) C.x C.b dX3_holders_2 (by decide) ?_
  refine lv_istore_n (lv' := [(3, .int (0 : Int32)), (2, .int (0 : Int32)), (0, .ref (ad 3 o)), (1, .int a1)]) C.x C.b dX3_holders_3 rfl hl (by decide) rfl (fun ls hl => ?_)
  exact lp4 g_fuel (0 : Int32) (0 : Int32) _ _ ls G (lv_sub hl [2, 3, 1, 0] rfl) hf
