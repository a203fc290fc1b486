def f_X7_isRow (ad : gA) (σ : gS) (o : Nat) : Option Int32 := (if (σ 7 o 0) = (3 : Int32) then (some (1 : Int32)) else (if (σ 7 o 0) = (4 : Int32) then (some (1 : Int32)) else (some (0 : Int32))))
theorem hd_X7_isRow : yX7_isRow.cls ≠ "java/lang/invoke/MethodHandle" ∧ yX7_isRow.cls ≠ "java/lang/invoke/VarHandle" ∧ (parseMethodDescriptor yX7_isRow.desc).map (fun d => d.parameters.length) = some 0 := by decide +kernel
set_option maxHeartbeats 4000000 in
set_option maxRecDepth 100000 in
theorem c_X7_isRow (l : Launch) (D : va_G) (cy : Nat → ClassId) (A : Nat → Prop) (ad : gA) (L : gL)  (σ : gS) (o : Nat) (hT : (7, o) ∈ L) (r0 : Int32) (hf : f_X7_isRow ad σ o = some r0) : g_Mi l yX7_isRow cX7_isRow 1 (some .boolean) ({ frames := 0, cells := 0, slots := 0, locals := 0 } : Room) D cy A ad L σ [.ref (ad 7 o)] r0 σ := by
  refine g_met (by decide) (Nat.le_of_ble_eq_true rfl) (fun p e s m below meth c C hr hlocks hnm G ls hl => ?_)
  have hl : lv_has ls 1 [(0, .ref (ad 7 o))] := hl
  unfold f_X7_isRow at hf
  refine lv_aload_n C.x C.b dX7_isRow_0 rfl (lv_at hl 0 rfl) ?_
  refine g_geti C G 7 o 0 hT rfl ginX7 (by decide) tw264 dX7_isRow_1 ?_
  refine lv_iconst (v := (3 : Int32)) C.x C.b dX7_isRow_4 (by decide) ?_
  refine lv_icmp_eq (tgt := 16) C.x C.b dX7_isRow_5 (by decide) (fun cb => ?_) (fun cb => ?_)
  · have hf := g_t cb hf
    refine lv_iconst (v := (1 : Int32)) C.x C.b dX7_isRow_16 (by decide) ?_
    refine lv_goto (tgt := 21) C.x C.b dX7_isRow_17 (by decide) ?_
    exact g_ezp C G hr hlocks hf rfl dX7_isRow_21
  · have hf := g_f cb hf
    refine lv_aload_n C.x C.b dX7_isRow_8 rfl (lv_at hl 0 rfl) ?_
    refine g_geti C G 7 o 0 hT rfl ginX7 (by decide) tw264 dX7_isRow_9 ?_
    refine lv_iconst (v := (4 : Int32)) C.x C.b dX7_isRow_12 (by decide) ?_
    refine lv_icmp_ne (tgt := 20) C.x C.b dX7_isRow_13 (by decide) (fun cb => ?_) (fun cb => ?_)
    · have hf := g_f cb hf
      refine lv_iconst (v := (0 : Int32)) C.x C.b dX7_isRow_20 (by decide) ?_
      exact g_ezp C G hr hlocks hf rfl dX7_isRow_21
    · have hf := g_t cb hf
      refine lv_iconst (v := (1 : Int32)) C.x C.b dX7_isRow_16 (by decide) ?_
      refine lv_goto (tgt := 21) C.x C.b dX7_isRow_17 (by decide) ?_
      exact g_ezp C G hr hlocks hf rfl dX7_isRow_21
def f_X7_hasSpan (ad : gA) (σ : gS) (o : Nat) (a1 : Int32) (a2 : Int32) : Option Int32 := (if a1 < 0 then (some (0 : Int32)) else (if a2 < 0 then (some (0 : Int32)) else (if (σ 7 o 2) < a2 then (some (0 : Int32)) else (if ((σ 7 o 2) - a2) < a1 then (some (0 : Int32)) else (some (1 : Int32))))))
theorem hd_X7_hasSpan : yX7_hasSpan.cls ≠ "java/lang/invoke/MethodHandle" ∧ yX7_hasSpan.cls ≠ "java/lang/invoke/VarHandle" ∧ (parseMethodDescriptor yX7_hasSpan.desc).map (fun d => d.parameters.length) = some 2 := by decide +kernel
set_option maxHeartbeats 4000000 in
set_option maxRecDepth 100000 in
theorem c_X7_hasSpan (l : Launch) (D : va_G) (cy : Nat → ClassId) (A : Nat → Prop) (ad : gA) (L : gL)  (σ : gS) (o : Nat) (hT : (7, o) ∈ L) (a1 : Int32) (a2 : Int32) (r0 : Int32) (hf : f_X7_hasSpan ad σ o a1 a2 = some r0) : g_Mi l yX7_hasSpan cX7_hasSpan 3 (some .boolean) ({ frames := 0, cells := 0, slots := 0, locals := 0 } : Room) D cy A ad L σ [.ref (ad 7 o), .int a1, .int a2] r0 σ := by
  refine g_met (by decide) (Nat.le_of_ble_eq_true rfl) (fun p e s m below meth c C hr hlocks hnm G ls hl => ?_)
  have hl : lv_has ls 3 [(0, .ref (ad 7 o)), (1, .int a1), (2, .int a2)] := hl
  unfold f_X7_hasSpan at hf
  refine lv_iload_n C.x C.b dX7_hasSpan_0 rfl (lv_at hl 1 rfl) ?_
  refine lv_if_lt (tgt := 30) C.x C.b dX7_hasSpan_1 (by decide) (fun cb => ?_) (fun cb => ?_)
  · have hf := g_t cb hf
    refine lv_iconst (v := (0 : Int32)) C.x C.b dX7_hasSpan_30 (by decide) ?_
    exact g_ezp C G hr hlocks hf rfl dX7_hasSpan_31
  · have hf := g_f cb hf
    refine lv_iload_n C.x C.b dX7_hasSpan_4 rfl (lv_at hl 2 rfl) ?_
    refine lv_if_lt (tgt := 30) C.x C.b dX7_hasSpan_5 (by decide) (fun cb => ?_) (fun cb => ?_)
    · have hf := g_t cb hf
      refine lv_iconst (v := (0 : Int32)) C.x C.b dX7_hasSpan_30 (by decide) ?_
      exact g_ezp C G hr hlocks hf rfl dX7_hasSpan_31
    · have hf := g_f cb hf
      refine lv_iload_n C.x C.b dX7_hasSpan_8 rfl (lv_at hl 2 rfl) ?_
      refine lv_aload_n C.x C.b dX7_hasSpan_9 rfl (lv_at hl 0 rfl) ?_
      refine g_geti C G 7 o 2 hT rfl ginX7 (by decide) tw268 dX7_hasSpan_10 ?_
      refine lv_icmp_gt (tgt := 30) C.x C.b dX7_hasSpan_13 (by decide) (fun cb => ?_) (fun cb => ?_)
      · have hf := g_t cb hf
        refine lv_iconst (v := (0 : Int32)) C.x C.b dX7_hasSpan_30 (by decide) ?_
        exact g_ezp C G hr hlocks hf rfl dX7_hasSpan_31
      · have hf := g_f cb hf
        refine lv_iload_n C.x C.b dX7_hasSpan_16 rfl (lv_at hl 1 rfl) ?_
        refine lv_aload_n C.x C.b dX7_hasSpan_17 rfl (lv_at hl 0 rfl) ?_
        refine g_geti C G 7 o 2 hT rfl ginX7 (by decide) tw268 dX7_hasSpan_18 ?_
        refine lv_iload_n C.x C.b dX7_hasSpan_21 rfl (lv_at hl 2 rfl) ?_
        refine lv_isub C.x C.b dX7_hasSpan_22 ?_
        refine lv_icmp_gt (tgt := 30) C.x C.b dX7_hasSpan_23 (by decide) (fun cb => ?_) (fun cb => ?_)
        · have hf := g_t cb hf
          refine lv_iconst (v := (0 : Int32)) C.x C.b dX7_hasSpan_30 (by decide) ?_
          exact g_ezp C G hr hlocks hf rfl dX7_hasSpan_31
        · have hf := g_f cb hf
          refine lv_iconst (v := (1 : Int32)) C.x C.b dX7_hasSpan_26 (by decide) ?_
          refine lv_goto (tgt := 31) C.x C.b dX7_hasSpan_27 (by decide) ?_
          exact g_ezp C G hr hlocks hf rfl dX7_hasSpan_31
def f_X7_at (ad : gA) (σ : gS) (o : Nat) (a1 : Int32) : Option Int64 := (if (σ 7 o 0) = (3 : Int32) then (if g_ix a1 200 then (some ((σ 28 o a1.toNatClampNeg)).toInt64) else none) else (if g_ix a1 60 then (some ((σ 29 o a1.toNatClampNeg)).toInt64) else none))
theorem hd_X7_at : yX7_at.cls ≠ "java/lang/invoke/MethodHandle" ∧ yX7_at.cls ≠ "java/lang/invoke/VarHandle" ∧ (parseMethodDescriptor yX7_at.desc).map (fun d => d.parameters.length) = some 1 := by decide +kernel
set_option maxHeartbeats 4000000 in
set_option maxRecDepth 100000 in
theorem c_X7_at (l : Launch) (D : va_G) (cy : Nat → ClassId) (A : Nat → Prop) (ad : gA) (L : gL)  (σ : gS) (o : Nat) (hT : (7, o) ∈ L) (a1 : Int32) (r0 : Int64) (hf : f_X7_at ad σ o a1 = some r0) : g_Ml l yX7_at cX7_at 2 (some .long) ({ frames := 0, cells := 0, slots := 0, locals := 0 } : Room) D cy A ad L σ [.ref (ad 7 o), .int a1] r0 σ := by
  refine g_met (by decide) (Nat.le_of_ble_eq_true rfl) (fun p e s m below meth c C hr hlocks hnm G ls hl => ?_)
  have hl : lv_has ls 2 [(0, .ref (ad 7 o)), (1, .int a1)] := hl
  unfold f_X7_at at hf
  refine lv_aload_n C.x C.b dX7_at_0 rfl (lv_at hl 0 rfl) ?_
  refine g_geti C G 7 o 0 hT rfl ginX7 (by decide) tw264 dX7_at_1 ?_
  refine lv_iconst (v := (3 : Int32)) C.x C.b dX7_at_4 (by decide) ?_
  refine lv_icmp_ne (tgt := 18) C.x C.b dX7_at_5 (by decide) (fun cb => ?_) (fun cb => ?_)
  · have hf := g_f cb hf
    refine lv_aload_n C.x C.b dX7_at_18 rfl (lv_at hl 0 rfl) ?_
    refine g_getr C G 7 o 4 29 hT rfl ginX7 (by decide) tw271 dX7_at_19 (fun hL1 => ?_)
    refine lv_iload_n C.x C.b dX7_at_22 rfl (lv_at hl 1 rfl) ?_
    obtain ⟨hi2, hf⟩ := g_ok hf
    refine g_iald (n := 60) C G 29 o hL1 (by decide) rfl hi2 dX7_at_23 ?_
    refine lv_i2l C.x C.b dX7_at_24 rfl ?_
    exact g_elp C G hr hlocks hf dX7_at_25
  · have hf := g_t cb hf
    refine lv_aload_n C.x C.b dX7_at_8 rfl (lv_at hl 0 rfl) ?_
    refine g_getr C G 7 o 3 28 hT rfl ginX7 (by decide) tw270 dX7_at_9 (fun hL3 => ?_)
    refine lv_iload_n C.x C.b dX7_at_12 rfl (lv_at hl 1 rfl) ?_
    obtain ⟨hi4, hf⟩ := g_ok hf
    refine g_bald (n := 200) C G 28 o hL3 (by decide) rfl hi4 dX7_at_13 ?_
    refine lv_i2l C.x C.b dX7_at_14 rfl ?_
    refine lv_goto (tgt := 25) C.x C.b dX7_at_15 (by decide) ?_
    exact g_elp C G hr hlocks hf dX7_at_25
def f_X7_become (ad : gA) (σ : gS) (o : Nat) (a1 : Int32) (a2 : Int32) : Option gS := (g_let (g_up σ 7 o 0 a1) fun σ1 => (g_let (g_up σ1 7 o 2 a2) fun σ2 => (g_let (g_up σ2 7 o 1 (-1 : Int32)) fun σ3 => (some σ3))))
theorem hd_X7_become : yX7_become.cls ≠ "java/lang/invoke/MethodHandle" ∧ yX7_become.cls ≠ "java/lang/invoke/VarHandle" ∧ (parseMethodDescriptor yX7_become.desc).map (fun d => d.parameters.length) = some 2 := by decide +kernel
set_option maxHeartbeats 4000000 in
set_option maxRecDepth 100000 in
theorem c_X7_become (l : Launch) (D : va_G) (cy : Nat → ClassId) (A : Nat → Prop) (ad : gA) (L : gL)  (σ : gS) (o : Nat) (hT : (7, o) ∈ L) (a1 : Int32) (a2 : Int32) (σ0 : gS) (hf : f_X7_become ad σ o a1 a2 = some σ0) : g_Mv l yX7_become cX7_become 3 none ({ frames := 0, cells := 0, slots := 0, locals := 0 } : Room) D cy A ad L σ [.ref (ad 7 o), .int a1, .int a2] σ0 := by
  refine g_met (by decide) (Nat.le_of_ble_eq_true rfl) (fun p e s m below meth c C hr hlocks hnm G ls hl => ?_)
  have hl : lv_has ls 3 [(0, .ref (ad 7 o)), (1, .int a1), (2, .int a2)] := hl
  unfold f_X7_become at hf
  refine lv_aload_n C.x C.b dX7_become_0 rfl (lv_at hl 0 rfl) ?_
  refine lv_iload_n C.x C.b dX7_become_1 rfl (lv_at hl 1 rfl) ?_
  refine g_puti C G 7 o 0 hT (v := a1) rfl ginX7 tyX7_ok nmX7 (by decide) ⟨rfl, rfl⟩ tw264 dX7_become_2 (fun H locs G => ?_)
  obtain ⟨σ1, eσ1, hf⟩ := g_lt hf
  rw [← eσ1] at G
  refine lv_aload_n C.x C.b dX7_become_5 rfl (lv_at hl 0 rfl) ?_
  refine lv_iload_n C.x C.b dX7_become_6 rfl (lv_at hl 2 rfl) ?_
  refine g_puti C G 7 o 2 hT (v := a2) rfl ginX7 tyX7_ok nmX7 (by decide) ⟨rfl, rfl⟩ tw268 dX7_become_7 (fun H locs G => ?_)
  obtain ⟨σ2, eσ2, hf⟩ := g_lt hf
  rw [← eσ2] at G
  refine lv_aload_n C.x C.b dX7_become_10 rfl (lv_at hl 0 rfl) ?_
  refine lv_null C.x C.b dX7_become_11 ?_
  refine g_putq C G o hT (v := (-1 : Int32)) rfl (fun h => absurd (show (-1 : Int32) < 0 by decide) h) tw266 dX7_become_12 (fun H locs G => ?_)
  obtain ⟨σ3, eσ3, hf⟩ := g_lt hf
  rw [← eσ3] at G
  exact g_evi C G hr hlocks hf dX7_become_15
def f_X7_clear (ad : gA) (σ : gS) (o : Nat) : Option gS := ((f_X7_become ad σ o (0 : Int32) (0 : Int32)).bind fun σ1 => (some σ1))
theorem hd_X7_clear : yX7_clear.cls ≠ "java/lang/invoke/MethodHandle" ∧ yX7_clear.cls ≠ "java/lang/invoke/VarHandle" ∧ (parseMethodDescriptor yX7_clear.desc).map (fun d => d.parameters.length) = some 0 := by decide +kernel
set_option maxHeartbeats 4000000 in
set_option maxRecDepth 100000 in
theorem c_X7_clear (l : Launch) (D : va_G) (cy : Nat → ClassId) (A : Nat → Prop) (ad : gA) (L : gL)  (σ : gS) (o : Nat) (hT : (7, o) ∈ L) (σ0 : gS) (hf : f_X7_clear ad σ o = some σ0) : g_Mv l yX7_clear cX7_clear 1 none ({ frames := 1, cells := 0, slots := 0, locals := 22 } : Room) D cy A ad L σ [.ref (ad 7 o)] σ0 := by
  refine g_met (by decide) (Nat.le_of_ble_eq_true rfl) (fun p e s m below meth c C hr hlocks hnm G ls hl => ?_)
  have hl : lv_has ls 1 [(0, .ref (ad 7 o))] := hl
  unfold f_X7_clear at hf
  refine lv_aload_n C.x C.b dX7_clear_0 rfl (lv_at hl 0 rfl) ?_
  refine lv_iconst (v := (0 : Int32)) C.x C.b dX7_clear_1 (by decide) ?_
  refine lv_iconst (v := (0 : Int32)) C.x C.b dX7_clear_2 (by decide) ?_
  obtain ⟨σ1, eσ1, hf⟩ := g_b hf
  refine g_callv G (g_runV (As := [.int (0 : Int32), .int (0 : Int32)]) (rest := []) C G 7 o (c_X7_become l D cy A ad L σ o hT (0 : Int32) (0 : Int32) σ1 eσ1) ⟨tw774, tw59, tw771, ⟨tw773, tw15⟩, hd_X7_become⟩ (by decide) hT rfl ⟨rfl, by decide⟩ hl.1 rfl (Nat.le_of_ble_eq_true rfl) dX7_clear_3 ⟨Nat.le_of_ble_eq_true rfl, Nat.le_of_ble_eq_true rfl⟩) (fun H locs G => ?_)
  exact g_evi C G hr hlocks hf dX7_clear_6
def f_X7_keepLaw (ad : gA) (σ : gS) (o : Nat) (a1 : Nat) : Option gS := ((f_X7_become ad σ o (1 : Int32) (0 : Int32)).bind fun σ1 => (if a1 < 20 then (g_let (g_up σ1 7 o 1 (Int32.ofNat a1)) fun σ2 => (some σ2)) else none))
theorem hd_X7_keepLaw : yX7_keepLaw.cls ≠ "java/lang/invoke/MethodHandle" ∧ yX7_keepLaw.cls ≠ "java/lang/invoke/VarHandle" ∧ (parseMethodDescriptor yX7_keepLaw.desc).map (fun d => d.parameters.length) = some 1 := by decide +kernel
set_option maxHeartbeats 4000000 in
set_option maxRecDepth 100000 in
theorem c_X7_keepLaw (l : Launch) (D : va_G) (cy : Nat → ClassId) (A : Nat → Prop) (ad : gA) (L : gL)  (σ : gS) (o : Nat) (hT : (7, o) ∈ L) (a1 : Nat) (ha1 : (2, a1) ∈ L) (σ0 : gS) (hf : f_X7_keepLaw ad σ o a1 = some σ0) : g_Mv l yX7_keepLaw cX7_keepLaw 2 none ({ frames := 1, cells := 0, slots := 0, locals := 22 } : Room) D cy A ad L σ [.ref (ad 7 o), .ref (ad 2 a1)] σ0 := by
  refine g_met (by decide) (Nat.le_of_ble_eq_true rfl) (fun p e s m below meth c C hr hlocks hnm G ls hl => ?_)
  have hl : lv_has ls 2 [(0, .ref (ad 7 o)), (1, .ref (ad 2 a1))] := hl
  unfold f_X7_keepLaw at hf
  refine lv_aload_n C.x C.b dX7_keepLaw_0 rfl (lv_at hl 0 rfl) ?_
  refine lv_iconst (v := (1 : Int32)) C.x C.b dX7_keepLaw_1 (by decide) ?_
  refine lv_iconst (v := (0 : Int32)) C.x C.b dX7_keepLaw_2 (by decide) ?_
  obtain ⟨σ1, eσ1, hf⟩ := g_b hf
  refine g_callv G (g_runV (As := [.int (1 : Int32), .int (0 : Int32)]) (rest := []) C G 7 o (c_X7_become l D cy A ad L σ o hT (1 : Int32) (0 : Int32) σ1 eσ1) ⟨tw774, tw59, tw771, ⟨tw773, tw15⟩, hd_X7_become⟩ (by decide) hT rfl ⟨rfl, by decide⟩ hl.1 rfl (Nat.le_of_ble_eq_true rfl) dX7_keepLaw_3 ⟨Nat.le_of_ble_eq_true rfl, Nat.le_of_ble_eq_true rfl⟩) (fun H locs G => ?_)
  refine lv_aload_n C.x C.b dX7_keepLaw_6 rfl (lv_at hl 0 rfl) ?_
  refine lv_aload_n C.x C.b dX7_keepLaw_7 rfl (lv_at hl 1 rfl) ?_
  obtain ⟨hlt, hf⟩ := g_ok hf
  refine g_putq C G o hT (v := (Int32.ofNat a1)) (g_lawv hlt) (fun _ => by rw [g_lawn hlt]; exact ha1) tw266 dX7_keepLaw_8 (fun H locs G => ?_)
  obtain ⟨σ2, eσ2, hf⟩ := g_lt hf
  rw [← eσ2] at G
  exact g_evi C G hr hlocks hf dX7_keepLaw_11
def f_X7_keepHolders_P36 (σ : gS) : Option gS := (some σ)
def f_X7_keepHolders_L10 (ad : gA) (o : Nat) (a1 : Nat) (K10 : gS → Option gS) : Nat → gS → Int32 → Option gS
  | 0, _, _ => none
  | n + 1, σ, v2 => (if (200 : Int32) ≤ v2 then (K10 σ) else ((f_X3_holder ad σ a1 v2 (0 : Int32)).bind fun q3 => (if g_ix v2 200 then (g_let (g_up σ 28 o v2.toNatClampNeg (vp_nar .byte ((q3).toInt8.toInt32))) fun σ5 => (f_X7_keepHolders_L10 ad o a1 K10 n σ5 (v2 + (1 : Int32)))) else none)))
def f_X7_keepHolders (ad : gA) (σ : gS) (o : Nat) (a1 : Nat) : Option gS := ((f_X7_become ad σ o (3 : Int32) (200 : Int32)).bind fun σ1 => (f_X7_keepHolders_L10 ad o a1 (f_X7_keepHolders_P36) g_fuel σ1 (0 : Int32)))
theorem hd_X7_keepHolders : yX7_keepHolders.cls ≠ "java/lang/invoke/MethodHandle" ∧ yX7_keepHolders.cls ≠ "java/lang/invoke/VarHandle" ∧ (parseMethodDescriptor yX7_keepHolders.desc).map (fun d => d.parameters.length) = some 1 := by decide +kernel
set_option maxHeartbeats 4000000 in
set_option maxRecDepth 100000 in
theorem c_X7_keepHolders (l : Launch) (D : va_G) (cy : Nat → ClassId) (A : Nat → Prop) (ad : gA) (L : gL)  (σ : gS) (o : Nat) (hT : (7, o) ∈ L) (a1 : Nat) (ha1 : (3, a1) ∈ L) (σ0 : gS) (hf : f_X7_keepHolders ad σ o a1 = some σ0) : g_Mv l yX7_keepHolders cX7_keepHolders 3 none ({ frames := 2, cells := 0, slots := 0, locals := 45 } : Room) D cy A ad L σ [.ref (ad 7 o), .ref (ad 3 a1)] σ0 := by
  refine g_met (by decide) (Nat.le_of_ble_eq_true rfl) (fun p e s m below meth c C hr hlocks hnm G ls hl => ?_)
  have hl : lv_has ls 3 [(0, .ref (ad 7 o)), (1, .ref (ad 3 a1))] := hl
  have pt36 : ∀ (σ : gS) (H : Heap) (locs : List Loc) (ls : Array Slot), g_H D cy A ad L σ s.heap H locs → lv_has ls 3 [] → f_X7_keepHolders_P36 σ = some σ0 → g_Wv p l e ({ frames := 2, cells := 0, slots := 0, locals := 45 } : Room) s m below meth c H locs 0 0 D cy A ad L [.ref (ad 7 o), .ref (ad 3 a1)] σ0 (F0 m 36 ls []) := by
    intro σ H locs ls G hl hf
    unfold f_X7_keepHolders_P36 at hf
    exact g_evi C G hr hlocks hf dX7_keepHolders_36
  have lp10 : ∀ n10 : Nat, ∀ (σ : gS) (v2 : Int32) (H : Heap) (locs : List Loc) (ls : Array Slot), g_H D cy A ad L σ s.heap H locs → lv_has ls 3 [(0, .ref (ad 7 o)), (1, .ref (ad 3 a1)), (2, .int v2)] → f_X7_keepHolders_L10 ad o a1 (f_X7_keepHolders_P36) n10 σ v2 = some σ0 → g_Wv p l e ({ frames := 2, cells := 0, slots := 0, locals := 45 } : Room) s m below meth c H locs 0 0 D cy A ad L [.ref (ad 7 o), .ref (ad 3 a1)] σ0 (F0 m 10 ls []) := by
    intro n10
    induction n10 with
    | zero =>
      intro σ v2 H locs ls G hl hf
      rw [f_X7_keepHolders_L10] at hf
      cases hf
    | succ n10 ih10 =>
      intro σ v2 H locs ls G hl hf
      rw [f_X7_keepHolders_L10] at hf
      refine lv_iload_n C.x C.b dX7_keepHolders_10 rfl (lv_at hl 2 rfl) ?_
      refine lv_sipush (v := (200 : Int32)) C.x C.b dX7_keepHolders_11 (by decide) ?_
      refine lv_icmp_ge (tgt := 36) C.x C.b dX7_keepHolders_14 (by decide) (fun cb => ?_) (fun cb => ?_)
      · have hf := g_t cb hf
        exact pt36 σ _ _ ls G (lv_sub hl [] rfl) hf
      · have hf := g_f cb hf
        refine lv_aload_n C.x C.b dX7_keepHolders_17 rfl (lv_at hl 0 rfl) ?_
        refine g_getr C G 7 o 3 28 hT rfl ginX7 (by decide) tw270 dX7_keepHolders_18 (fun hL2 => ?_)
        refine lv_iload_n C.x C.b dX7_keepHolders_21 rfl (lv_at hl 2 rfl) ?_
        refine lv_aload_n C.x C.b dX7_keepHolders_22 rfl (lv_at hl 1 rfl) ?_
        refine lv_iload_n C.x C.b dX7_keepHolders_23 rfl (lv_at hl 2 rfl) ?_
        refine lv_iconst (v := (0 : Int32)) C.x C.b dX7_keepHolders_24 (by decide) ?_
        obtain ⟨q3, eq3, hf⟩ := g_b hf
        refine g_calli G (g_runV (As := [.int v2, .int (0 : Int32)]) (rest := [.int v2, .ref (ad 28 o)]) C G 3 a1 (c_X3_holder l D cy A ad L σ a1 ha1 v2 (0 : Int32) q3 eq3) ⟨tw519, tw61, tw783, ⟨tw517, tw518⟩, hd_X3_holder⟩ (by decide) ha1 rfl ⟨rfl, by decide⟩ hl.1 rfl (Nat.le_of_ble_eq_true rfl) dX7_keepHolders_25 ⟨Nat.le_of_ble_eq_true rfl, Nat.le_of_ble_eq_true rfl⟩) (fun H locs G => ?_)
        refine lv_i2b C.x C.b dX7_keepHolders_28 rfl ?_
        obtain ⟨hi4, hf⟩ := g_ok hf
        refine g_bast (n := 200) C G 28 o hL2 (by decide) rfl hi4 dX7_keepHolders_29 (fun H locs G => ?_)
        obtain ⟨σ5, eσ5, hf⟩ := g_lt hf
        rw [← eσ5] at G
        refine lv_iinc (v := (v2 + (1 : Int32))) (lv' := [(2, .int (v2 + (1 : Int32))), (0, .ref (ad 7 o)), (1, .ref (ad 3 a1))]) C.x C.b dX7_keepHolders_30 hl (k := 2) rfl rfl (by decide) rfl (fun ls hl => ?_)
        refine lv_goto (tgt := 10) C.x C.b dX7_keepHolders_33 (by decide) ?_
        exact ih10 σ5 (v2 + (1 : Int32)) _ _ ls G (lv_sub hl [1, 2, 0] rfl) hf
  unfold f_X7_keepHolders at hf
  refine lv_aload_n C.x C.b dX7_keepHolders_0 rfl (lv_at hl 0 rfl) ?_
  refine lv_iconst (v := (3 : Int32)) C.x C.b dX7_keepHolders_1 (by decide) ?_
  refine lv_sipush (v := (200 : Int32)) C.x C.b dX7_keepHolders_2 (by decide) ?_
  obtain ⟨σ1, eσ1, hf⟩ := g_b hf
  refine g_callv G (g_runV (As := [.int (3 : Int32), .int (200 : Int32)]) (rest := []) C G 7 o (c_X7_become l D cy A ad L σ o hT (3 : Int32) (200 : Int32) σ1 eσ1) ⟨tw774, tw59, tw771, ⟨tw773, tw15⟩, hd_X7_become⟩ (by decide) hT rfl ⟨rfl, by decide⟩ hl.1 rfl (Nat.le_of_ble_eq_true rfl) dX7_keepHolders_5 ⟨Nat.le_of_ble_eq_true rfl, Nat.le_of_ble_eq_true rfl⟩) (fun H locs G => ?_)
  refine lv_iconst (v := (0 : Int32)) C.x C.b dX7_keepHolders_8 (by decide) ?_
  refine lv_istore_n (lv' := [(2, .int (0 : Int32)), (0, .ref (ad 7 o)), (1, .ref (ad 3 a1))]) C.x C.b dX7_keepHolders_9 rfl hl (by decide) rfl (fun ls hl => ?_)
  exact lp10 g_fuel σ1 (0 : Int32) _ _ ls G (lv_sub hl [1, 2, 0] rfl) hf
def f_X7_keepLife (ad : gA) (σ : gS) (o : Nat) (a1 : Nat) : Option gS := ((f_X7_become ad σ o (4 : Int32) (5 : Int32)).bind fun σ1 => (g_let (g_up σ1 29 o ((0 : Int32).toNatClampNeg) (σ1 5 a1 3)) fun σ3 => (g_let (g_up σ3 29 o ((1 : Int32).toNatClampNeg) (σ3 5 a1 4)) fun σ5 => (g_let (g_up σ5 29 o ((2 : Int32).toNatClampNeg) (σ5 5 a1 5)) fun σ7 => (g_let (g_up σ7 29 o ((3 : Int32).toNatClampNeg) (σ7 5 a1 6)) fun σ9 => (g_let (g_up σ9 29 o ((4 : Int32).toNatClampNeg) (σ9 5 a1 7)) fun σ11 => (some σ11)))))))
theorem hd_X7_keepLife : yX7_keepLife.cls ≠ "java/lang/invoke/MethodHandle" ∧ yX7_keepLife.cls ≠ "java/lang/invoke/VarHandle" ∧ (parseMethodDescriptor yX7_keepLife.desc).map (fun d => d.parameters.length) = some 1 := by decide +kernel
set_option maxHeartbeats 4000000 in
set_option maxRecDepth 100000 in
theorem c_X7_keepLife (l : Launch) (D : va_G) (cy : Nat → ClassId) (A : Nat → Prop) (ad : gA) (L : gL)  (σ : gS) (o : Nat) (hT : (7, o) ∈ L) (a1 : Nat) (ha1 : (5, a1) ∈ L) (σ0 : gS) (hf : f_X7_keepLife ad σ o a1 = some σ0) : g_Mv l yX7_keepLife cX7_keepLife 2 none ({ frames := 1, cells := 0, slots := 0, locals := 22 } : Room) D cy A ad L σ [.ref (ad 7 o), .ref (ad 5 a1)] σ0 := by
  refine g_met (by decide) (Nat.le_of_ble_eq_true rfl) (fun p e s m below meth c C hr hlocks hnm G ls hl => ?_)
  have hl : lv_has ls 2 [(0, .ref (ad 7 o)), (1, .ref (ad 5 a1))] := hl
  unfold f_X7_keepLife at hf
  refine lv_aload_n C.x C.b dX7_keepLife_0 rfl (lv_at hl 0 rfl) ?_
  refine lv_iconst (v := (4 : Int32)) C.x C.b dX7_keepLife_1 (by decide) ?_
  refine lv_iconst (v := (5 : Int32)) C.x C.b dX7_keepLife_2 (by decide) ?_
  obtain ⟨σ1, eσ1, hf⟩ := g_b hf
  refine g_callv G (g_runV (As := [.int (4 : Int32), .int (5 : Int32)]) (rest := []) C G 7 o (c_X7_become l D cy A ad L σ o hT (4 : Int32) (5 : Int32) σ1 eσ1) ⟨tw774, tw59, tw771, ⟨tw773, tw15⟩, hd_X7_become⟩ (by decide) hT rfl ⟨rfl, by decide⟩ hl.1 rfl (Nat.le_of_ble_eq_true rfl) dX7_keepLife_3 ⟨Nat.le_of_ble_eq_true rfl, Nat.le_of_ble_eq_true rfl⟩) (fun H locs G => ?_)
  refine lv_aload_n C.x C.b dX7_keepLife_6 rfl (lv_at hl 0 rfl) ?_
  refine g_getr C G 7 o 4 29 hT rfl ginX7 (by decide) tw271 dX7_keepLife_7 (fun hL2 => ?_)
  refine lv_iconst (v := (0 : Int32)) C.x C.b dX7_keepLife_10 (by decide) ?_
  refine lv_aload_n C.x C.b dX7_keepLife_11 rfl (lv_at hl 1 rfl) ?_
  refine g_geti C G 5 a1 3 ha1 rfl ginX5 (by decide) tw362 dX7_keepLife_12 ?_
  refine g_iast (n := 60) C G 29 o hL2 (by decide) rfl (by decide) dX7_keepLife_15 (fun H locs G => ?_)
  obtain ⟨σ3, eσ3, hf⟩ := g_lt hf
  rw [← eσ3] at G
  refine lv_aload_n C.x C.b dX7_keepLife_16 rfl (lv_at hl 0 rfl) ?_
  refine g_getr C G 7 o 4 29 hT rfl ginX7 (by decide) tw271 dX7_keepLife_17 (fun hL4 => ?_)
  refine lv_iconst (v := (1 : Int32)) C.x C.b dX7_keepLife_20 (by decide) ?_
  refine lv_aload_n C.x C.b dX7_keepLife_21 rfl (lv_at hl 1 rfl) ?_
  refine g_geti C G 5 a1 4 ha1 rfl ginX5 (by decide) tw367 dX7_keepLife_22 ?_
  refine g_iast (n := 60) C G 29 o hL4 (by decide) rfl (by decide) dX7_keepLife_25 (fun H locs G => ?_)
  obtain ⟨σ5, eσ5, hf⟩ := g_lt hf
  rw [← eσ5] at G
  refine lv_aload_n C.x C.b dX7_keepLife_26 rfl (lv_at hl 0 rfl) ?_
  refine g_getr C G 7 o 4 29 hT rfl ginX7 (by decide) tw271 dX7_keepLife_27 (fun hL6 => ?_)
  refine lv_iconst (v := (2 : Int32)) C.x C.b dX7_keepLife_30 (by decide) ?_
  refine lv_aload_n C.x C.b dX7_keepLife_31 rfl (lv_at hl 1 rfl) ?_
  refine g_geti C G 5 a1 5 ha1 rfl ginX5 (by decide) tw370 dX7_keepLife_32 ?_
  refine g_iast (n := 60) C G 29 o hL6 (by decide) rfl (by decide) dX7_keepLife_35 (fun H locs G => ?_)
  obtain ⟨σ7, eσ7, hf⟩ := g_lt hf
  rw [← eσ7] at G
  refine lv_aload_n C.x C.b dX7_keepLife_36 rfl (lv_at hl 0 rfl) ?_
  refine g_getr C G 7 o 4 29 hT rfl ginX7 (by decide) tw271 dX7_keepLife_37 (fun hL8 => ?_)
  refine lv_iconst (v := (3 : Int32)) C.x C.b dX7_keepLife_40 (by decide) ?_
  refine lv_aload_n C.x C.b dX7_keepLife_41 rfl (lv_at hl 1 rfl) ?_
  refine g_geti C G 5 a1 6 ha1 rfl ginX5 (by decide) tw373 dX7_keepLife_42 ?_
  refine g_iast (n := 60) C G 29 o hL8 (by decide) rfl (by decide) dX7_keepLife_45 (fun H locs G => ?_)
  obtain ⟨σ9, eσ9, hf⟩ := g_lt hf
  rw [← eσ9] at G
  refine lv_aload_n C.x C.b dX7_keepLife_46 rfl (lv_at hl 0 rfl) ?_
  refine g_getr C G 7 o 4 29 hT rfl ginX7 (by decide) tw271 dX7_keepLife_47 (fun hL10 => ?_)
  refine lv_iconst (v := (4 : Int32)) C.x C.b dX7_keepLife_50 (by decide) ?_
  refine lv_aload_n C.x C.b dX7_keepLife_51 rfl (lv_at hl 1 rfl) ?_
  refine g_geti C G 5 a1 7 ha1 rfl ginX5 (by decide) tw376 dX7_keepLife_52 ?_
  refine g_iast (n := 60) C G 29 o hL10 (by decide) rfl (by decide) dX7_keepLife_55 (fun H locs G => ?_)
  obtain ⟨σ11, eσ11, hf⟩ := g_lt hf
  rw [← eσ11] at G
  exact g_evi C G hr hlocks hf dX7_keepLife_56
def f_X7_keepZeros (ad : gA) (σ : gS) (o : Nat) (a1 : Int32) (a2 : Int32) : Option gS := ((f_X7_become ad σ o a1 a2).bind fun σ1 => ((f_J7_fill_031fb ad σ1 28 o 200 (0 : Int32)).bind fun σ3 => ((f_J7_fill_53178 ad σ3 29 o 60 (0 : Int32)).bind fun σ5 => (some σ5))))
theorem hd_X7_keepZeros : yX7_keepZeros.cls ≠ "java/lang/invoke/MethodHandle" ∧ yX7_keepZeros.cls ≠ "java/lang/invoke/VarHandle" ∧ (parseMethodDescriptor yX7_keepZeros.desc).map (fun d => d.parameters.length) = some 2 := by decide +kernel
set_option maxHeartbeats 4000000 in
set_option maxRecDepth 100000 in
theorem c_X7_keepZeros (l : Launch) (D : va_G) (cy : Nat → ClassId) (A : Nat → Prop) (ad : gA) (L : gL)  (σ : gS) (o : Nat) (hT : (7, o) ∈ L) (a1 : Int32) (a2 : Int32) (σ0 : gS) (hf : f_X7_keepZeros ad σ o a1 a2 = some σ0) : g_Mv l yX7_keepZeros cX7_keepZeros 3 none ({ frames := 1, cells := 0, slots := 0, locals := 23 } : Room) D cy A ad L σ [.ref (ad 7 o), .int a1, .int a2] σ0 := by
  refine g_met (by decide) (Nat.le_of_ble_eq_true rfl) (fun p e s m below meth c C hr hlocks hnm G ls hl => ?_)
  have hl : lv_has ls 3 [(0, .ref (ad 7 o)), (1, .int a1), (2, .int a2)] := hl
  unfold f_X7_keepZeros at hf
  refine lv_aload_n C.x C.b dX7_keepZeros_0 rfl (lv_at hl 0 rfl) ?_
  refine lv_iload_n C.x C.b dX7_keepZeros_1 rfl (lv_at hl 1 rfl) ?_
  refine lv_iload_n C.x C.b dX7_keepZeros_2 rfl (lv_at hl 2 rfl) ?_
  obtain ⟨σ1, eσ1, hf⟩ := g_b hf
  refine g_callv G (g_runV (As := [.int a1, .int a2]) (rest := []) C G 7 o (c_X7_become l D cy A ad L σ o hT a1 a2 σ1 eσ1) ⟨tw774, tw59, tw771, ⟨tw773, tw15⟩, hd_X7_become⟩ (by decide) hT rfl ⟨rfl, by decide⟩ hl.1 rfl (Nat.le_of_ble_eq_true rfl) dX7_keepZeros_3 ⟨Nat.le_of_ble_eq_true rfl, Nat.le_of_ble_eq_true rfl⟩) (fun H locs G => ?_)
  refine lv_aload_n C.x C.b dX7_keepZeros_6 rfl (lv_at hl 0 rfl) ?_
  refine g_getr C G 7 o 3 28 hT rfl ginX7 (by decide) tw270 dX7_keepZeros_7 (fun hL2 => ?_)
  refine lv_iconst (v := (0 : Int32)) C.x C.b dX7_keepZeros_10 (by decide) ?_
  obtain ⟨σ3, eσ3, hf⟩ := g_b hf
  refine g_callv G (g_runS (As := [.ref (ad 28 o), .int (0 : Int32)]) (rest := []) C G (c_J7_fill_031fb l D cy A ad L σ1 28 o 200 hL2 (by decide) rfl (0 : Int32) σ3 eσ3) ⟨tw312, tw62, tw796, tw311, hd_J7_fill_031fb⟩ (by decide) hl.1 rfl (Nat.le_of_ble_eq_true rfl) dX7_keepZeros_11 ⟨Nat.le_of_ble_eq_true rfl, Nat.le_of_ble_eq_true rfl⟩) (fun H locs G => ?_)
  refine lv_aload_n C.x C.b dX7_keepZeros_14 rfl (lv_at hl 0 rfl) ?_
  refine g_getr C G 7 o 4 29 hT rfl ginX7 (by decide) tw271 dX7_keepZeros_15 (fun hL4 => ?_)
  refine lv_iconst (v := (0 : Int32)) C.x C.b dX7_keepZeros_18 (by decide) ?_
  obtain ⟨σ5, eσ5, hf⟩ := g_b hf
  refine g_callv G (g_runS (As := [.ref (ad 29 o), .int (0 : Int32)]) (rest := []) C G (c_J7_fill_53178 l D cy A ad L σ3 29 o 60 hL4 (by decide) rfl (0 : Int32) σ5 eσ5) ⟨tw673, tw62, tw797, tw672, hd_J7_fill_53178⟩ (by decide) hl.1 rfl (Nat.le_of_ble_eq_true rfl) dX7_keepZeros_19 ⟨Nat.le_of_ble_eq_true rfl, Nat.le_of_ble_eq_true rfl⟩) (fun H locs G => ?_)
  exact g_evi C G hr hlocks hf dX7_keepZeros_22
def f_X7_copyTo (ad : gA) (σ : gS) (o : Nat) (a1 : Nat) (a2 : Int32) (a3 : Int32) (a4 : Int32) : Option gS := (if (σ 7 o 0) = (3 : Int32) then (if ¬ a2 < 0 ∧ ¬ a3 < 0 ∧ ¬ a4 < 0 ∧ a2.toNatClampNeg + a4.toNatClampNeg ≤ 200 ∧ a3.toNatClampNeg + a4.toNatClampNeg ≤ 200 ∧ (∀ i, i < a4.toNatClampNeg → fits .byte (.int (σ 28 o (a2.toNatClampNeg + i))) = true) then (g_let (g_row σ 28 a1 (va_cpy (σ 28 o) (σ 28 a1) a2.toNatClampNeg a3.toNatClampNeg a4.toNatClampNeg)) fun σ6 => (some σ6)) else none) else (if ¬ a2 < 0 ∧ ¬ a3 < 0 ∧ ¬ a4 < 0 ∧ a2.toNatClampNeg + a4.toNatClampNeg ≤ 60 ∧ a3.toNatClampNeg + a4.toNatClampNeg ≤ 60 then (g_let (g_row σ 29 a1 (va_cpy (σ 29 o) (σ 29 a1) a2.toNatClampNeg a3.toNatClampNeg a4.toNatClampNeg)) fun σ3 => (some σ3)) else none))
theorem hd_X7_copyTo : yX7_copyTo.cls ≠ "java/lang/invoke/MethodHandle" ∧ yX7_copyTo.cls ≠ "java/lang/invoke/VarHandle" ∧ (parseMethodDescriptor yX7_copyTo.desc).map (fun d => d.parameters.length) = some 4 := by decide +kernel
set_option maxHeartbeats 4000000 in
set_option maxRecDepth 100000 in
theorem c_X7_copyTo (l : Launch) (D : va_G) (cy : Nat → ClassId) (A : Nat → Prop) (ad : gA) (L : gL)  (σ : gS) (o : Nat) (hT : (7, o) ∈ L) (a1 : Nat) (ha1 : (7, a1) ∈ L) (a2 : Int32) (a3 : Int32) (a4 : Int32) (σ0 : gS) (hf : f_X7_copyTo ad σ o a1 a2 a3 a4 = some σ0) : g_Mv l yX7_copyTo cX7_copyTo 5 none ({ frames := 1, cells := 0, slots := 0, locals := 60 } : Room) D cy A ad L σ [.ref (ad 7 o), .ref (ad 7 a1), .int a2, .int a3, .int a4] σ0 := by
  refine g_met (by decide) (Nat.le_of_ble_eq_true rfl) (fun p e s m below meth c C hr hlocks hnm G ls hl => ?_)
  have hl : lv_has ls 5 [(0, .ref (ad 7 o)), (1, .ref (ad 7 a1)), (2, .int a2), (3, .int a3), (4, .int a4)] := hl
  unfold f_X7_copyTo at hf
  refine lv_aload_n C.x C.b dX7_copyTo_0 rfl (lv_at hl 0 rfl) ?_
  refine g_geti C G 7 o 0 hT rfl ginX7 (by decide) tw264 dX7_copyTo_1 ?_
  refine lv_iconst (v := (3 : Int32)) C.x C.b dX7_copyTo_4 (by decide) ?_
  refine lv_icmp_ne (tgt := 26) C.x C.b dX7_copyTo_5 (by decide) (fun cb => ?_) (fun cb => ?_)
  · have hf := g_f cb hf
    refine lv_aload_n C.x C.b dX7_copyTo_26 rfl (lv_at hl 0 rfl) ?_
    refine g_getr C G 7 o 4 29 hT rfl ginX7 (by decide) tw271 dX7_copyTo_27 (fun hL1 => ?_)
    refine lv_iload_n C.x C.b dX7_copyTo_30 rfl (lv_at hl 2 rfl) ?_
    refine lv_aload_n C.x C.b dX7_copyTo_31 rfl (lv_at hl 1 rfl) ?_
    refine g_getr C G 7 a1 4 29 ha1 rfl ginX7 (by decide) tw271 dX7_copyTo_32 (fun hL2 => ?_)
    refine lv_iload_n C.x C.b dX7_copyTo_35 rfl (lv_at hl 3 rfl) ?_
    refine lv_iload C.x C.b dX7_copyTo_36 (lv_at hl 4 rfl) ?_
    obtain ⟨hcp, hf⟩ := g_ok hf
    refine g_cpyi (n0 := 60) C G 29 o a1 hL1 hL2 (by decide) rfl rfl hl.1 tw814 tw816 tw815 tw71 hcp (by decide) (by decide) dX7_copyTo_38 (fun H locs G => ?_)
    obtain ⟨σ3, eσ3, hf⟩ := g_lt hf
    rw [← eσ3] at G
    exact g_evi C G hr hlocks hf dX7_copyTo_41
  · have hf := g_t cb hf
    refine lv_aload_n C.x C.b dX7_copyTo_8 rfl (lv_at hl 0 rfl) ?_
    refine g_getr C G 7 o 3 28 hT rfl ginX7 (by decide) tw270 dX7_copyTo_9 (fun hL4 => ?_)
    refine lv_iload_n C.x C.b dX7_copyTo_12 rfl (lv_at hl 2 rfl) ?_
    refine lv_aload_n C.x C.b dX7_copyTo_13 rfl (lv_at hl 1 rfl) ?_
    refine g_getr C G 7 a1 3 28 ha1 rfl ginX7 (by decide) tw270 dX7_copyTo_14 (fun hL5 => ?_)
    refine lv_iload_n C.x C.b dX7_copyTo_17 rfl (lv_at hl 3 rfl) ?_
    refine lv_iload C.x C.b dX7_copyTo_18 (lv_at hl 4 rfl) ?_
    obtain ⟨hcp, hf⟩ := g_ok hf
    refine g_cpyb (n0 := 200) C G 28 o a1 hL4 hL5 (by decide) rfl rfl hl.1 tw814 tw816 tw815 tw71 hcp (by decide) (by decide) dX7_copyTo_20 (fun H locs G => ?_)
    obtain ⟨σ6, eσ6, hf⟩ := g_lt hf
    rw [← eσ6] at G
    refine lv_goto (tgt := 41) C.x C.b dX7_copyTo_23 (by decide) ?_
    exact g_evi C G hr hlocks hf dX7_copyTo_41
