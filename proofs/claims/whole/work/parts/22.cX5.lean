def f_X5_hasExile (ad : gA) (σ : gS) (o : Nat) : Option Int32 := (if (σ 5 o 7) < (σ 5 o 6) then (some (0 : Int32)) else (some (1 : Int32)))
theorem hd_X5_hasExile : yX5_hasExile.cls ≠ "java/lang/invoke/MethodHandle" ∧ yX5_hasExile.cls ≠ "java/lang/invoke/VarHandle" ∧ (parseMethodDescriptor yX5_hasExile.desc).map (fun d => d.parameters.length) = some 0 := by decide +kernel
set_option maxHeartbeats 4000000 in
set_option maxRecDepth 100000 in
theorem c_X5_hasExile (l : Launch) (D : va_G) (cy : Nat → ClassId) (A : Nat → Prop) (ad : gA) (L : gL)  (σ : gS) (o : Nat) (hT : (5, o) ∈ L) (r0 : Int32) (hf : f_X5_hasExile ad σ o = some r0) : g_Mi l yX5_hasExile cX5_hasExile 1 (some .boolean) ({ frames := 0, cells := 0, slots := 0, locals := 0 } : Room) D cy A ad L σ [.ref (ad 5 o)] r0 σ := by
  refine g_met (by decide) (Nat.le_of_ble_eq_true rfl) (fun p e s m below meth c C hr hlocks hnm G ls hl => ?_)
  have hl : lv_has ls 1 [(0, .ref (ad 5 o))] := hl
  unfold f_X5_hasExile at hf
  refine lv_aload_n C.x C.b dX5_hasExile_0 rfl (lv_at hl 0 rfl) ?_
  refine g_geti C G 5 o 6 hT rfl ginX5 (by decide) tw372 dX5_hasExile_1 ?_
  refine lv_aload_n C.x C.b dX5_hasExile_4 rfl (lv_at hl 0 rfl) ?_
  refine g_geti C G 5 o 7 hT rfl ginX5 (by decide) tw375 dX5_hasExile_5 ?_
  refine lv_icmp_gt (tgt := 15) C.x C.b dX5_hasExile_8 (by decide) (fun cb => ?_) (fun cb => ?_)
  · have hf := g_t cb hf
    refine lv_iconst (v := (0 : Int32)) C.x C.b dX5_hasExile_15 (by decide) ?_
    exact g_ezp C G hr hlocks hf rfl dX5_hasExile_16
  · have hf := g_f cb hf
    refine lv_iconst (v := (1 : Int32)) C.x C.b dX5_hasExile_11 (by decide) ?_
    refine lv_goto (tgt := 16) C.x C.b dX5_hasExile_12 (by decide) ?_
    exact g_ezp C G hr hlocks hf rfl dX5_hasExile_16
def f_X5_setExile (ad : gA) (σ : gS) (o : Nat) (a1 : Int32) (a2 : Int32) : Option gS := (if a2 < a1 then (g_let (g_up σ 5 o 6 (0 : Int32)) fun σ1 => (g_let (g_up σ1 5 o 7 (-1 : Int32)) fun σ2 => (some σ2))) else (g_let (g_up σ 5 o 6 a1) fun σ3 => (g_let (g_up σ3 5 o 7 a2) fun σ4 => (some σ4))))
theorem hd_X5_setExile : yX5_setExile.cls ≠ "java/lang/invoke/MethodHandle" ∧ yX5_setExile.cls ≠ "java/lang/invoke/VarHandle" ∧ (parseMethodDescriptor yX5_setExile.desc).map (fun d => d.parameters.length) = some 2 := by decide +kernel
set_option maxHeartbeats 4000000 in
set_option maxRecDepth 100000 in
theorem c_X5_setExile (l : Launch) (D : va_G) (cy : Nat → ClassId) (A : Nat → Prop) (ad : gA) (L : gL)  (σ : gS) (o : Nat) (hT : (5, o) ∈ L) (a1 : Int32) (a2 : Int32) (σ0 : gS) (hf : f_X5_setExile ad σ o a1 a2 = some σ0) : g_Mv l yX5_setExile cX5_setExile 4 none ({ frames := 0, cells := 0, slots := 0, locals := 0 } : Room) D cy A ad L σ [.ref (ad 5 o), .int a1, .int a2] σ0 := by
  refine g_met (by decide) (Nat.le_of_ble_eq_true rfl) (fun p e s m below meth c C hr hlocks hnm G ls hl => ?_)
  have hl : lv_has ls 4 [(0, .ref (ad 5 o)), (1, .int a1), (2, .int a2)] := hl
  unfold f_X5_setExile at hf
  refine lv_iload_n C.x C.b dX5_setExile_0 rfl (lv_at hl 1 rfl) ?_
  refine lv_iload_n C.x C.b dX5_setExile_1 rfl (lv_at hl 2 rfl) ?_
  refine lv_icmp_gt (tgt := 9) C.x C.b dX5_setExile_2 (by decide) (fun cb => ?_) (fun cb => ?_)
  · have hf := g_t cb hf
    refine lv_iconst (v := (0 : Int32)) C.x C.b dX5_setExile_9 (by decide) ?_
    refine lv_istore_n (lv' := [(3, .int (0 : Int32)), (0, .ref (ad 5 o)), (1, .int a1), (2, .int a2)]) C.x C.b dX5_setExile_10 rfl hl (by decide) rfl (fun ls hl => ?_)
    refine lv_aload_n C.x C.b dX5_setExile_11 rfl (lv_at hl 1 rfl) ?_
    refine lv_iload_n C.x C.b dX5_setExile_12 rfl (lv_at hl 0 rfl) ?_
    refine lv_if_eq (tgt := 20) C.x C.b dX5_setExile_13 (by decide) (fun _ => ?_) (fun cb => absurd cb (by decide))
    refine lv_iconst (v := (0 : Int32)) C.x C.b dX5_setExile_20 (by decide) ?_
    refine g_puti C G 5 o 6 hT (v := (0 : Int32)) rfl ginX5 tyX5_ok nmX5 (by decide) ⟨rfl, rfl⟩ tw372 dX5_setExile_21 (fun H locs G => ?_)
    obtain ⟨σ1, eσ1, hf⟩ := g_lt hf
    rw [← eσ1] at G
    refine lv_aload_n C.x C.b dX5_setExile_24 rfl (lv_at hl 1 rfl) ?_
    refine lv_iload_n C.x C.b dX5_setExile_25 rfl (lv_at hl 0 rfl) ?_
    refine lv_if_eq (tgt := 33) C.x C.b dX5_setExile_26 (by decide) (fun _ => ?_) (fun cb => absurd cb (by decide))
    refine lv_iconst (v := (-1 : Int32)) C.x C.b dX5_setExile_33 (by decide) ?_
    refine g_puti C G 5 o 7 hT (v := (-1 : Int32)) rfl ginX5 tyX5_ok nmX5 (by decide) ⟨rfl, rfl⟩ tw375 dX5_setExile_34 (fun H locs G => ?_)
    obtain ⟨σ2, eσ2, hf⟩ := g_lt hf
    rw [← eσ2] at G
    exact g_evi C G hr hlocks hf dX5_setExile_37
  · have hf := g_f cb hf
    refine lv_iconst (v := (1 : Int32)) C.x C.b dX5_setExile_5 (by decide) ?_
    refine lv_goto (tgt := 10) C.x C.b dX5_setExile_6 (by decide) ?_
    refine lv_istore_n (lv' := [(3, .int (1 : Int32)), (0, .ref (ad 5 o)), (1, .int a1), (2, .int a2)]) C.x C.b dX5_setExile_10 rfl hl (by decide) rfl (fun ls hl => ?_)
    refine lv_aload_n C.x C.b dX5_setExile_11 rfl (lv_at hl 1 rfl) ?_
    refine lv_iload_n C.x C.b dX5_setExile_12 rfl (lv_at hl 0 rfl) ?_
    refine lv_if_eq (tgt := 20) C.x C.b dX5_setExile_13 (by decide) (fun cb => absurd cb (by decide)) (fun _ => ?_)
    refine lv_iload_n C.x C.b dX5_setExile_16 rfl (lv_at hl 2 rfl) ?_
    refine lv_goto (tgt := 21) C.x C.b dX5_setExile_17 (by decide) ?_
    refine g_puti C G 5 o 6 hT (v := a1) rfl ginX5 tyX5_ok nmX5 (by decide) ⟨rfl, rfl⟩ tw372 dX5_setExile_21 (fun H locs G => ?_)
    obtain ⟨σ3, eσ3, hf⟩ := g_lt hf
    rw [← eσ3] at G
    refine lv_aload_n C.x C.b dX5_setExile_24 rfl (lv_at hl 1 rfl) ?_
    refine lv_iload_n C.x C.b dX5_setExile_25 rfl (lv_at hl 0 rfl) ?_
    refine lv_if_eq (tgt := 33) C.x C.b dX5_setExile_26 (by decide) (fun cb => absurd cb (by decide)) (fun _ => ?_)
    refine lv_iload_n C.x C.b dX5_setExile_29 rfl (lv_at hl 3 rfl) ?_
    refine lv_goto (tgt := 34) C.x C.b dX5_setExile_30 (by decide) ?_
    refine g_puti C G 5 o 7 hT (v := a2) rfl ginX5 tyX5_ok nmX5 (by decide) ⟨rfl, rfl⟩ tw375 dX5_setExile_34 (fun H locs G => ?_)
    obtain ⟨σ4, eσ4, hf⟩ := g_lt hf
    rw [← eσ4] at G
    exact g_evi C G hr hlocks hf dX5_setExile_37
def f_X5_yearsHeld_P56 (v3 : Int32) : Option Int32 := (some v3)
def f_X5_yearsHeld_L5 (σ : gS) (o : Nat) (a1 : Int32) (a2 : Int32) (K5 : Int32 → Option Int32) : Nat → Int32 → Int32 → Option Int32
  | 0, _, _ => none
  | n + 1, v3, v4 => (if a2 ≤ v4 then (K5 v3) else (if g_ix v4 200 then (if (σ 24 o v4.toNatClampNeg) = (-1 : Int32) then (f_X5_yearsHeld_L5 σ o a1 a2 K5 n v3 (v4 + (1 : Int32))) else (if a1 = (-1 : Int32) then (if (100 : Int32) ≤ (σ 24 o v4.toNatClampNeg) then (f_X5_yearsHeld_L5 σ o a1 a2 K5 n v3 (v4 + (1 : Int32))) else (f_X5_yearsHeld_L5 σ o a1 a2 K5 n (v3 + (1 : Int32)) (v4 + (1 : Int32)))) else (if (σ 24 o v4.toNatClampNeg) = a1 then (f_X5_yearsHeld_L5 σ o a1 a2 K5 n (v3 + (1 : Int32)) (v4 + (1 : Int32))) else (f_X5_yearsHeld_L5 σ o a1 a2 K5 n v3 (v4 + (1 : Int32)))))) else none))
def f_X5_yearsHeld (ad : gA) (σ : gS) (o : Nat) (a1 : Int32) (a2 : Int32) : Option Int32 := (f_X5_yearsHeld_L5 σ o a1 a2 (f_X5_yearsHeld_P56) g_fuel (0 : Int32) (0 : Int32))
theorem hd_X5_yearsHeld : yX5_yearsHeld.cls ≠ "java/lang/invoke/MethodHandle" ∧ yX5_yearsHeld.cls ≠ "java/lang/invoke/VarHandle" ∧ (parseMethodDescriptor yX5_yearsHeld.desc).map (fun d => d.parameters.length) = some 2 := by decide +kernel
set_option maxHeartbeats 4000000 in
set_option maxRecDepth 100000 in
theorem c_X5_yearsHeld (l : Launch) (D : va_G) (cy : Nat → ClassId) (A : Nat → Prop) (ad : gA) (L : gL)  (σ : gS) (o : Nat) (hT : (5, o) ∈ L) (a1 : Int32) (a2 : Int32) (r0 : Int32) (hf : f_X5_yearsHeld ad σ o a1 a2 = some r0) : g_Mi l yX5_yearsHeld cX5_yearsHeld 6 (some .int) ({ frames := 0, cells := 0, slots := 0, locals := 0 } : Room) D cy A ad L σ [.ref (ad 5 o), .int a1, .int a2] r0 σ := by
  refine g_met (by decide) (Nat.le_of_ble_eq_true rfl) (fun p e s m below meth c C hr hlocks hnm G ls hl => ?_)
  have hl : lv_has ls 6 [(0, .ref (ad 5 o)), (1, .int a1), (2, .int a2)] := hl
  have pt56 : ∀ (v3 : Int32) (H : Heap) (locs : List Loc) (ls : Array Slot), g_H D cy A ad L σ s.heap H locs → lv_has ls 6 [(3, .int v3)] → f_X5_yearsHeld_P56 v3 = some r0 → g_Wi p l e ({ frames := 0, cells := 0, slots := 0, locals := 0 } : Room) s m below meth c H locs 0 0 D cy A ad L [.ref (ad 5 o), .int a1, .int a2] r0 σ (F0 m 56 ls []) := by
    intro v3 H locs ls G hl hf
    unfold f_X5_yearsHeld_P56 at hf
    refine lv_iload_n C.x C.b dX5_yearsHeld_56 rfl (lv_at hl 0 rfl) ?_
    exact g_eip C G hr hlocks hf dX5_yearsHeld_57
  have lp5 : ∀ n5 : Nat, ∀ (v3 : Int32) (v4 : Int32) (H : Heap) (locs : List Loc) (ls : Array Slot), g_H D cy A ad L σ s.heap H locs → lv_has ls 6 [(0, .ref (ad 5 o)), (1, .int a1), (2, .int a2), (3, .int v3), (4, .int v4)] → f_X5_yearsHeld_L5 σ o a1 a2 (f_X5_yearsHeld_P56) n5 v3 v4 = some r0 → g_Wi p l e ({ frames := 0, cells := 0, slots := 0, locals := 0 } : Room) s m below meth c H locs 0 0 D cy A ad L [.ref (ad 5 o), .int a1, .int a2] r0 σ (F0 m 5 ls []) := by
    intro n5
    induction n5 with
    | zero =>
      intro v3 v4 H locs ls G hl hf
      rw [f_X5_yearsHeld_L5] at hf
      cases hf
    | succ n5 ih5 =>
      intro v3 v4 H locs ls G hl hf
      rw [f_X5_yearsHeld_L5] at hf
      refine lv_iload C.x C.b dX5_yearsHeld_5 (lv_at hl 4 rfl) ?_
      refine lv_iload_n C.x C.b dX5_yearsHeld_7 rfl (lv_at hl 2 rfl) ?_
      refine lv_icmp_ge (tgt := 56) C.x C.b dX5_yearsHeld_8 (by decide) (fun cb => ?_) (fun cb => ?_)
      · have hf := g_t cb hf
        exact pt56 v3 _ _ ls G (lv_sub hl [3] rfl) hf
      · have hf := g_f cb hf
        refine lv_aload_n C.x C.b dX5_yearsHeld_11 rfl (lv_at hl 0 rfl) ?_
        refine g_getr C G 5 o 2 24 hT rfl ginX5 (by decide) tw355 dX5_yearsHeld_12 (fun hL1 => ?_)
        refine lv_iload C.x C.b dX5_yearsHeld_15 (lv_at hl 4 rfl) ?_
        obtain ⟨hi2, hf⟩ := g_ok hf
        refine g_bald (n := 200) C G 24 o hL1 (by decide) rfl hi2 dX5_yearsHeld_17 ?_
        refine lv_istore (lv' := [(5, .int (σ 24 o v4.toNatClampNeg)), (0, .ref (ad 5 o)), (1, .int a1), (2, .int a2), (3, .int v3), (4, .int v4)]) C.x C.b dX5_yearsHeld_18 hl (by decide) rfl (fun ls hl => ?_)
        refine lv_iload C.x C.b dX5_yearsHeld_20 (lv_at hl 0 rfl) ?_
        refine lv_iconst (v := (-1 : Int32)) C.x C.b dX5_yearsHeld_22 (by decide) ?_
        refine lv_icmp_eq (tgt := 50) C.x C.b dX5_yearsHeld_23 (by decide) (fun cb => ?_) (fun cb => ?_)
        · have hf := g_t cb hf
          refine lv_iinc (v := (v4 + (1 : Int32))) (lv' := [(4, .int (v4 + (1 : Int32))), (5, .int (σ 24 o v4.toNatClampNeg)), (0, .ref (ad 5 o)), (1, .int a1), (2, .int a2), (3, .int v3)]) C.x C.b dX5_yearsHeld_50 hl (k := 5) rfl rfl (by decide) rfl (fun ls hl => ?_)
          refine lv_goto (tgt := 5) C.x C.b dX5_yearsHeld_53 (by decide) ?_
          exact ih5 v3 (v4 + (1 : Int32)) _ _ ls G (lv_sub hl [2, 3, 4, 5, 0] rfl) hf
        · have hf := g_f cb hf
          refine lv_iload_n C.x C.b dX5_yearsHeld_26 rfl (lv_at hl 2 rfl) ?_
          refine lv_iconst (v := (-1 : Int32)) C.x C.b dX5_yearsHeld_27 (by decide) ?_
          refine lv_icmp_ne (tgt := 41) C.x C.b dX5_yearsHeld_28 (by decide) (fun cb => ?_) (fun cb => ?_)
          · have hf := g_f cb hf
            refine lv_iload C.x C.b dX5_yearsHeld_41 (lv_at hl 0 rfl) ?_
            refine lv_iload_n C.x C.b dX5_yearsHeld_43 rfl (lv_at hl 2 rfl) ?_
            refine lv_icmp_ne (tgt := 50) C.x C.b dX5_yearsHeld_44 (by decide) (fun cb => ?_) (fun cb => ?_)
            · have hf := g_f cb hf
              refine lv_iinc (v := (v4 + (1 : Int32))) (lv' := [(4, .int (v4 + (1 : Int32))), (5, .int (σ 24 o v4.toNatClampNeg)), (0, .ref (ad 5 o)), (1, .int a1), (2, .int a2), (3, .int v3)]) C.x C.b dX5_yearsHeld_50 hl (k := 5) rfl rfl (by decide) rfl (fun ls hl => ?_)
              refine lv_goto (tgt := 5) C.x C.b dX5_yearsHeld_53 (by decide) ?_
              exact ih5 v3 (v4 + (1 : Int32)) _ _ ls G (lv_sub hl [2, 3, 4, 5, 0] rfl) hf
            · have hf := g_t cb hf
              refine lv_iinc (v := (v3 + (1 : Int32))) (lv' := [(3, .int (v3 + (1 : Int32))), (5, .int (σ 24 o v4.toNatClampNeg)), (0, .ref (ad 5 o)), (1, .int a1), (2, .int a2), (4, .int v4)]) C.x C.b dX5_yearsHeld_47 hl (k := 4) rfl rfl (by decide) rfl (fun ls hl => ?_)
              refine lv_iinc (v := (v4 + (1 : Int32))) (lv' := [(4, .int (v4 + (1 : Int32))), (3, .int (v3 + (1 : Int32))), (5, .int (σ 24 o v4.toNatClampNeg)), (0, .ref (ad 5 o)), (1, .int a1), (2, .int a2)]) C.x C.b dX5_yearsHeld_50 hl (k := 5) rfl rfl (by decide) rfl (fun ls hl => ?_)
              refine lv_goto (tgt := 5) C.x C.b dX5_yearsHeld_53 (by decide) ?_
              exact ih5 (v3 + (1 : Int32)) (v4 + (1 : Int32)) _ _ ls G (lv_sub hl [3, 4, 5, 1, 0] rfl) hf
          · have hf := g_t cb hf
            refine lv_iload C.x C.b dX5_yearsHeld_31 (lv_at hl 0 rfl) ?_
            refine lv_bipush (v := (100 : Int32)) C.x C.b dX5_yearsHeld_33 (by decide) ?_
            refine lv_icmp_ge (tgt := 50) C.x C.b dX5_yearsHeld_35 (by decide) (fun cb => ?_) (fun cb => ?_)
            · have hf := g_t cb hf
              refine lv_iinc (v := (v4 + (1 : Int32))) (lv' := [(4, .int (v4 + (1 : Int32))), (5, .int (σ 24 o v4.toNatClampNeg)), (0, .ref (ad 5 o)), (1, .int a1), (2, .int a2), (3, .int v3)]) C.x C.b dX5_yearsHeld_50 hl (k := 5) rfl rfl (by decide) rfl (fun ls hl => ?_)
              refine lv_goto (tgt := 5) C.x C.b dX5_yearsHeld_53 (by decide) ?_
              exact ih5 v3 (v4 + (1 : Int32)) _ _ ls G (lv_sub hl [2, 3, 4, 5, 0] rfl) hf
            · have hf := g_f cb hf
              refine lv_goto (tgt := 47) C.x C.b dX5_yearsHeld_38 (by decide) ?_
              refine lv_iinc (v := (v3 + (1 : Int32))) (lv' := [(3, .int (v3 + (1 : Int32))), (5, .int (σ 24 o v4.toNatClampNeg)), (0, .ref (ad 5 o)), (1, .int a1), (2, .int a2), (4, .int v4)]) C.x C.b dX5_yearsHeld_47 hl (k := 4) rfl rfl (by decide) rfl (fun ls hl => ?_)
              refine lv_iinc (v := (v4 + (1 : Int32))) (lv' := [(4, .int (v4 + (1 : Int32))), (3, .int (v3 + (1 : Int32))), (5, .int (σ 24 o v4.toNatClampNeg)), (0, .ref (ad 5 o)), (1, .int a1), (2, .int a2)]) C.x C.b dX5_yearsHeld_50 hl (k := 5) rfl rfl (by decide) rfl (fun ls hl => ?_)
              refine lv_goto (tgt := 5) C.x C.b dX5_yearsHeld_53 (by decide) ?_
              exact ih5 (v3 + (1 : Int32)) (v4 + (1 : Int32)) _ _ ls G (lv_sub hl [3, 4, 5, 1, 0] rfl) hf
  unfold f_X5_yearsHeld at hf
  refine lv_iconst (v := (0 : Int32)) C.x C.b dX5_yearsHeld_0 (by decide) ?_
  refine lv_istore_n (lv' := [(3, .int (0 : Int32)), (0, .ref (ad 5 o)), (1, .int a1), (2, .int a2)]) C.x C.b dX5_yearsHeld_1 rfl hl (by decide) rfl (fun ls hl => ?_)
  refine lv_iconst (v := (0 : Int32)) C.x C.b dX5_yearsHeld_2 (by decide) ?_
  refine lv_istore (lv' := [(4, .int (0 : Int32)), (3, .int (0 : Int32)), (0, .ref (ad 5 o)), (1, .int a1), (2, .int a2)]) C.x C.b dX5_yearsHeld_3 hl (by decide) rfl (fun ls hl => ?_)
  exact lp5 g_fuel (0 : Int32) (0 : Int32) _ _ ls G (lv_sub hl [2, 3, 4, 1, 0] rfl) hf
def f_X4_look_P91 (ad : gA) (a1 : Nat) (a2 : Nat) (a4 : Int32) (σ : gS) : Option gS := ((f_X3_holders ad σ a2 a4).bind fun q10 => (if ((σ 5 a1 8) &&& q10) = 0 then (g_let (g_up σ 4 0 3 (0 : Int32)) fun σ11 => (some σ11)) else (g_let (g_up σ 4 0 3 (1 : Int32)) fun σ12 => (some σ12))))
def f_X4_look_L18 (a1 : Nat) (a3 : Int32) (a4 : Int32) (K18 : gS → Option gS) : Nat → gS → Int32 → Option gS
  | 0, _, _ => none
  | n + 1, σ, v5 => (if a4 ≤ v5 then (K18 σ) else (if g_ix v5 200 then (if (σ 24 a1 v5.toNatClampNeg) = (-1 : Int32) then (f_X4_look_L18 a1 a3 a4 K18 n σ (v5 + (1 : Int32))) else (if (100 : Int32) ≤ (σ 24 a1 v5.toNatClampNeg) then (f_X4_look_L18 a1 a3 a4 K18 n σ (v5 + (1 : Int32))) else (g_let (g_up σ 4 0 0 ((σ 4 0 0) ||| ((1 : Int32) <<< ((σ 24 a1 v5.toNatClampNeg) &&& 31)))) fun σ6 => (g_let (g_up σ6 4 0 1 v5) fun σ7 => (if (σ 24 a1 v5.toNatClampNeg) = a3 then (g_let (g_up σ7 4 0 2 v5) fun σ9 => (f_X4_look_L18 a1 a3 a4 K18 n σ9 (v5 + (1 : Int32)))) else (g_let (g_up σ7 4 0 2 (σ7 4 0 2)) fun σ8 => (f_X4_look_L18 a1 a3 a4 K18 n σ8 (v5 + (1 : Int32))))))))) else none))
def f_X4_look (ad : gA) (σ : gS) (a1 : Nat) (a2 : Nat) (a3 : Int32) (a4 : Int32) : Option gS := (g_let (g_up σ 4 0 0 (0 : Int32)) fun σ1 => (g_let (g_up σ1 4 0 1 (-1 : Int32)) fun σ2 => (g_let (g_up σ2 4 0 2 (-1 : Int32)) fun σ3 => (f_X4_look_L18 a1 a3 a4 (f_X4_look_P91 ad a1 a2 a4) g_fuel σ3 (0 : Int32)))))
theorem hd_X4_look : yX4_look.cls ≠ "java/lang/invoke/MethodHandle" ∧ yX4_look.cls ≠ "java/lang/invoke/VarHandle" ∧ (parseMethodDescriptor yX4_look.desc).map (fun d => d.parameters.length) = some 4 := by decide +kernel
set_option maxHeartbeats 4000000 in
set_option maxRecDepth 100000 in
theorem c_X4_look (l : Launch) (D : va_G) (cy : Nat → ClassId) (A : Nat → Prop) (ad : gA) (L : gL)  (σ : gS) (hT : (4, 0) ∈ L) (a1 : Nat) (ha1 : (5, a1) ∈ L) (a2 : Nat) (ha2 : (3, a2) ∈ L) (a3 : Int32) (a4 : Int32) (σ0 : gS) (hf : f_X4_look ad σ a1 a2 a3 a4 = some σ0) : g_Mv l yX4_look cX4_look 7 none ({ frames := 2, cells := 0, slots := 0, locals := 46 } : Room) D cy A ad L σ [.ref (ad 4 0), .ref (ad 5 a1), .ref (ad 3 a2), .int a3, .int a4] σ0 := by
  refine g_met (by decide) (Nat.le_of_ble_eq_true rfl) (fun p e s m below meth c C hr hlocks hnm G ls hl => ?_)
  have hl : lv_has ls 7 [(0, .ref (ad 4 0)), (1, .ref (ad 5 a1)), (2, .ref (ad 3 a2)), (3, .int a3), (4, .int a4)] := hl
  have pt91 : ∀ (σ : gS) (H : Heap) (locs : List Loc) (ls : Array Slot), g_H D cy A ad L σ s.heap H locs → lv_has ls 7 [(0, .ref (ad 4 0)), (1, .ref (ad 5 a1)), (2, .ref (ad 3 a2)), (4, .int a4)] → f_X4_look_P91 ad a1 a2 a4 σ = some σ0 → g_Wv p l e ({ frames := 2, cells := 0, slots := 0, locals := 46 } : Room) s m below meth c H locs 0 0 D cy A ad L [.ref (ad 4 0), .ref (ad 5 a1), .ref (ad 3 a2), .int a3, .int a4] σ0 (F0 m 91 ls []) := by
    intro σ H locs ls G hl hf
    unfold f_X4_look_P91 at hf
    refine lv_aload_n C.x C.b dX4_look_91 rfl (lv_at hl 0 rfl) ?_
    refine lv_aload_n C.x C.b dX4_look_92 rfl (lv_at hl 1 rfl) ?_
    refine g_geti C G 5 a1 8 ha1 rfl ginX5 (by decide) tw379 dX4_look_93 ?_
    refine lv_aload_n C.x C.b dX4_look_96 rfl (lv_at hl 2 rfl) ?_
    refine lv_iload C.x C.b dX4_look_97 (lv_at hl 3 rfl) ?_
    obtain ⟨q10, eq10, hf⟩ := g_b hf
    refine g_calli G (g_runV (As := [.int a4]) (rest := [.int (σ 5 a1 8), .ref (ad 4 0)]) C G 3 a2 (c_X3_holders l D cy A ad L σ a2 ha2 a4 q10 eq10) ⟨tw573, tw61, tw570, ⟨tw571, tw572⟩, hd_X3_holders⟩ (by decide) ha2 rfl ⟨rfl, by decide⟩ hl.1 rfl (Nat.le_of_ble_eq_true rfl) dX4_look_99 ⟨Nat.le_of_ble_eq_true rfl, Nat.le_of_ble_eq_true rfl⟩) (fun H locs G => ?_)
    refine lv_iand C.x C.b dX4_look_102 ?_
    refine lv_if_eq (tgt := 110) C.x C.b dX4_look_103 (by decide) (fun cb => ?_) (fun cb => ?_)
    · have hf := g_t cb hf
      refine lv_iconst (v := (0 : Int32)) C.x C.b dX4_look_110 (by decide) ?_
      refine g_puti C G 4 0 3 hT (v := (0 : Int32)) rfl ginX4 tyX4_ok nmX4 (by decide) ⟨rfl, rfl⟩ tw104 dX4_look_111 (fun H locs G => ?_)
      obtain ⟨σ11, eσ11, hf⟩ := g_lt hf
      rw [← eσ11] at G
      exact g_evi C G hr hlocks hf dX4_look_114
    · have hf := g_f cb hf
      refine lv_iconst (v := (1 : Int32)) C.x C.b dX4_look_106 (by decide) ?_
      refine lv_goto (tgt := 111) C.x C.b dX4_look_107 (by decide) ?_
      refine g_puti C G 4 0 3 hT (v := (1 : Int32)) rfl ginX4 tyX4_ok nmX4 (by decide) ⟨rfl, rfl⟩ tw104 dX4_look_111 (fun H locs G => ?_)
      obtain ⟨σ12, eσ12, hf⟩ := g_lt hf
      rw [← eσ12] at G
      exact g_evi C G hr hlocks hf dX4_look_114
  have lp18 : ∀ n18 : Nat, ∀ (σ : gS) (v5 : Int32) (H : Heap) (locs : List Loc) (ls : Array Slot), g_H D cy A ad L σ s.heap H locs → lv_has ls 7 [(0, .ref (ad 4 0)), (1, .ref (ad 5 a1)), (2, .ref (ad 3 a2)), (3, .int a3), (4, .int a4), (5, .int v5)] → f_X4_look_L18 a1 a3 a4 (f_X4_look_P91 ad a1 a2 a4) n18 σ v5 = some σ0 → g_Wv p l e ({ frames := 2, cells := 0, slots := 0, locals := 46 } : Room) s m below meth c H locs 0 0 D cy A ad L [.ref (ad 4 0), .ref (ad 5 a1), .ref (ad 3 a2), .int a3, .int a4] σ0 (F0 m 18 ls []) := by
    intro n18
    induction n18 with
    | zero =>
      intro σ v5 H locs ls G hl hf
      rw [f_X4_look_L18] at hf
      cases hf
    | succ n18 ih18 =>
      intro σ v5 H locs ls G hl hf
      rw [f_X4_look_L18] at hf
      refine lv_iload C.x C.b dX4_look_18 (lv_at hl 5 rfl) ?_
      refine lv_iload C.x C.b dX4_look_20 (lv_at hl 4 rfl) ?_
      refine lv_icmp_ge (tgt := 91) C.x C.b dX4_look_22 (by decide) (fun cb => ?_) (fun cb => ?_)
      · have hf := g_t cb hf
        exact pt91 σ _ _ ls G (lv_sub hl [0, 1, 2, 4] rfl) hf
      · have hf := g_f cb hf
        refine lv_aload_n C.x C.b dX4_look_25 rfl (lv_at hl 1 rfl) ?_
        refine g_getr C G 5 a1 2 24 ha1 rfl ginX5 (by decide) tw356 dX4_look_26 (fun hL4 => ?_)
        refine lv_iload C.x C.b dX4_look_29 (lv_at hl 5 rfl) ?_
        obtain ⟨hi5, hf⟩ := g_ok hf
        refine g_bald (n := 200) C G 24 a1 hL4 (by decide) rfl hi5 dX4_look_31 ?_
        refine lv_istore (lv' := [(6, .int (σ 24 a1 v5.toNatClampNeg)), (0, .ref (ad 4 0)), (1, .ref (ad 5 a1)), (2, .ref (ad 3 a2)), (3, .int a3), (4, .int a4), (5, .int v5)]) C.x C.b dX4_look_32 hl (by decide) rfl (fun ls hl => ?_)
        refine lv_iload C.x C.b dX4_look_34 (lv_at hl 0 rfl) ?_
        refine lv_iconst (v := (-1 : Int32)) C.x C.b dX4_look_36 (by decide) ?_
        refine lv_icmp_eq (tgt := 85) C.x C.b dX4_look_37 (by decide) (fun cb => ?_) (fun cb => ?_)
        · have hf := g_t cb hf
          refine lv_iinc (v := (v5 + (1 : Int32))) (lv' := [(5, .int (v5 + (1 : Int32))), (6, .int (σ 24 a1 v5.toNatClampNeg)), (0, .ref (ad 4 0)), (1, .ref (ad 5 a1)), (2, .ref (ad 3 a2)), (3, .int a3), (4, .int a4)]) C.x C.b dX4_look_85 hl (k := 6) rfl rfl (by decide) rfl (fun ls hl => ?_)
          refine lv_goto (tgt := 18) C.x C.b dX4_look_88 (by decide) ?_
          exact ih18 σ (v5 + (1 : Int32)) _ _ ls G (lv_sub hl [2, 3, 4, 5, 6, 0] rfl) hf
        · have hf := g_f cb hf
          refine lv_iload C.x C.b dX4_look_40 (lv_at hl 0 rfl) ?_
          refine lv_bipush (v := (100 : Int32)) C.x C.b dX4_look_42 (by decide) ?_
          refine lv_icmp_ge (tgt := 85) C.x C.b dX4_look_44 (by decide) (fun cb => ?_) (fun cb => ?_)
          · have hf := g_t cb hf
            refine lv_iinc (v := (v5 + (1 : Int32))) (lv' := [(5, .int (v5 + (1 : Int32))), (6, .int (σ 24 a1 v5.toNatClampNeg)), (0, .ref (ad 4 0)), (1, .ref (ad 5 a1)), (2, .ref (ad 3 a2)), (3, .int a3), (4, .int a4)]) C.x C.b dX4_look_85 hl (k := 6) rfl rfl (by decide) rfl (fun ls hl => ?_)
            refine lv_goto (tgt := 18) C.x C.b dX4_look_88 (by decide) ?_
            exact ih18 σ (v5 + (1 : Int32)) _ _ ls G (lv_sub hl [2, 3, 4, 5, 6, 0] rfl) hf
          · have hf := g_f cb hf
            refine lv_aload_n C.x C.b dX4_look_47 rfl (lv_at hl 1 rfl) ?_
            refine lv_dup C.x C.b dX4_look_48 rfl ?_
            refine g_geti C G 4 0 0 hT rfl ginX4 (by decide) tw98 dX4_look_49 ?_
            refine lv_iconst (v := (1 : Int32)) C.x C.b dX4_look_52 (by decide) ?_
            refine lv_iload C.x C.b dX4_look_53 (lv_at hl 0 rfl) ?_
            refine lv_ishl C.x C.b dX4_look_55 ?_
            refine lv_ior C.x C.b dX4_look_56 ?_
            refine g_puti C G 4 0 0 hT (v := ((σ 4 0 0) ||| ((1 : Int32) <<< ((σ 24 a1 v5.toNatClampNeg) &&& 31)))) rfl ginX4 tyX4_ok nmX4 (by decide) ⟨rfl, rfl⟩ tw98 dX4_look_57 (fun H locs G => ?_)
            obtain ⟨σ6, eσ6, hf⟩ := g_lt hf
            rw [← eσ6] at G
            refine lv_aload_n C.x C.b dX4_look_60 rfl (lv_at hl 1 rfl) ?_
            refine lv_iload C.x C.b dX4_look_61 (lv_at hl 6 rfl) ?_
            refine g_puti C G 4 0 1 hT (v := v5) rfl ginX4 tyX4_ok nmX4 (by decide) ⟨rfl, rfl⟩ tw100 dX4_look_63 (fun H locs G => ?_)
            obtain ⟨σ7, eσ7, hf⟩ := g_lt hf
            rw [← eσ7] at G
            refine lv_aload_n C.x C.b dX4_look_66 rfl (lv_at hl 1 rfl) ?_
            refine lv_iload C.x C.b dX4_look_67 (lv_at hl 0 rfl) ?_
            refine lv_iload_n C.x C.b dX4_look_69 rfl (lv_at hl 4 rfl) ?_
            refine lv_icmp_ne (tgt := 78) C.x C.b dX4_look_70 (by decide) (fun cb => ?_) (fun cb => ?_)
            · have hf := g_f cb hf
              refine lv_aload_n C.x C.b dX4_look_78 rfl (lv_at hl 1 rfl) ?_
              refine g_geti C G 4 0 2 hT rfl ginX4 (by decide) tw102 dX4_look_79 ?_
              refine g_puti C G 4 0 2 hT (v := (σ7 4 0 2)) rfl ginX4 tyX4_ok nmX4 (by decide) ⟨rfl, rfl⟩ tw102 dX4_look_82 (fun H locs G => ?_)
              obtain ⟨σ8, eσ8, hf⟩ := g_lt hf
              rw [← eσ8] at G
              refine lv_iinc (v := (v5 + (1 : Int32))) (lv' := [(5, .int (v5 + (1 : Int32))), (6, .int (σ 24 a1 v5.toNatClampNeg)), (0, .ref (ad 4 0)), (1, .ref (ad 5 a1)), (2, .ref (ad 3 a2)), (3, .int a3), (4, .int a4)]) C.x C.b dX4_look_85 hl (k := 6) rfl rfl (by decide) rfl (fun ls hl => ?_)
              refine lv_goto (tgt := 18) C.x C.b dX4_look_88 (by decide) ?_
              exact ih18 σ8 (v5 + (1 : Int32)) _ _ ls G (lv_sub hl [2, 3, 4, 5, 6, 0] rfl) hf
            · have hf := g_t cb hf
              refine lv_iload C.x C.b dX4_look_73 (lv_at hl 6 rfl) ?_
              refine lv_goto (tgt := 82) C.x C.b dX4_look_75 (by decide) ?_
              refine g_puti C G 4 0 2 hT (v := v5) rfl ginX4 tyX4_ok nmX4 (by decide) ⟨rfl, rfl⟩ tw102 dX4_look_82 (fun H locs G => ?_)
              obtain ⟨σ9, eσ9, hf⟩ := g_lt hf
              rw [← eσ9] at G
              refine lv_iinc (v := (v5 + (1 : Int32))) (lv' := [(5, .int (v5 + (1 : Int32))), (6, .int (σ 24 a1 v5.toNatClampNeg)), (0, .ref (ad 4 0)), (1, .ref (ad 5 a1)), (2, .ref (ad 3 a2)), (3, .int a3), (4, .int a4)]) C.x C.b dX4_look_85 hl (k := 6) rfl rfl (by decide) rfl (fun ls hl => ?_)
              refine lv_goto (tgt := 18) C.x C.b dX4_look_88 (by decide) ?_
              exact ih18 σ9 (v5 + (1 : Int32)) _ _ ls G (lv_sub hl [2, 3, 4, 5, 6, 0] rfl) hf
  unfold f_X4_look at hf
  refine lv_aload_n C.x C.b dX4_look_0 rfl (lv_at hl 0 rfl) ?_
  refine lv_iconst (v := (0 : Int32)) C.x C.b dX4_look_1 (by decide) ?_
  refine g_puti C G 4 0 0 hT (v := (0 : Int32)) rfl ginX4 tyX4_ok nmX4 (by decide) ⟨rfl, rfl⟩ tw98 dX4_look_2 (fun H locs G => ?_)
  obtain ⟨σ1, eσ1, hf⟩ := g_lt hf
  rw [← eσ1] at G
  refine lv_aload_n C.x C.b dX4_look_5 rfl (lv_at hl 0 rfl) ?_
  refine lv_iconst (v := (-1 : Int32)) C.x C.b dX4_look_6 (by decide) ?_
  refine g_puti C G 4 0 1 hT (v := (-1 : Int32)) rfl ginX4 tyX4_ok nmX4 (by decide) ⟨rfl, rfl⟩ tw100 dX4_look_7 (fun H locs G => ?_)
  obtain ⟨σ2, eσ2, hf⟩ := g_lt hf
  rw [← eσ2] at G
  refine lv_aload_n C.x C.b dX4_look_10 rfl (lv_at hl 0 rfl) ?_
  refine lv_iconst (v := (-1 : Int32)) C.x C.b dX4_look_11 (by decide) ?_
  refine g_puti C G 4 0 2 hT (v := (-1 : Int32)) rfl ginX4 tyX4_ok nmX4 (by decide) ⟨rfl, rfl⟩ tw102 dX4_look_12 (fun H locs G => ?_)
  obtain ⟨σ3, eσ3, hf⟩ := g_lt hf
  rw [← eσ3] at G
  refine lv_iconst (v := (0 : Int32)) C.x C.b dX4_look_15 (by decide) ?_
  refine lv_istore (lv' := [(5, .int (0 : Int32)), (0, .ref (ad 4 0)), (1, .ref (ad 5 a1)), (2, .ref (ad 3 a2)), (3, .int a3), (4, .int a4)]) C.x C.b dX4_look_16 hl (by decide) rfl (fun ls hl => ?_)
  exact lp18 g_fuel σ3 (0 : Int32) _ _ ls G (lv_sub hl [1, 2, 3, 4, 5, 0] rfl) hf
def f_X8_isYear (ad : gA) (σ : gS) (a0 : Int32) : Option Int32 := (if a0 < 0 then (some (0 : Int32)) else (if (200 : Int32) ≤ a0 then (some (0 : Int32)) else (some (1 : Int32))))
theorem hd_X8_isYear : yX8_isYear.cls ≠ "java/lang/invoke/MethodHandle" ∧ yX8_isYear.cls ≠ "java/lang/invoke/VarHandle" ∧ (parseMethodDescriptor yX8_isYear.desc).map (fun d => d.parameters.length) = some 1 := by decide +kernel
set_option maxHeartbeats 4000000 in
set_option maxRecDepth 100000 in
theorem c_X8_isYear (l : Launch) (D : va_G) (cy : Nat → ClassId) (A : Nat → Prop) (ad : gA) (L : gL)  (σ : gS) (a0 : Int32) (r0 : Int32) (hf : f_X8_isYear ad σ a0 = some r0) : g_Mi l yX8_isYear cX8_isYear 1 (some .boolean) ({ frames := 0, cells := 0, slots := 0, locals := 0 } : Room) D cy A ad L σ [.int a0] r0 σ := by
  refine g_met (by decide) (Nat.le_of_ble_eq_true rfl) (fun p e s m below meth c C hr hlocks hnm G ls hl => ?_)
  have hl : lv_has ls 1 [(0, .int a0)] := hl
  unfold f_X8_isYear at hf
  refine lv_iload_n C.x C.b dX8_isYear_0 rfl (lv_at hl 0 rfl) ?_
  refine lv_if_lt (tgt := 15) C.x C.b dX8_isYear_1 (by decide) (fun cb => ?_) (fun cb => ?_)
  · have hf := g_t cb hf
    refine lv_iconst (v := (0 : Int32)) C.x C.b dX8_isYear_15 (by decide) ?_
    exact g_ezp C G hr hlocks hf rfl dX8_isYear_16
  · have hf := g_f cb hf
    refine lv_iload_n C.x C.b dX8_isYear_4 rfl (lv_at hl 0 rfl) ?_
    refine lv_sipush (v := (200 : Int32)) C.x C.b dX8_isYear_5 (by decide) ?_
    refine lv_icmp_ge (tgt := 15) C.x C.b dX8_isYear_8 (by decide) (fun cb => ?_) (fun cb => ?_)
    · have hf := g_t cb hf
      refine lv_iconst (v := (0 : Int32)) C.x C.b dX8_isYear_15 (by decide) ?_
      exact g_ezp C G hr hlocks hf rfl dX8_isYear_16
    · have hf := g_f cb hf
      refine lv_iconst (v := (1 : Int32)) C.x C.b dX8_isYear_11 (by decide) ?_
      refine lv_goto (tgt := 16) C.x C.b dX8_isYear_12 (by decide) ?_
      exact g_ezp C G hr hlocks hf rfl dX8_isYear_16
def f_X8_isOrder (ad : gA) (σ : gS) (a0 : Int32) : Option Int32 := (if a0 = 0 then (some (1 : Int32)) else (if a0 = (1 : Int32) then (some (1 : Int32)) else (some (0 : Int32))))
theorem hd_X8_isOrder : yX8_isOrder.cls ≠ "java/lang/invoke/MethodHandle" ∧ yX8_isOrder.cls ≠ "java/lang/invoke/VarHandle" ∧ (parseMethodDescriptor yX8_isOrder.desc).map (fun d => d.parameters.length) = some 1 := by decide +kernel
set_option maxHeartbeats 4000000 in
set_option maxRecDepth 100000 in
theorem c_X8_isOrder (l : Launch) (D : va_G) (cy : Nat → ClassId) (A : Nat → Prop) (ad : gA) (L : gL)  (σ : gS) (a0 : Int32) (r0 : Int32) (hf : f_X8_isOrder ad σ a0 = some r0) : g_Mi l yX8_isOrder cX8_isOrder 1 (some .boolean) ({ frames := 0, cells := 0, slots := 0, locals := 0 } : Room) D cy A ad L σ [.int a0] r0 σ := by
  refine g_met (by decide) (Nat.le_of_ble_eq_true rfl) (fun p e s m below meth c C hr hlocks hnm G ls hl => ?_)
  have hl : lv_has ls 1 [(0, .int a0)] := hl
  unfold f_X8_isOrder at hf
  refine lv_iload_n C.x C.b dX8_isOrder_0 rfl (lv_at hl 0 rfl) ?_
  refine lv_if_eq (tgt := 9) C.x C.b dX8_isOrder_1 (by decide) (fun cb => ?_) (fun cb => ?_)
  · have hf := g_t cb hf
    refine lv_iconst (v := (1 : Int32)) C.x C.b dX8_isOrder_9 (by decide) ?_
    refine lv_goto (tgt := 14) C.x C.b dX8_isOrder_10 (by decide) ?_
    exact g_ezp C G hr hlocks hf rfl dX8_isOrder_14
  · have hf := g_f cb hf
    refine lv_iload_n C.x C.b dX8_isOrder_4 rfl (lv_at hl 0 rfl) ?_
    refine lv_iconst (v := (1 : Int32)) C.x C.b dX8_isOrder_5 (by decide) ?_
    refine lv_icmp_ne (tgt := 13) C.x C.b dX8_isOrder_6 (by decide) (fun cb => ?_) (fun cb => ?_)
    · have hf := g_f cb hf
      refine lv_iconst (v := (0 : Int32)) C.x C.b dX8_isOrder_13 (by decide) ?_
      exact g_ezp C G hr hlocks hf rfl dX8_isOrder_14
    · have hf := g_t cb hf
      refine lv_iconst (v := (1 : Int32)) C.x C.b dX8_isOrder_9 (by decide) ?_
      refine lv_goto (tgt := 14) C.x C.b dX8_isOrder_10 (by decide) ?_
      exact g_ezp C G hr hlocks hf rfl dX8_isOrder_14
def f_X8_isBirth (ad : gA) (σ : gS) (a0 : Int32) (a1 : Int32) : Option Int32 := (if a0 < (-50 : Int32) then (some (0 : Int32)) else (if a1 < a0 then (some (0 : Int32)) else (if (200 : Int32) ≤ a1 then (some (0 : Int32)) else (some (1 : Int32)))))
theorem hd_X8_isBirth : yX8_isBirth.cls ≠ "java/lang/invoke/MethodHandle" ∧ yX8_isBirth.cls ≠ "java/lang/invoke/VarHandle" ∧ (parseMethodDescriptor yX8_isBirth.desc).map (fun d => d.parameters.length) = some 2 := by decide +kernel
set_option maxHeartbeats 4000000 in
set_option maxRecDepth 100000 in
theorem c_X8_isBirth (l : Launch) (D : va_G) (cy : Nat → ClassId) (A : Nat → Prop) (ad : gA) (L : gL)  (σ : gS) (a0 : Int32) (a1 : Int32) (r0 : Int32) (hf : f_X8_isBirth ad σ a0 a1 = some r0) : g_Mi l yX8_isBirth cX8_isBirth 2 (some .boolean) ({ frames := 0, cells := 0, slots := 0, locals := 0 } : Room) D cy A ad L σ [.int a0, .int a1] r0 σ := by
  refine g_met (by decide) (Nat.le_of_ble_eq_true rfl) (fun p e s m below meth c C hr hlocks hnm G ls hl => ?_)
  have hl : lv_has ls 2 [(0, .int a0), (1, .int a1)] := hl
  unfold f_X8_isBirth at hf
  refine lv_iload_n C.x C.b dX8_isBirth_0 rfl (lv_at hl 0 rfl) ?_
  refine lv_bipush (v := (-50 : Int32)) C.x C.b dX8_isBirth_1 (by decide) ?_
  refine lv_icmp_lt (tgt := 22) C.x C.b dX8_isBirth_3 (by decide) (fun cb => ?_) (fun cb => ?_)
  · have hf := g_t cb hf
    refine lv_iconst (v := (0 : Int32)) C.x C.b dX8_isBirth_22 (by decide) ?_
    exact g_ezp C G hr hlocks hf rfl dX8_isBirth_23
  · have hf := g_f cb hf
    refine lv_iload_n C.x C.b dX8_isBirth_6 rfl (lv_at hl 0 rfl) ?_
    refine lv_iload_n C.x C.b dX8_isBirth_7 rfl (lv_at hl 1 rfl) ?_
    refine lv_icmp_gt (tgt := 22) C.x C.b dX8_isBirth_8 (by decide) (fun cb => ?_) (fun cb => ?_)
    · have hf := g_t cb hf
      refine lv_iconst (v := (0 : Int32)) C.x C.b dX8_isBirth_22 (by decide) ?_
      exact g_ezp C G hr hlocks hf rfl dX8_isBirth_23
    · have hf := g_f cb hf
      refine lv_iload_n C.x C.b dX8_isBirth_11 rfl (lv_at hl 1 rfl) ?_
      refine lv_sipush (v := (200 : Int32)) C.x C.b dX8_isBirth_12 (by decide) ?_
      refine lv_icmp_ge (tgt := 22) C.x C.b dX8_isBirth_15 (by decide) (fun cb => ?_) (fun cb => ?_)
      · have hf := g_t cb hf
        refine lv_iconst (v := (0 : Int32)) C.x C.b dX8_isBirth_22 (by decide) ?_
        exact g_ezp C G hr hlocks hf rfl dX8_isBirth_23
      · have hf := g_f cb hf
        refine lv_iconst (v := (1 : Int32)) C.x C.b dX8_isBirth_18 (by decide) ?_
        refine lv_goto (tgt := 23) C.x C.b dX8_isBirth_19 (by decide) ?_
        exact g_ezp C G hr hlocks hf rfl dX8_isBirth_23
def f_X8_isShelf (ad : gA) (σ : gS) (a0 : Int32) : Option Int32 := (if a0 < 0 then (some (0 : Int32)) else (if (8 : Int32) ≤ a0 then (some (0 : Int32)) else (some (1 : Int32))))
theorem hd_X8_isShelf : yX8_isShelf.cls ≠ "java/lang/invoke/MethodHandle" ∧ yX8_isShelf.cls ≠ "java/lang/invoke/VarHandle" ∧ (parseMethodDescriptor yX8_isShelf.desc).map (fun d => d.parameters.length) = some 1 := by decide +kernel
set_option maxHeartbeats 4000000 in
set_option maxRecDepth 100000 in
theorem c_X8_isShelf (l : Launch) (D : va_G) (cy : Nat → ClassId) (A : Nat → Prop) (ad : gA) (L : gL)  (σ : gS) (a0 : Int32) (r0 : Int32) (hf : f_X8_isShelf ad σ a0 = some r0) : g_Mi l yX8_isShelf cX8_isShelf 1 (some .boolean) ({ frames := 0, cells := 0, slots := 0, locals := 0 } : Room) D cy A ad L σ [.int a0] r0 σ := by
  refine g_met (by decide) (Nat.le_of_ble_eq_true rfl) (fun p e s m below meth c C hr hlocks hnm G ls hl => ?_)
  have hl : lv_has ls 1 [(0, .int a0)] := hl
  unfold f_X8_isShelf at hf
  refine lv_iload_n C.x C.b dX8_isShelf_0 rfl (lv_at hl 0 rfl) ?_
  refine lv_if_lt (tgt := 14) C.x C.b dX8_isShelf_1 (by decide) (fun cb => ?_) (fun cb => ?_)
  · have hf := g_t cb hf
    refine lv_iconst (v := (0 : Int32)) C.x C.b dX8_isShelf_14 (by decide) ?_
    exact g_ezp C G hr hlocks hf rfl dX8_isShelf_15
  · have hf := g_f cb hf
    refine lv_iload_n C.x C.b dX8_isShelf_4 rfl (lv_at hl 0 rfl) ?_
    refine lv_bipush (v := (8 : Int32)) C.x C.b dX8_isShelf_5 (by decide) ?_
    refine lv_icmp_ge (tgt := 14) C.x C.b dX8_isShelf_7 (by decide) (fun cb => ?_) (fun cb => ?_)
    · have hf := g_t cb hf
      refine lv_iconst (v := (0 : Int32)) C.x C.b dX8_isShelf_14 (by decide) ?_
      exact g_ezp C G hr hlocks hf rfl dX8_isShelf_15
    · have hf := g_f cb hf
      refine lv_iconst (v := (1 : Int32)) C.x C.b dX8_isShelf_10 (by decide) ?_
      refine lv_goto (tgt := 15) C.x C.b dX8_isShelf_11 (by decide) ?_
      exact g_ezp C G hr hlocks hf rfl dX8_isShelf_15
