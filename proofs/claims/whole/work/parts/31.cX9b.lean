def f_X9_isKin (ad : gA) (σ : gS) (a1 : Int32) (a2 : Int32) : Option Int32 := (if g_ix a1 24 then (if (σ 49 0 a1.toNatClampNeg) = a2 then (some (1 : Int32)) else (if g_ix a2 24 then (if (σ 49 0 a2.toNatClampNeg) = a1 then (some (1 : Int32)) else (if g_ix a1 24 then (if (σ 49 0 a1.toNatClampNeg) < 0 then (some (0 : Int32)) else (if g_ix a1 24 then (if g_ix a2 24 then (if (σ 49 0 a1.toNatClampNeg) = (σ 49 0 a2.toNatClampNeg) then (some (1 : Int32)) else (some (0 : Int32))) else none) else none)) else none)) else none)) else none)
theorem hd_X9_isKin : yX9_isKin.cls ≠ "java/lang/invoke/MethodHandle" ∧ yX9_isKin.cls ≠ "java/lang/invoke/VarHandle" ∧ (parseMethodDescriptor yX9_isKin.desc).map (fun d => d.parameters.length) = some 2 := by decide +kernel
set_option maxHeartbeats 4000000 in
set_option maxRecDepth 100000 in
theorem c_X9_isKin (l : Launch) (D : va_G) (cy : Nat → ClassId) (A : Nat → Prop) (ad : gA) (L : gL)  (σ : gS) (hT : (9, 0) ∈ L) (a1 : Int32) (a2 : Int32) (r0 : Int32) (hf : f_X9_isKin ad σ a1 a2 = some r0) : g_Mi l yX9_isKin cX9_isKin 3 (some .boolean) ({ frames := 0, cells := 0, slots := 0, locals := 0 } : Room) D cy A ad L σ [.ref (ad 9 0), .int a1, .int a2] r0 σ := by
  refine g_met (by decide) (Nat.le_of_ble_eq_true rfl) (fun p e s m below meth c C hr hlocks hnm G ls hl => ?_)
  have hl : lv_has ls 3 [(0, .ref (ad 9 0)), (1, .int a1), (2, .int a2)] := hl
  unfold f_X9_isKin at hf
  refine lv_aload_n C.x C.b dX9_isKin_0 rfl (lv_at hl 0 rfl) ?_
  refine g_getr C G 9 0 9 49 hT rfl ginX9 (by decide) tw959 dX9_isKin_1 (fun hL1 => ?_)
  refine lv_iload_n C.x C.b dX9_isKin_4 rfl (lv_at hl 1 rfl) ?_
  obtain ⟨hi2, hf⟩ := g_ok hf
  refine g_iald (n := 24) C G 49 0 hL1 (by decide) rfl hi2 dX9_isKin_5 ?_
  refine lv_iload_n C.x C.b dX9_isKin_6 rfl (lv_at hl 2 rfl) ?_
  refine lv_icmp_eq (tgt := 44) C.x C.b dX9_isKin_7 (by decide) (fun cb => ?_) (fun cb => ?_)
  · have hf := g_t cb hf
    refine lv_iconst (v := (1 : Int32)) C.x C.b dX9_isKin_44 (by decide) ?_
    refine lv_goto (tgt := 49) C.x C.b dX9_isKin_45 (by decide) ?_
    exact g_ezp C G hr hlocks hf rfl dX9_isKin_49
  · have hf := g_f cb hf
    refine lv_aload_n C.x C.b dX9_isKin_10 rfl (lv_at hl 0 rfl) ?_
    refine g_getr C G 9 0 9 49 hT rfl ginX9 (by decide) tw959 dX9_isKin_11 (fun hL3 => ?_)
    refine lv_iload_n C.x C.b dX9_isKin_14 rfl (lv_at hl 2 rfl) ?_
    obtain ⟨hi4, hf⟩ := g_ok hf
    refine g_iald (n := 24) C G 49 0 hL3 (by decide) rfl hi4 dX9_isKin_15 ?_
    refine lv_iload_n C.x C.b dX9_isKin_16 rfl (lv_at hl 1 rfl) ?_
    refine lv_icmp_eq (tgt := 44) C.x C.b dX9_isKin_17 (by decide) (fun cb => ?_) (fun cb => ?_)
    · have hf := g_t cb hf
      refine lv_iconst (v := (1 : Int32)) C.x C.b dX9_isKin_44 (by decide) ?_
      refine lv_goto (tgt := 49) C.x C.b dX9_isKin_45 (by decide) ?_
      exact g_ezp C G hr hlocks hf rfl dX9_isKin_49
    · have hf := g_f cb hf
      refine lv_aload_n C.x C.b dX9_isKin_20 rfl (lv_at hl 0 rfl) ?_
      refine g_getr C G 9 0 9 49 hT rfl ginX9 (by decide) tw959 dX9_isKin_21 (fun hL5 => ?_)
      refine lv_iload_n C.x C.b dX9_isKin_24 rfl (lv_at hl 1 rfl) ?_
      obtain ⟨hi6, hf⟩ := g_ok hf
      refine g_iald (n := 24) C G 49 0 hL5 (by decide) rfl hi6 dX9_isKin_25 ?_
      refine lv_if_lt (tgt := 48) C.x C.b dX9_isKin_26 (by decide) (fun cb => ?_) (fun cb => ?_)
      · have hf := g_t cb hf
        refine lv_iconst (v := (0 : Int32)) C.x C.b dX9_isKin_48 (by decide) ?_
        exact g_ezp C G hr hlocks hf rfl dX9_isKin_49
      · have hf := g_f cb hf
        refine lv_aload_n C.x C.b dX9_isKin_29 rfl (lv_at hl 0 rfl) ?_
        refine g_getr C G 9 0 9 49 hT rfl ginX9 (by decide) tw959 dX9_isKin_30 (fun hL7 => ?_)
        refine lv_iload_n C.x C.b dX9_isKin_33 rfl (lv_at hl 1 rfl) ?_
        obtain ⟨hi8, hf⟩ := g_ok hf
        refine g_iald (n := 24) C G 49 0 hL7 (by decide) rfl hi8 dX9_isKin_34 ?_
        refine lv_aload_n C.x C.b dX9_isKin_35 rfl (lv_at hl 0 rfl) ?_
        refine g_getr C G 9 0 9 49 hT rfl ginX9 (by decide) tw959 dX9_isKin_36 (fun hL9 => ?_)
        refine lv_iload_n C.x C.b dX9_isKin_39 rfl (lv_at hl 2 rfl) ?_
        obtain ⟨hi10, hf⟩ := g_ok hf
        refine g_iald (n := 24) C G 49 0 hL9 (by decide) rfl hi10 dX9_isKin_40 ?_
        refine lv_icmp_ne (tgt := 48) C.x C.b dX9_isKin_41 (by decide) (fun cb => ?_) (fun cb => ?_)
        · have hf := g_f cb hf
          refine lv_iconst (v := (0 : Int32)) C.x C.b dX9_isKin_48 (by decide) ?_
          exact g_ezp C G hr hlocks hf rfl dX9_isKin_49
        · have hf := g_t cb hf
          refine lv_iconst (v := (1 : Int32)) C.x C.b dX9_isKin_44 (by decide) ?_
          refine lv_goto (tgt := 49) C.x C.b dX9_isKin_45 (by decide) ?_
          exact g_ezp C G hr hlocks hf rfl dX9_isKin_49
def f_X9_hasKin_P91 (v4 : Int32) : Option Int32 := (if g_bo v4 then (some v4) else none)
def f_X9_hasKin_L6 (ad : gA) (σ : gS) (a1 : Int32) (a2 : Int32) (a3 : Int32) (K6 : Int32 → Option Int32) : Nat → Int32 → Int32 → Option Int32
  | 0, _, _ => none
  | n + 1, v4, v5 => (if g_ix a2 8 then (if (σ 44 0 a2.toNatClampNeg) ≤ v5 then (K6 v4) else ((f_X9_at ad σ a2 a3 v5).bind fun q3 => (if v4 = 0 then (if g_ix q3 4800 then (if (σ 58 0 q3.toNatClampNeg) < 0 then (f_X9_hasKin_L6 ad σ a1 a2 a3 K6 n (0 : Int32) (v5 + (1 : Int32))) else (if g_ix q3 4800 then (if (σ 58 0 q3.toNatClampNeg) = a1 then (f_X9_hasKin_L6 ad σ a1 a2 a3 K6 n (0 : Int32) (v5 + (1 : Int32))) else (if g_ix q3 4800 then (if (σ 59 0 q3.toNatClampNeg) = 0 then (if g_ix q3 4800 then ((f_X9_isKin ad σ a1 (σ 58 0 q3.toNatClampNeg)).bind fun q12 => (if q12 = 0 then (f_X9_hasKin_L6 ad σ a1 a2 a3 K6 n (0 : Int32) (v5 + (1 : Int32))) else (f_X9_hasKin_L6 ad σ a1 a2 a3 K6 n (1 : Int32) (v5 + (1 : Int32))))) else none) else (f_X9_hasKin_L6 ad σ a1 a2 a3 K6 n (0 : Int32) (v5 + (1 : Int32)))) else none)) else none)) else none) else (f_X9_hasKin_L6 ad σ a1 a2 a3 K6 n (1 : Int32) (v5 + (1 : Int32)))))) else none)
def f_X9_hasKin (ad : gA) (σ : gS) (a1 : Int32) (a2 : Int32) (a3 : Int32) : Option Int32 := (f_X9_hasKin_L6 ad σ a1 a2 a3 (f_X9_hasKin_P91) g_fuel (0 : Int32) (0 : Int32))
theorem hd_X9_hasKin : yX9_hasKin.cls ≠ "java/lang/invoke/MethodHandle" ∧ yX9_hasKin.cls ≠ "java/lang/invoke/VarHandle" ∧ (parseMethodDescriptor yX9_hasKin.desc).map (fun d => d.parameters.length) = some 3 := by decide +kernel
set_option maxHeartbeats 4000000 in
set_option maxRecDepth 100000 in
theorem c_X9_hasKin (l : Launch) (D : va_G) (cy : Nat → ClassId) (A : Nat → Prop) (ad : gA) (L : gL)  (σ : gS) (hT : (9, 0) ∈ L) (a1 : Int32) (a2 : Int32) (a3 : Int32) (r0 : Int32) (hf : f_X9_hasKin ad σ a1 a2 a3 = some r0) : g_Mi l yX9_hasKin cX9_hasKin 7 (some .boolean) ({ frames := 1, cells := 0, slots := 0, locals := 23 } : Room) D cy A ad L σ [.ref (ad 9 0), .int a1, .int a2, .int a3] r0 σ := by
  refine g_met (by decide) (Nat.le_of_ble_eq_true rfl) (fun p e s m below meth c C hr hlocks hnm G ls hl => ?_)
  have hl : lv_has ls 7 [(0, .ref (ad 9 0)), (1, .int a1), (2, .int a2), (3, .int a3)] := hl
  have pt91 : ∀ (v4 : Int32) (H : Heap) (locs : List Loc) (ls : Array Slot), g_H D cy A ad L σ s.heap H locs → lv_has ls 7 [(4, .int v4)] → f_X9_hasKin_P91 v4 = some r0 → g_Wi p l e ({ frames := 1, cells := 0, slots := 0, locals := 23 } : Room) s m below meth c H locs 0 0 D cy A ad L [.ref (ad 9 0), .int a1, .int a2, .int a3] r0 σ (F0 m 91 ls []) := by
    intro v4 H locs ls G hl hf
    unfold f_X9_hasKin_P91 at hf
    refine lv_iload C.x C.b dX9_hasKin_91 (lv_at hl 0 rfl) ?_
    obtain ⟨hbo, hf⟩ := g_ok hf
    exact g_ezp C G hr hlocks hf (g_bo_fit hbo).1 dX9_hasKin_93
  have lp6 : ∀ n6 : Nat, ∀ (v4 : Int32) (v5 : Int32) (H : Heap) (locs : List Loc) (ls : Array Slot), g_H D cy A ad L σ s.heap H locs → lv_has ls 7 [(0, .ref (ad 9 0)), (1, .int a1), (2, .int a2), (3, .int a3), (4, .int v4), (5, .int v5)] → f_X9_hasKin_L6 ad σ a1 a2 a3 (f_X9_hasKin_P91) n6 v4 v5 = some r0 → g_Wi p l e ({ frames := 1, cells := 0, slots := 0, locals := 23 } : Room) s m below meth c H locs 0 0 D cy A ad L [.ref (ad 9 0), .int a1, .int a2, .int a3] r0 σ (F0 m 6 ls []) := by
    intro n6
    induction n6 with
    | zero =>
      intro v4 v5 H locs ls G hl hf
      rw [f_X9_hasKin_L6] at hf
      cases hf
    | succ n6 ih6 =>
      intro v4 v5 H locs ls G hl hf
      rw [f_X9_hasKin_L6] at hf
      refine lv_iload C.x C.b dX9_hasKin_6 (lv_at hl 5 rfl) ?_
      refine lv_aload_n C.x C.b dX9_hasKin_8 rfl (lv_at hl 0 rfl) ?_
      refine g_getr C G 9 0 4 44 hT rfl ginX9 (by decide) tw954 dX9_hasKin_9 (fun hL1 => ?_)
      refine lv_iload_n C.x C.b dX9_hasKin_12 rfl (lv_at hl 2 rfl) ?_
      obtain ⟨hi2, hf⟩ := g_ok hf
      refine g_iald (n := 8) C G 44 0 hL1 (by decide) rfl hi2 dX9_hasKin_13 ?_
      refine lv_icmp_ge (tgt := 91) C.x C.b dX9_hasKin_14 (by decide) (fun cb => ?_) (fun cb => ?_)
      · have hf := g_t cb hf
        exact pt91 v4 _ _ ls G (lv_sub hl [4] rfl) hf
      · have hf := g_f cb hf
        refine lv_aload_n C.x C.b dX9_hasKin_17 rfl (lv_at hl 0 rfl) ?_
        refine lv_iload_n C.x C.b dX9_hasKin_18 rfl (lv_at hl 2 rfl) ?_
        refine lv_iload_n C.x C.b dX9_hasKin_19 rfl (lv_at hl 3 rfl) ?_
        refine lv_iload C.x C.b dX9_hasKin_20 (lv_at hl 5 rfl) ?_
        obtain ⟨q3, eq3, hf⟩ := g_b hf
        refine g_calli G (g_runV (As := [.int a2, .int a3, .int v5]) (rest := []) C G 9 0 (c_X9_at l D cy A ad L σ hT a2 a3 v5 q3 eq3) ⟨tw1141, tw60, tw1138, ⟨tw1140, tw23⟩, hd_X9_at⟩ (by decide) hT rfl ⟨rfl, by decide⟩ hl.1 rfl (Nat.le_of_ble_eq_true rfl) dX9_hasKin_22 ⟨Nat.le_of_ble_eq_true rfl, Nat.le_of_ble_eq_true rfl⟩) (fun H locs G => ?_)
        refine lv_istore (lv' := [(6, .int q3), (0, .ref (ad 9 0)), (1, .int a1), (2, .int a2), (3, .int a3), (4, .int v4), (5, .int v5)]) C.x C.b dX9_hasKin_25 hl (by decide) rfl (fun ls hl => ?_)
        refine lv_iload C.x C.b dX9_hasKin_27 (lv_at hl 5 rfl) ?_
        refine lv_if_ne (tgt := 78) C.x C.b dX9_hasKin_29 (by decide) (fun cb => ?_) (fun cb => ?_)
        · have hf := g_f cb hf
          refine lv_iconst (v := (1 : Int32)) C.x C.b dX9_hasKin_78 (by decide) ?_
          refine lv_goto (tgt := 83) C.x C.b dX9_hasKin_79 (by decide) ?_
          refine lv_istore (lv' := [(4, .int (1 : Int32)), (6, .int q3), (0, .ref (ad 9 0)), (1, .int a1), (2, .int a2), (3, .int a3), (5, .int v5)]) C.x C.b dX9_hasKin_83 hl (by decide) rfl (fun ls hl => ?_)
          refine lv_iinc (v := (v5 + (1 : Int32))) (lv' := [(5, .int (v5 + (1 : Int32))), (4, .int (1 : Int32)), (6, .int q3), (0, .ref (ad 9 0)), (1, .int a1), (2, .int a2), (3, .int a3)]) C.x C.b dX9_hasKin_85 hl (k := 6) rfl rfl (by decide) rfl (fun ls hl => ?_)
          refine lv_goto (tgt := 6) C.x C.b dX9_hasKin_88 (by decide) ?_
          exact ih6 (1 : Int32) (v5 + (1 : Int32)) _ _ ls G (lv_sub hl [3, 4, 5, 6, 1, 0] rfl) hf
        · have hf := g_t cb hf
          refine lv_aload_n C.x C.b dX9_hasKin_32 rfl (lv_at hl 1 rfl) ?_
          refine g_getr C G 9 0 18 58 hT rfl ginX9 (by decide) tw968 dX9_hasKin_33 (fun hL4 => ?_)
          refine lv_iload C.x C.b dX9_hasKin_36 (lv_at hl 0 rfl) ?_
          obtain ⟨hi5, hf⟩ := g_ok hf
          refine g_iald (n := 4800) C G 58 0 hL4 (by decide) rfl hi5 dX9_hasKin_38 ?_
          refine lv_if_lt (tgt := 82) C.x C.b dX9_hasKin_39 (by decide) (fun cb => ?_) (fun cb => ?_)
          · have hf := g_t cb hf
            refine lv_iconst (v := (0 : Int32)) C.x C.b dX9_hasKin_82 (by decide) ?_
            refine lv_istore (lv' := [(4, .int (0 : Int32)), (6, .int q3), (0, .ref (ad 9 0)), (1, .int a1), (2, .int a2), (3, .int a3), (5, .int v5)]) C.x C.b dX9_hasKin_83 hl (by decide) rfl (fun ls hl => ?_)
            refine lv_iinc (v := (v5 + (1 : Int32))) (lv' := [(5, .int (v5 + (1 : Int32))), (4, .int (0 : Int32)), (6, .int q3), (0, .ref (ad 9 0)), (1, .int a1), (2, .int a2), (3, .int a3)]) C.x C.b dX9_hasKin_85 hl (k := 6) rfl rfl (by decide) rfl (fun ls hl => ?_)
            refine lv_goto (tgt := 6) C.x C.b dX9_hasKin_88 (by decide) ?_
            exact ih6 (0 : Int32) (v5 + (1 : Int32)) _ _ ls G (lv_sub hl [3, 4, 5, 6, 1, 0] rfl) hf
          · have hf := g_f cb hf
            refine lv_aload_n C.x C.b dX9_hasKin_42 rfl (lv_at hl 1 rfl) ?_
            refine g_getr C G 9 0 18 58 hT rfl ginX9 (by decide) tw968 dX9_hasKin_43 (fun hL6 => ?_)
            refine lv_iload C.x C.b dX9_hasKin_46 (lv_at hl 0 rfl) ?_
            obtain ⟨hi7, hf⟩ := g_ok hf
            refine g_iald (n := 4800) C G 58 0 hL6 (by decide) rfl hi7 dX9_hasKin_48 ?_
            refine lv_iload_n C.x C.b dX9_hasKin_49 rfl (lv_at hl 2 rfl) ?_
            refine lv_icmp_eq (tgt := 82) C.x C.b dX9_hasKin_50 (by decide) (fun cb => ?_) (fun cb => ?_)
            · have hf := g_t cb hf
              refine lv_iconst (v := (0 : Int32)) C.x C.b dX9_hasKin_82 (by decide) ?_
              refine lv_istore (lv' := [(4, .int (0 : Int32)), (6, .int q3), (0, .ref (ad 9 0)), (1, .int a1), (2, .int a2), (3, .int a3), (5, .int v5)]) C.x C.b dX9_hasKin_83 hl (by decide) rfl (fun ls hl => ?_)
              refine lv_iinc (v := (v5 + (1 : Int32))) (lv' := [(5, .int (v5 + (1 : Int32))), (4, .int (0 : Int32)), (6, .int q3), (0, .ref (ad 9 0)), (1, .int a1), (2, .int a2), (3, .int a3)]) C.x C.b dX9_hasKin_85 hl (k := 6) rfl rfl (by decide) rfl (fun ls hl => ?_)
              refine lv_goto (tgt := 6) C.x C.b dX9_hasKin_88 (by decide) ?_
              exact ih6 (0 : Int32) (v5 + (1 : Int32)) _ _ ls G (lv_sub hl [3, 4, 5, 6, 1, 0] rfl) hf
            · have hf := g_f cb hf
              refine lv_aload_n C.x C.b dX9_hasKin_53 rfl (lv_at hl 1 rfl) ?_
              refine g_getr C G 9 0 19 59 hT rfl ginX9 (by decide) tw969 dX9_hasKin_54 (fun hL8 => ?_)
              refine lv_iload C.x C.b dX9_hasKin_57 (lv_at hl 0 rfl) ?_
              obtain ⟨hi9, hf⟩ := g_ok hf
              refine g_zald (n := 4800) C G 59 0 hL8 (by decide) rfl hi9 dX9_hasKin_59 ?_
              refine lv_if_ne (tgt := 82) C.x C.b dX9_hasKin_60 (by decide) (fun cb => ?_) (fun cb => ?_)
              · have hf := g_f cb hf
                refine lv_iconst (v := (0 : Int32)) C.x C.b dX9_hasKin_82 (by decide) ?_
                refine lv_istore (lv' := [(4, .int (0 : Int32)), (6, .int q3), (0, .ref (ad 9 0)), (1, .int a1), (2, .int a2), (3, .int a3), (5, .int v5)]) C.x C.b dX9_hasKin_83 hl (by decide) rfl (fun ls hl => ?_)
                refine lv_iinc (v := (v5 + (1 : Int32))) (lv' := [(5, .int (v5 + (1 : Int32))), (4, .int (0 : Int32)), (6, .int q3), (0, .ref (ad 9 0)), (1, .int a1), (2, .int a2), (3, .int a3)]) C.x C.b dX9_hasKin_85 hl (k := 6) rfl rfl (by decide) rfl (fun ls hl => ?_)
                refine lv_goto (tgt := 6) C.x C.b dX9_hasKin_88 (by decide) ?_
                exact ih6 (0 : Int32) (v5 + (1 : Int32)) _ _ ls G (lv_sub hl [3, 4, 5, 6, 1, 0] rfl) hf
              · have hf := g_t cb hf
                refine lv_aload_n C.x C.b dX9_hasKin_63 rfl (lv_at hl 1 rfl) ?_
                refine lv_iload_n C.x C.b dX9_hasKin_64 rfl (lv_at hl 2 rfl) ?_
                refine lv_aload_n C.x C.b dX9_hasKin_65 rfl (lv_at hl 1 rfl) ?_
                refine g_getr C G 9 0 18 58 hT rfl ginX9 (by decide) tw968 dX9_hasKin_66 (fun hL10 => ?_)
                refine lv_iload C.x C.b dX9_hasKin_69 (lv_at hl 0 rfl) ?_
                obtain ⟨hi11, hf⟩ := g_ok hf
                refine g_iald (n := 4800) C G 58 0 hL10 (by decide) rfl hi11 dX9_hasKin_71 ?_
                obtain ⟨q12, eq12, hf⟩ := g_b hf
                refine g_calli G (g_runV (As := [.int a1, .int (σ 58 0 q3.toNatClampNeg)]) (rest := []) C G 9 0 (c_X9_isKin l D cy A ad L σ hT a1 (σ 58 0 q3.toNatClampNeg) q12 eq12) ⟨tw1213, tw60, tw1210, ⟨tw1212, tw35⟩, hd_X9_isKin⟩ (by decide) hT rfl ⟨rfl, by decide⟩ hl.1 rfl (Nat.le_of_ble_eq_true rfl) dX9_hasKin_72 ⟨Nat.le_of_ble_eq_true rfl, Nat.le_of_ble_eq_true rfl⟩) (fun H locs G => ?_)
                refine lv_if_eq (tgt := 82) C.x C.b dX9_hasKin_75 (by decide) (fun cb => ?_) (fun cb => ?_)
                · have hf := g_t cb hf
                  refine lv_iconst (v := (0 : Int32)) C.x C.b dX9_hasKin_82 (by decide) ?_
                  refine lv_istore (lv' := [(4, .int (0 : Int32)), (6, .int q3), (0, .ref (ad 9 0)), (1, .int a1), (2, .int a2), (3, .int a3), (5, .int v5)]) C.x C.b dX9_hasKin_83 hl (by decide) rfl (fun ls hl => ?_)
                  refine lv_iinc (v := (v5 + (1 : Int32))) (lv' := [(5, .int (v5 + (1 : Int32))), (4, .int (0 : Int32)), (6, .int q3), (0, .ref (ad 9 0)), (1, .int a1), (2, .int a2), (3, .int a3)]) C.x C.b dX9_hasKin_85 hl (k := 6) rfl rfl (by decide) rfl (fun ls hl => ?_)
                  refine lv_goto (tgt := 6) C.x C.b dX9_hasKin_88 (by decide) ?_
                  exact ih6 (0 : Int32) (v5 + (1 : Int32)) _ _ ls G (lv_sub hl [3, 4, 5, 6, 1, 0] rfl) hf
                · have hf := g_f cb hf
                  refine lv_iconst (v := (1 : Int32)) C.x C.b dX9_hasKin_78 (by decide) ?_
                  refine lv_goto (tgt := 83) C.x C.b dX9_hasKin_79 (by decide) ?_
                  refine lv_istore (lv' := [(4, .int (1 : Int32)), (6, .int q3), (0, .ref (ad 9 0)), (1, .int a1), (2, .int a2), (3, .int a3), (5, .int v5)]) C.x C.b dX9_hasKin_83 hl (by decide) rfl (fun ls hl => ?_)
                  refine lv_iinc (v := (v5 + (1 : Int32))) (lv' := [(5, .int (v5 + (1 : Int32))), (4, .int (1 : Int32)), (6, .int q3), (0, .ref (ad 9 0)), (1, .int a1), (2, .int a2), (3, .int a3)]) C.x C.b dX9_hasKin_85 hl (k := 6) rfl rfl (by decide) rfl (fun ls hl => ?_)
                  refine lv_goto (tgt := 6) C.x C.b dX9_hasKin_88 (by decide) ?_
                  exact ih6 (1 : Int32) (v5 + (1 : Int32)) _ _ ls G (lv_sub hl [3, 4, 5, 6, 1, 0] rfl) hf
  unfold f_X9_hasKin at hf
  refine lv_iconst (v := (0 : Int32)) C.x C.b dX9_hasKin_0 (by decide) ?_
  refine lv_istore (lv' := [(4, .int (0 : Int32)), (0, .ref (ad 9 0)), (1, .int a1), (2, .int a2), (3, .int a3)]) C.x C.b dX9_hasKin_1 hl (by decide) rfl (fun ls hl => ?_)
  refine lv_iconst (v := (0 : Int32)) C.x C.b dX9_hasKin_3 (by decide) ?_
  refine lv_istore (lv' := [(5, .int (0 : Int32)), (4, .int (0 : Int32)), (0, .ref (ad 9 0)), (1, .int a1), (2, .int a2), (3, .int a3)]) C.x C.b dX9_hasKin_4 hl (by decide) rfl (fun ls hl => ?_)
  exact lp6 g_fuel (0 : Int32) (0 : Int32) _ _ ls G (lv_sub hl [2, 3, 4, 5, 1, 0] rfl) hf
def f_X9_isInForce (ad : gA) (σ : gS) (a1 : Int32) (a2 : Int32) (a3 : Int32) : Option Int32 := (if g_ix a2 8 then (if (σ 45 0 a2.toNatClampNeg) = 0 then (if g_ix a1 20 then (if (σ 54 0 a1.toNatClampNeg) < 0 then (if g_ix a1 20 then (if a3 < (σ 56 0 a1.toNatClampNeg) then (some (0 : Int32)) else (if g_ix a1 20 then (if (σ 57 0 a1.toNatClampNeg) ≤ a3 then (some (0 : Int32)) else (some (1 : Int32))) else none)) else none) else (if g_ix a1 20 then (if (σ 54 0 a1.toNatClampNeg) = a2 then (if g_ix a1 20 then (if a3 < (σ 56 0 a1.toNatClampNeg) then (some (0 : Int32)) else (if g_ix a1 20 then (if (σ 57 0 a1.toNatClampNeg) ≤ a3 then (some (0 : Int32)) else (some (1 : Int32))) else none)) else none) else (some (0 : Int32))) else none)) else none) else (some (0 : Int32))) else none)
theorem hd_X9_isInForce : yX9_isInForce.cls ≠ "java/lang/invoke/MethodHandle" ∧ yX9_isInForce.cls ≠ "java/lang/invoke/VarHandle" ∧ (parseMethodDescriptor yX9_isInForce.desc).map (fun d => d.parameters.length) = some 3 := by decide +kernel
set_option maxHeartbeats 4000000 in
set_option maxRecDepth 100000 in
theorem c_X9_isInForce (l : Launch) (D : va_G) (cy : Nat → ClassId) (A : Nat → Prop) (ad : gA) (L : gL)  (σ : gS) (hT : (9, 0) ∈ L) (a1 : Int32) (a2 : Int32) (a3 : Int32) (r0 : Int32) (hf : f_X9_isInForce ad σ a1 a2 a3 = some r0) : g_Mi l yX9_isInForce cX9_isInForce 4 (some .boolean) ({ frames := 0, cells := 0, slots := 0, locals := 0 } : Room) D cy A ad L σ [.ref (ad 9 0), .int a1, .int a2, .int a3] r0 σ := by
  refine g_met (by decide) (Nat.le_of_ble_eq_true rfl) (fun p e s m below meth c C hr hlocks hnm G ls hl => ?_)
  have hl : lv_has ls 4 [(0, .ref (ad 9 0)), (1, .int a1), (2, .int a2), (3, .int a3)] := hl
  unfold f_X9_isInForce at hf
  refine lv_aload_n C.x C.b dX9_isInForce_0 rfl (lv_at hl 0 rfl) ?_
  refine g_getr C G 9 0 5 45 hT rfl ginX9 (by decide) tw955 dX9_isInForce_1 (fun hL1 => ?_)
  refine lv_iload_n C.x C.b dX9_isInForce_4 rfl (lv_at hl 2 rfl) ?_
  obtain ⟨hi2, hf⟩ := g_ok hf
  refine g_zald (n := 8) C G 45 0 hL1 (by decide) rfl hi2 dX9_isInForce_5 ?_
  refine lv_if_ne (tgt := 52) C.x C.b dX9_isInForce_6 (by decide) (fun cb => ?_) (fun cb => ?_)
  · have hf := g_f cb hf
    refine lv_iconst (v := (0 : Int32)) C.x C.b dX9_isInForce_52 (by decide) ?_
    exact g_ezp C G hr hlocks hf rfl dX9_isInForce_53
  · have hf := g_t cb hf
    refine lv_aload_n C.x C.b dX9_isInForce_9 rfl (lv_at hl 0 rfl) ?_
    refine g_getr C G 9 0 14 54 hT rfl ginX9 (by decide) tw964 dX9_isInForce_10 (fun hL3 => ?_)
    refine lv_iload_n C.x C.b dX9_isInForce_13 rfl (lv_at hl 1 rfl) ?_
    obtain ⟨hi4, hf⟩ := g_ok hf
    refine g_iald (n := 20) C G 54 0 hL3 (by decide) rfl hi4 dX9_isInForce_14 ?_
    refine lv_if_lt (tgt := 28) C.x C.b dX9_isInForce_15 (by decide) (fun cb => ?_) (fun cb => ?_)
    · have hf := g_t cb hf
      refine lv_aload_n C.x C.b dX9_isInForce_28 rfl (lv_at hl 0 rfl) ?_
      refine g_getr C G 9 0 16 56 hT rfl ginX9 (by decide) tw966 dX9_isInForce_29 (fun hL5 => ?_)
      refine lv_iload_n C.x C.b dX9_isInForce_32 rfl (lv_at hl 1 rfl) ?_
      obtain ⟨hi6, hf⟩ := g_ok hf
      refine g_iald (n := 20) C G 56 0 hL5 (by decide) rfl hi6 dX9_isInForce_33 ?_
      refine lv_iload_n C.x C.b dX9_isInForce_34 rfl (lv_at hl 3 rfl) ?_
      refine lv_icmp_gt (tgt := 52) C.x C.b dX9_isInForce_35 (by decide) (fun cb => ?_) (fun cb => ?_)
      · have hf := g_t cb hf
        refine lv_iconst (v := (0 : Int32)) C.x C.b dX9_isInForce_52 (by decide) ?_
        exact g_ezp C G hr hlocks hf rfl dX9_isInForce_53
      · have hf := g_f cb hf
        refine lv_iload_n C.x C.b dX9_isInForce_38 rfl (lv_at hl 3 rfl) ?_
        refine lv_aload_n C.x C.b dX9_isInForce_39 rfl (lv_at hl 0 rfl) ?_
        refine g_getr C G 9 0 17 57 hT rfl ginX9 (by decide) tw967 dX9_isInForce_40 (fun hL7 => ?_)
        refine lv_iload_n C.x C.b dX9_isInForce_43 rfl (lv_at hl 1 rfl) ?_
        obtain ⟨hi8, hf⟩ := g_ok hf
        refine g_iald (n := 20) C G 57 0 hL7 (by decide) rfl hi8 dX9_isInForce_44 ?_
        refine lv_icmp_ge (tgt := 52) C.x C.b dX9_isInForce_45 (by decide) (fun cb => ?_) (fun cb => ?_)
        · have hf := g_t cb hf
          refine lv_iconst (v := (0 : Int32)) C.x C.b dX9_isInForce_52 (by decide) ?_
          exact g_ezp C G hr hlocks hf rfl dX9_isInForce_53
        · have hf := g_f cb hf
          refine lv_iconst (v := (1 : Int32)) C.x C.b dX9_isInForce_48 (by decide) ?_
          refine lv_goto (tgt := 53) C.x C.b dX9_isInForce_49 (by decide) ?_
          exact g_ezp C G hr hlocks hf rfl dX9_isInForce_53
    · have hf := g_f cb hf
      refine lv_aload_n C.x C.b dX9_isInForce_18 rfl (lv_at hl 0 rfl) ?_
      refine g_getr C G 9 0 14 54 hT rfl ginX9 (by decide) tw964 dX9_isInForce_19 (fun hL9 => ?_)
      refine lv_iload_n C.x C.b dX9_isInForce_22 rfl (lv_at hl 1 rfl) ?_
      obtain ⟨hi10, hf⟩ := g_ok hf
      refine g_iald (n := 20) C G 54 0 hL9 (by decide) rfl hi10 dX9_isInForce_23 ?_
      refine lv_iload_n C.x C.b dX9_isInForce_24 rfl (lv_at hl 2 rfl) ?_
      refine lv_icmp_ne (tgt := 52) C.x C.b dX9_isInForce_25 (by decide) (fun cb => ?_) (fun cb => ?_)
      · have hf := g_f cb hf
        refine lv_iconst (v := (0 : Int32)) C.x C.b dX9_isInForce_52 (by decide) ?_
        exact g_ezp C G hr hlocks hf rfl dX9_isInForce_53
      · have hf := g_t cb hf
        refine lv_aload_n C.x C.b dX9_isInForce_28 rfl (lv_at hl 0 rfl) ?_
        refine g_getr C G 9 0 16 56 hT rfl ginX9 (by decide) tw966 dX9_isInForce_29 (fun hL11 => ?_)
        refine lv_iload_n C.x C.b dX9_isInForce_32 rfl (lv_at hl 1 rfl) ?_
        obtain ⟨hi12, hf⟩ := g_ok hf
        refine g_iald (n := 20) C G 56 0 hL11 (by decide) rfl hi12 dX9_isInForce_33 ?_
        refine lv_iload_n C.x C.b dX9_isInForce_34 rfl (lv_at hl 3 rfl) ?_
        refine lv_icmp_gt (tgt := 52) C.x C.b dX9_isInForce_35 (by decide) (fun cb => ?_) (fun cb => ?_)
        · have hf := g_t cb hf
          refine lv_iconst (v := (0 : Int32)) C.x C.b dX9_isInForce_52 (by decide) ?_
          exact g_ezp C G hr hlocks hf rfl dX9_isInForce_53
        · have hf := g_f cb hf
          refine lv_iload_n C.x C.b dX9_isInForce_38 rfl (lv_at hl 3 rfl) ?_
          refine lv_aload_n C.x C.b dX9_isInForce_39 rfl (lv_at hl 0 rfl) ?_
          refine g_getr C G 9 0 17 57 hT rfl ginX9 (by decide) tw967 dX9_isInForce_40 (fun hL13 => ?_)
          refine lv_iload_n C.x C.b dX9_isInForce_43 rfl (lv_at hl 1 rfl) ?_
          obtain ⟨hi14, hf⟩ := g_ok hf
          refine g_iald (n := 20) C G 57 0 hL13 (by decide) rfl hi14 dX9_isInForce_44 ?_
          refine lv_icmp_ge (tgt := 52) C.x C.b dX9_isInForce_45 (by decide) (fun cb => ?_) (fun cb => ?_)
          · have hf := g_t cb hf
            refine lv_iconst (v := (0 : Int32)) C.x C.b dX9_isInForce_52 (by decide) ?_
            exact g_ezp C G hr hlocks hf rfl dX9_isInForce_53
          · have hf := g_f cb hf
            refine lv_iconst (v := (1 : Int32)) C.x C.b dX9_isInForce_48 (by decide) ?_
            refine lv_goto (tgt := 53) C.x C.b dX9_isInForce_49 (by decide) ?_
            exact g_ezp C G hr hlocks hf rfl dX9_isInForce_53
def f_X9_heldWithin_P36 (v5 : Int32) : Option Int32 := (if g_bo v5 then (some v5) else none)
def f_X9_heldWithin_L6 (ad : gA) (σ : gS) (a1 : Int32) (a2 : Int32) (a3 : Int32) (a4 : Int32) (K6 : Int32 → Option Int32) : Nat → Int32 → Int32 → Option Int32
  | 0, _, _ => none
  | n + 1, v5, v6 => (if a4 < v6 then (K6 v5) else (if v5 = 0 then ((f_X9_hasHeld ad σ a1 a2 (a3 - v6)).bind fun q1 => (f_X9_heldWithin_L6 ad σ a1 a2 a3 a4 K6 n q1 (v6 + (1 : Int32)))) else (K6 v5)))
def f_X9_heldWithin (ad : gA) (σ : gS) (a1 : Int32) (a2 : Int32) (a3 : Int32) (a4 : Int32) : Option Int32 := (f_X9_heldWithin_L6 ad σ a1 a2 a3 a4 (f_X9_heldWithin_P36) g_fuel (0 : Int32) (1 : Int32))
theorem hd_X9_heldWithin : yX9_heldWithin.cls ≠ "java/lang/invoke/MethodHandle" ∧ yX9_heldWithin.cls ≠ "java/lang/invoke/VarHandle" ∧ (parseMethodDescriptor yX9_heldWithin.desc).map (fun d => d.parameters.length) = some 4 := by decide +kernel
set_option maxHeartbeats 4000000 in
set_option maxRecDepth 100000 in
theorem c_X9_heldWithin (l : Launch) (D : va_G) (cy : Nat → ClassId) (A : Nat → Prop) (ad : gA) (L : gL)  (σ : gS) (hT : (9, 0) ∈ L) (a1 : Int32) (a2 : Int32) (a3 : Int32) (a4 : Int32) (r0 : Int32) (hf : f_X9_heldWithin ad σ a1 a2 a3 a4 = some r0) : g_Mi l yX9_heldWithin cX9_heldWithin 7 (some .boolean) ({ frames := 2, cells := 0, slots := 0, locals := 45 } : Room) D cy A ad L σ [.ref (ad 9 0), .int a1, .int a2, .int a3, .int a4] r0 σ := by
  refine g_met (by decide) (Nat.le_of_ble_eq_true rfl) (fun p e s m below meth c C hr hlocks hnm G ls hl => ?_)
  have hl : lv_has ls 7 [(0, .ref (ad 9 0)), (1, .int a1), (2, .int a2), (3, .int a3), (4, .int a4)] := hl
  have pt36 : ∀ (v5 : Int32) (H : Heap) (locs : List Loc) (ls : Array Slot), g_H D cy A ad L σ s.heap H locs → lv_has ls 7 [(5, .int v5)] → f_X9_heldWithin_P36 v5 = some r0 → g_Wi p l e ({ frames := 2, cells := 0, slots := 0, locals := 45 } : Room) s m below meth c H locs 0 0 D cy A ad L [.ref (ad 9 0), .int a1, .int a2, .int a3, .int a4] r0 σ (F0 m 36 ls []) := by
    intro v5 H locs ls G hl hf
    unfold f_X9_heldWithin_P36 at hf
    refine lv_iload C.x C.b dX9_heldWithin_36 (lv_at hl 0 rfl) ?_
    obtain ⟨hbo, hf⟩ := g_ok hf
    exact g_ezp C G hr hlocks hf (g_bo_fit hbo).1 dX9_heldWithin_38
  have lp6 : ∀ n6 : Nat, ∀ (v5 : Int32) (v6 : Int32) (H : Heap) (locs : List Loc) (ls : Array Slot), g_H D cy A ad L σ s.heap H locs → lv_has ls 7 [(0, .ref (ad 9 0)), (1, .int a1), (2, .int a2), (3, .int a3), (4, .int a4), (5, .int v5), (6, .int v6)] → f_X9_heldWithin_L6 ad σ a1 a2 a3 a4 (f_X9_heldWithin_P36) n6 v5 v6 = some r0 → g_Wi p l e ({ frames := 2, cells := 0, slots := 0, locals := 45 } : Room) s m below meth c H locs 0 0 D cy A ad L [.ref (ad 9 0), .int a1, .int a2, .int a3, .int a4] r0 σ (F0 m 6 ls []) := by
    intro n6
    induction n6 with
    | zero =>
      intro v5 v6 H locs ls G hl hf
      rw [f_X9_heldWithin_L6] at hf
      cases hf
    | succ n6 ih6 =>
      intro v5 v6 H locs ls G hl hf
      rw [f_X9_heldWithin_L6] at hf
      refine lv_iload C.x C.b dX9_heldWithin_6 (lv_at hl 6 rfl) ?_
      refine lv_iload C.x C.b dX9_heldWithin_8 (lv_at hl 4 rfl) ?_
      refine lv_icmp_gt (tgt := 36) C.x C.b dX9_heldWithin_10 (by decide) (fun cb => ?_) (fun cb => ?_)
      · have hf := g_t cb hf
        exact pt36 v5 _ _ ls G (lv_sub hl [5] rfl) hf
      · have hf := g_f cb hf
        refine lv_iload C.x C.b dX9_heldWithin_13 (lv_at hl 5 rfl) ?_
        refine lv_if_ne (tgt := 36) C.x C.b dX9_heldWithin_15 (by decide) (fun cb => ?_) (fun cb => ?_)
        · have hf := g_f cb hf
          exact pt36 v5 _ _ ls G (lv_sub hl [5] rfl) hf
        · have hf := g_t cb hf
          refine lv_aload_n C.x C.b dX9_heldWithin_18 rfl (lv_at hl 0 rfl) ?_
          refine lv_iload_n C.x C.b dX9_heldWithin_19 rfl (lv_at hl 1 rfl) ?_
          refine lv_iload_n C.x C.b dX9_heldWithin_20 rfl (lv_at hl 2 rfl) ?_
          refine lv_iload_n C.x C.b dX9_heldWithin_21 rfl (lv_at hl 3 rfl) ?_
          refine lv_iload C.x C.b dX9_heldWithin_22 (lv_at hl 6 rfl) ?_
          refine lv_isub C.x C.b dX9_heldWithin_24 ?_
          obtain ⟨q1, eq1, hf⟩ := g_b hf
          refine g_calli G (g_runV (As := [.int a1, .int a2, .int (a3 - v6)]) (rest := []) C G 9 0 (c_X9_hasHeld l D cy A ad L σ hT a1 a2 (a3 - v6) q1 eq1) ⟨tw1181, tw60, tw1178, ⟨tw1180, tw28⟩, hd_X9_hasHeld⟩ (by decide) hT rfl ⟨rfl, by decide⟩ hl.1 rfl (Nat.le_of_ble_eq_true rfl) dX9_heldWithin_25 ⟨Nat.le_of_ble_eq_true rfl, Nat.le_of_ble_eq_true rfl⟩) (fun H locs G => ?_)
          refine lv_istore (lv' := [(5, .int q1), (0, .ref (ad 9 0)), (1, .int a1), (2, .int a2), (3, .int a3), (4, .int a4), (6, .int v6)]) C.x C.b dX9_heldWithin_28 hl (by decide) rfl (fun ls hl => ?_)
          refine lv_iinc (v := (v6 + (1 : Int32))) (lv' := [(6, .int (v6 + (1 : Int32))), (5, .int q1), (0, .ref (ad 9 0)), (1, .int a1), (2, .int a2), (3, .int a3), (4, .int a4)]) C.x C.b dX9_heldWithin_30 hl (k := 6) rfl rfl (by decide) rfl (fun ls hl => ?_)
          refine lv_goto (tgt := 6) C.x C.b dX9_heldWithin_33 (by decide) ?_
          exact ih6 q1 (v6 + (1 : Int32)) _ _ ls G (lv_sub hl [2, 3, 4, 5, 6, 1, 0] rfl) hf
  unfold f_X9_heldWithin at hf
  refine lv_iconst (v := (0 : Int32)) C.x C.b dX9_heldWithin_0 (by decide) ?_
  refine lv_istore (lv' := [(5, .int (0 : Int32)), (0, .ref (ad 9 0)), (1, .int a1), (2, .int a2), (3, .int a3), (4, .int a4)]) C.x C.b dX9_heldWithin_1 hl (by decide) rfl (fun ls hl => ?_)
  refine lv_iconst (v := (1 : Int32)) C.x C.b dX9_heldWithin_3 (by decide) ?_
  refine lv_istore (lv' := [(6, .int (1 : Int32)), (5, .int (0 : Int32)), (0, .ref (ad 9 0)), (1, .int a1), (2, .int a2), (3, .int a3), (4, .int a4)]) C.x C.b dX9_heldWithin_4 hl (by decide) rfl (fun ls hl => ?_)
  exact lp6 g_fuel (0 : Int32) (1 : Int32) _ _ ls G (lv_sub hl [2, 3, 4, 5, 6, 1, 0] rfl) hf
def f_X9_bars (ad : gA) (σ : gS) (a1 : Int32) (a2 : Int32) (a3 : Int32) (a4 : Int32) : Option Int32 := (if g_ix a1 20 then (if (σ 53 0 a1.toNatClampNeg) = (0 : Int32) then (if g_ix a2 24 then (if g_ix a1 20 then (if (σ 55 0 a1.toNatClampNeg) ≤ (a4 - (σ 47 0 a2.toNatClampNeg)) then (some (0 : Int32)) else (some (1 : Int32))) else none) else none) else (if (σ 53 0 a1.toNatClampNeg) = (1 : Int32) then (if g_ix a1 20 then ((f_X9_heldWithin ad σ a2 (σ 55 0 a1.toNatClampNeg) a4 a4).bind fun q9 => (if q9 = 0 then (some (1 : Int32)) else (some (0 : Int32)))) else none) else (if (σ 53 0 a1.toNatClampNeg) = (2 : Int32) then (if g_ix a1 20 then ((f_X9_heldWithin ad σ a2 (-1 : Int32) a4 (σ 55 0 a1.toNatClampNeg)).bind fun q12 => (if g_bo q12 then (some q12) else none)) else none) else (if (σ 53 0 a1.toNatClampNeg) = (3 : Int32) then (if g_ix a1 20 then ((f_X9_heldWithin ad σ a2 a3 a4 (σ 55 0 a1.toNatClampNeg)).bind fun q15 => (if g_bo q15 then (some q15) else none)) else none) else (if (σ 53 0 a1.toNatClampNeg) = (4 : Int32) then (if g_ix a2 24 then (if g_ix a1 20 then (if (σ 46 0 a2.toNatClampNeg) = (σ 55 0 a1.toNatClampNeg) then (some (1 : Int32)) else (some (0 : Int32))) else none) else none) else ((f_X9_hasKin ad σ a2 a3 a4).bind fun q20 => (if g_bo q20 then (some q20) else none))))))) else none)
theorem hd_X9_bars : yX9_bars.cls ≠ "java/lang/invoke/MethodHandle" ∧ yX9_bars.cls ≠ "java/lang/invoke/VarHandle" ∧ (parseMethodDescriptor yX9_bars.desc).map (fun d => d.parameters.length) = some 4 := by decide +kernel
set_option maxHeartbeats 4000000 in
set_option maxRecDepth 100000 in
theorem c_X9_bars (l : Launch) (D : va_G) (cy : Nat → ClassId) (A : Nat → Prop) (ad : gA) (L : gL)  (σ : gS) (hT : (9, 0) ∈ L) (a1 : Int32) (a2 : Int32) (a3 : Int32) (a4 : Int32) (r0 : Int32) (hf : f_X9_bars ad σ a1 a2 a3 a4 = some r0) : g_Mi l yX9_bars cX9_bars 5 (some .boolean) ({ frames := 3, cells := 0, slots := 0, locals := 71 } : Room) D cy A ad L σ [.ref (ad 9 0), .int a1, .int a2, .int a3, .int a4] r0 σ := by
  refine g_met (by decide) (Nat.le_of_ble_eq_true rfl) (fun p e s m below meth c C hr hlocks hnm G ls hl => ?_)
  have hl : lv_has ls 5 [(0, .ref (ad 9 0)), (1, .int a1), (2, .int a2), (3, .int a3), (4, .int a4)] := hl
  unfold f_X9_bars at hf
  refine lv_aload_n C.x C.b dX9_bars_0 rfl (lv_at hl 0 rfl) ?_
  refine g_getr C G 9 0 13 53 hT rfl ginX9 (by decide) tw963 dX9_bars_1 (fun hL1 => ?_)
  refine lv_iload_n C.x C.b dX9_bars_4 rfl (lv_at hl 1 rfl) ?_
  obtain ⟨hi2, hf⟩ := g_ok hf
  refine g_iald (n := 20) C G 53 0 hL1 (by decide) rfl hi2 dX9_bars_5 ?_
  by_cases c0 : (σ 53 0 a1.toNatClampNeg) = (0 : Int32)
  · have hf := g_t c0 hf
    have e9 := g_swI c0 (show ((0 : Int32)).toInt = 0 from by decide)
    refine lv_tableIn (tgt := 40) C.x C.b dX9_bars_6 (by omega) (by omega) (by rw [e9]; rfl) (by decide) ?_
    refine lv_iload C.x C.b dX9_bars_40 (lv_at hl 4 rfl) ?_
    refine lv_aload_n C.x C.b dX9_bars_42 rfl (lv_at hl 0 rfl) ?_
    refine g_getr C G 9 0 7 47 hT rfl ginX9 (by decide) tw957 dX9_bars_43 (fun hL3 => ?_)
    refine lv_iload_n C.x C.b dX9_bars_46 rfl (lv_at hl 2 rfl) ?_
    obtain ⟨hi4, hf⟩ := g_ok hf
    refine g_iald (n := 24) C G 47 0 hL3 (by decide) rfl hi4 dX9_bars_47 ?_
    refine lv_isub C.x C.b dX9_bars_48 ?_
    refine lv_aload_n C.x C.b dX9_bars_49 rfl (lv_at hl 0 rfl) ?_
    refine g_getr C G 9 0 15 55 hT rfl ginX9 (by decide) tw965 dX9_bars_50 (fun hL5 => ?_)
    refine lv_iload_n C.x C.b dX9_bars_53 rfl (lv_at hl 1 rfl) ?_
    obtain ⟨hi6, hf⟩ := g_ok hf
    refine g_iald (n := 20) C G 55 0 hL5 (by decide) rfl hi6 dX9_bars_54 ?_
    refine lv_icmp_ge (tgt := 62) C.x C.b dX9_bars_55 (by decide) (fun cb => ?_) (fun cb => ?_)
    · have hf := g_t cb hf
      refine lv_iconst (v := (0 : Int32)) C.x C.b dX9_bars_62 (by decide) ?_
      exact g_ezp C G hr hlocks hf rfl dX9_bars_63
    · have hf := g_f cb hf
      refine lv_iconst (v := (1 : Int32)) C.x C.b dX9_bars_58 (by decide) ?_
      refine lv_goto (tgt := 63) C.x C.b dX9_bars_59 (by decide) ?_
      exact g_ezp C G hr hlocks hf rfl dX9_bars_63
  have hf := g_f c0 hf
  by_cases c1 : (σ 53 0 a1.toNatClampNeg) = (1 : Int32)
  · have hf := g_t c1 hf
    have e9 := g_swI c1 (show ((1 : Int32)).toInt = 1 from by decide)
    refine lv_tableIn (tgt := 64) C.x C.b dX9_bars_6 (by omega) (by omega) (by rw [e9]; rfl) (by decide) ?_
    refine lv_aload_n C.x C.b dX9_bars_64 rfl (lv_at hl 0 rfl) ?_
    refine lv_iload_n C.x C.b dX9_bars_65 rfl (lv_at hl 2 rfl) ?_
    refine lv_aload_n C.x C.b dX9_bars_66 rfl (lv_at hl 0 rfl) ?_
    refine g_getr C G 9 0 15 55 hT rfl ginX9 (by decide) tw965 dX9_bars_67 (fun hL7 => ?_)
    refine lv_iload_n C.x C.b dX9_bars_70 rfl (lv_at hl 1 rfl) ?_
    obtain ⟨hi8, hf⟩ := g_ok hf
    refine g_iald (n := 20) C G 55 0 hL7 (by decide) rfl hi8 dX9_bars_71 ?_
    refine lv_iload C.x C.b dX9_bars_72 (lv_at hl 4 rfl) ?_
    refine lv_iload C.x C.b dX9_bars_74 (lv_at hl 4 rfl) ?_
    obtain ⟨q9, eq9, hf⟩ := g_b hf
    refine g_calli G (g_runV (As := [.int a2, .int (σ 55 0 a1.toNatClampNeg), .int a4, .int a4]) (rest := []) C G 9 0 (c_X9_heldWithin l D cy A ad L σ hT a2 (σ 55 0 a1.toNatClampNeg) a4 a4 q9 eq9) ⟨tw1205, tw60, tw1202, ⟨tw1204, tw33⟩, hd_X9_heldWithin⟩ (by decide) hT rfl ⟨rfl, by decide⟩ hl.1 rfl (Nat.le_of_ble_eq_true rfl) dX9_bars_76 ⟨Nat.le_of_ble_eq_true rfl, Nat.le_of_ble_eq_true rfl⟩) (fun H locs G => ?_)
    refine lv_if_ne (tgt := 86) C.x C.b dX9_bars_79 (by decide) (fun cb => ?_) (fun cb => ?_)
    · have hf := g_f cb hf
      refine lv_iconst (v := (0 : Int32)) C.x C.b dX9_bars_86 (by decide) ?_
      exact g_ezp C G hr hlocks hf rfl dX9_bars_87
    · have hf := g_t cb hf
      refine lv_iconst (v := (1 : Int32)) C.x C.b dX9_bars_82 (by decide) ?_
      refine lv_goto (tgt := 87) C.x C.b dX9_bars_83 (by decide) ?_
      exact g_ezp C G hr hlocks hf rfl dX9_bars_87
  have hf := g_f c1 hf
  by_cases c2 : (σ 53 0 a1.toNatClampNeg) = (2 : Int32)
  · have hf := g_t c2 hf
    have e9 := g_swI c2 (show ((2 : Int32)).toInt = 2 from by decide)
    refine lv_tableIn (tgt := 88) C.x C.b dX9_bars_6 (by omega) (by omega) (by rw [e9]; rfl) (by decide) ?_
    refine lv_aload_n C.x C.b dX9_bars_88 rfl (lv_at hl 0 rfl) ?_
    refine lv_iload_n C.x C.b dX9_bars_89 rfl (lv_at hl 2 rfl) ?_
    refine lv_iconst (v := (-1 : Int32)) C.x C.b dX9_bars_90 (by decide) ?_
    refine lv_iload C.x C.b dX9_bars_91 (lv_at hl 4 rfl) ?_
    refine lv_aload_n C.x C.b dX9_bars_93 rfl (lv_at hl 0 rfl) ?_
    refine g_getr C G 9 0 15 55 hT rfl ginX9 (by decide) tw965 dX9_bars_94 (fun hL10 => ?_)
    refine lv_iload_n C.x C.b dX9_bars_97 rfl (lv_at hl 1 rfl) ?_
    obtain ⟨hi11, hf⟩ := g_ok hf
    refine g_iald (n := 20) C G 55 0 hL10 (by decide) rfl hi11 dX9_bars_98 ?_
    obtain ⟨q12, eq12, hf⟩ := g_b hf
    refine g_calli G (g_runV (As := [.int a2, .int (-1 : Int32), .int a4, .int (σ 55 0 a1.toNatClampNeg)]) (rest := []) C G 9 0 (c_X9_heldWithin l D cy A ad L σ hT a2 (-1 : Int32) a4 (σ 55 0 a1.toNatClampNeg) q12 eq12) ⟨tw1205, tw60, tw1202, ⟨tw1204, tw33⟩, hd_X9_heldWithin⟩ (by decide) hT rfl ⟨rfl, by decide⟩ hl.1 rfl (Nat.le_of_ble_eq_true rfl) dX9_bars_99 ⟨Nat.le_of_ble_eq_true rfl, Nat.le_of_ble_eq_true rfl⟩) (fun H locs G => ?_)
    obtain ⟨hbo, hf⟩ := g_ok hf
    exact g_ezp C G hr hlocks hf (g_bo_fit hbo).1 dX9_bars_102
  have hf := g_f c2 hf
  by_cases c3 : (σ 53 0 a1.toNatClampNeg) = (3 : Int32)
  · have hf := g_t c3 hf
    have e9 := g_swI c3 (show ((3 : Int32)).toInt = 3 from by decide)
    refine lv_tableIn (tgt := 103) C.x C.b dX9_bars_6 (by omega) (by omega) (by rw [e9]; rfl) (by decide) ?_
    refine lv_aload_n C.x C.b dX9_bars_103 rfl (lv_at hl 0 rfl) ?_
    refine lv_iload_n C.x C.b dX9_bars_104 rfl (lv_at hl 2 rfl) ?_
    refine lv_iload_n C.x C.b dX9_bars_105 rfl (lv_at hl 3 rfl) ?_
    refine lv_iload C.x C.b dX9_bars_106 (lv_at hl 4 rfl) ?_
    refine lv_aload_n C.x C.b dX9_bars_108 rfl (lv_at hl 0 rfl) ?_
    refine g_getr C G 9 0 15 55 hT rfl ginX9 (by decide) tw965 dX9_bars_109 (fun hL13 => ?_)
    refine lv_iload_n C.x C.b dX9_bars_112 rfl (lv_at hl 1 rfl) ?_
    obtain ⟨hi14, hf⟩ := g_ok hf
    refine g_iald (n := 20) C G 55 0 hL13 (by decide) rfl hi14 dX9_bars_113 ?_
    obtain ⟨q15, eq15, hf⟩ := g_b hf
    refine g_calli G (g_runV (As := [.int a2, .int a3, .int a4, .int (σ 55 0 a1.toNatClampNeg)]) (rest := []) C G 9 0 (c_X9_heldWithin l D cy A ad L σ hT a2 a3 a4 (σ 55 0 a1.toNatClampNeg) q15 eq15) ⟨tw1205, tw60, tw1202, ⟨tw1204, tw33⟩, hd_X9_heldWithin⟩ (by decide) hT rfl ⟨rfl, by decide⟩ hl.1 rfl (Nat.le_of_ble_eq_true rfl) dX9_bars_114 ⟨Nat.le_of_ble_eq_true rfl, Nat.le_of_ble_eq_true rfl⟩) (fun H locs G => ?_)
    obtain ⟨hbo, hf⟩ := g_ok hf
    exact g_ezp C G hr hlocks hf (g_bo_fit hbo).1 dX9_bars_117
  have hf := g_f c3 hf
  by_cases c4 : (σ 53 0 a1.toNatClampNeg) = (4 : Int32)
  · have hf := g_t c4 hf
    have e9 := g_swI c4 (show ((4 : Int32)).toInt = 4 from by decide)
    refine lv_tableIn (tgt := 118) C.x C.b dX9_bars_6 (by omega) (by omega) (by rw [e9]; rfl) (by decide) ?_
    refine lv_aload_n C.x C.b dX9_bars_118 rfl (lv_at hl 0 rfl) ?_
    refine g_getr C G 9 0 6 46 hT rfl ginX9 (by decide) tw956 dX9_bars_119 (fun hL16 => ?_)
    refine lv_iload_n C.x C.b dX9_bars_122 rfl (lv_at hl 2 rfl) ?_
    obtain ⟨hi17, hf⟩ := g_ok hf
    refine g_iald (n := 24) C G 46 0 hL16 (by decide) rfl hi17 dX9_bars_123 ?_
    refine lv_aload_n C.x C.b dX9_bars_124 rfl (lv_at hl 0 rfl) ?_
    refine g_getr C G 9 0 15 55 hT rfl ginX9 (by decide) tw965 dX9_bars_125 (fun hL18 => ?_)
    refine lv_iload_n C.x C.b dX9_bars_128 rfl (lv_at hl 1 rfl) ?_
    obtain ⟨hi19, hf⟩ := g_ok hf
    refine g_iald (n := 20) C G 55 0 hL18 (by decide) rfl hi19 dX9_bars_129 ?_
    refine lv_icmp_ne (tgt := 137) C.x C.b dX9_bars_130 (by decide) (fun cb => ?_) (fun cb => ?_)
    · have hf := g_f cb hf
      refine lv_iconst (v := (0 : Int32)) C.x C.b dX9_bars_137 (by decide) ?_
      exact g_ezp C G hr hlocks hf rfl dX9_bars_138
    · have hf := g_t cb hf
      refine lv_iconst (v := (1 : Int32)) C.x C.b dX9_bars_133 (by decide) ?_
      refine lv_goto (tgt := 138) C.x C.b dX9_bars_134 (by decide) ?_
      exact g_ezp C G hr hlocks hf rfl dX9_bars_138
  have hf := g_f c4 hf
  have n0 := lv_neT c0 (show ((0 : Int32)).toInt = 0 from by decide)
  have n1 := lv_neT c1 (show ((1 : Int32)).toInt = 1 from by decide)
  have n2 := lv_neT c2 (show ((2 : Int32)).toInt = 2 from by decide)
  have n3 := lv_neT c3 (show ((3 : Int32)).toInt = 3 from by decide)
  have n4 := lv_neT c4 (show ((4 : Int32)).toInt = 4 from by decide)
  refine lv_tableOut (tgt := 139) C.x C.b dX9_bars_6 (by omega) (by decide) ?_
  refine lv_aload_n C.x C.b dX9_bars_139 rfl (lv_at hl 0 rfl) ?_
  refine lv_iload_n C.x C.b dX9_bars_140 rfl (lv_at hl 2 rfl) ?_
  refine lv_iload_n C.x C.b dX9_bars_141 rfl (lv_at hl 3 rfl) ?_
  refine lv_iload C.x C.b dX9_bars_142 (lv_at hl 4 rfl) ?_
  obtain ⟨q20, eq20, hf⟩ := g_b hf
  refine g_calli G (g_runV (As := [.int a2, .int a3, .int a4]) (rest := []) C G 9 0 (c_X9_hasKin l D cy A ad L σ hT a2 a3 a4 q20 eq20) ⟨tw1209, tw60, tw1206, ⟨tw1208, tw34⟩, hd_X9_hasKin⟩ (by decide) hT rfl ⟨rfl, by decide⟩ hl.1 rfl (Nat.le_of_ble_eq_true rfl) dX9_bars_144 ⟨Nat.le_of_ble_eq_true rfl, Nat.le_of_ble_eq_true rfl⟩) (fun H locs G => ?_)
  obtain ⟨hbo, hf⟩ := g_ok hf
  exact g_ezp C G hr hlocks hf (g_bo_fit hbo).1 dX9_bars_147
def f_X9_barOf_P111  : Option Int32 := (some (-2 : Int32))
def f_X9_barOf_L70 (ad : gA) (σ : gS) (a1 : Int32) (a2 : Int32) (a3 : Int32) (K70 : Option Int32) : Nat → Int32 → Option Int32
  | 0, _ => none
  | n + 1, v4 => (if (σ 9 0 3) ≤ v4 then (K70) else ((f_X9_isInForce ad σ v4 a2 a3).bind fun q11 => (if q11 = 0 then (f_X9_barOf_L70 ad σ a1 a2 a3 K70 n (v4 + (1 : Int32))) else ((f_X9_bars ad σ v4 a1 a2 a3).bind fun q12 => (if q12 = 0 then (f_X9_barOf_L70 ad σ a1 a2 a3 K70 n (v4 + (1 : Int32))) else (some v4))))))
def f_X9_barOf_P49 (ad : gA) (σ : gS) (a1 : Int32) (a2 : Int32) (a3 : Int32) : Option Int32 := (if g_ix (((200 : Int32) * a1) + a3) 4800 then (if (σ 60 0 ((((200 : Int32) * a1) + a3).toNatClampNeg)) < 0 then (f_X9_barOf_L70 ad σ a1 a2 a3 (f_X9_barOf_P111) g_fuel (0 : Int32)) else (some (-7 : Int32))) else none)
def f_X9_barOf (ad : gA) (σ : gS) (a1 : Int32) (a2 : Int32) (a3 : Int32) : Option Int32 := (if g_ix a1 24 then (if a3 < (σ 50 0 a1.toNatClampNeg) then (if g_ix a1 24 then (if (σ 47 0 a1.toNatClampNeg) ≤ a3 then (if g_ix a1 24 then (if a3 < (σ 51 0 a1.toNatClampNeg) then (f_X9_barOf_P49 ad σ a1 a2 a3) else (if g_ix a1 24 then (if (σ 52 0 a1.toNatClampNeg) < a3 then (f_X9_barOf_P49 ad σ a1 a2 a3) else (some (-6 : Int32))) else none)) else none) else (some (-5 : Int32))) else none) else (some (-4 : Int32))) else none)
theorem hd_X9_barOf : yX9_barOf.cls ≠ "java/lang/invoke/MethodHandle" ∧ yX9_barOf.cls ≠ "java/lang/invoke/VarHandle" ∧ (parseMethodDescriptor yX9_barOf.desc).map (fun d => d.parameters.length) = some 3 := by decide +kernel
set_option maxHeartbeats 4000000 in
set_option maxRecDepth 100000 in
theorem c_X9_barOf (l : Launch) (D : va_G) (cy : Nat → ClassId) (A : Nat → Prop) (ad : gA) (L : gL)  (σ : gS) (hT : (9, 0) ∈ L) (a1 : Int32) (a2 : Int32) (a3 : Int32) (r0 : Int32) (hf : f_X9_barOf ad σ a1 a2 a3 = some r0) : g_Mi l yX9_barOf cX9_barOf 5 (some .int) ({ frames := 4, cells := 0, slots := 0, locals := 95 } : Room) D cy A ad L σ [.ref (ad 9 0), .int a1, .int a2, .int a3] r0 σ := by
  refine g_met (by decide) (Nat.le_of_ble_eq_true rfl) (fun p e s m below meth c C hr hlocks hnm G ls hl => ?_)
  have hl : lv_has ls 5 [(0, .ref (ad 9 0)), (1, .int a1), (2, .int a2), (3, .int a3)] := hl
  have pt111 : ∀ (H : Heap) (locs : List Loc) (ls : Array Slot), g_H D cy A ad L σ s.heap H locs → lv_has ls 5 [] → f_X9_barOf_P111  = some r0 → g_Wi p l e ({ frames := 4, cells := 0, slots := 0, locals := 95 } : Room) s m below meth c H locs 0 0 D cy A ad L [.ref (ad 9 0), .int a1, .int a2, .int a3] r0 σ (F0 m 111 ls []) := by
    intro H locs ls G hl hf
    unfold f_X9_barOf_P111 at hf
    refine lv_bipush (v := (-2 : Int32)) C.x C.b dX9_barOf_111 (by decide) ?_
    exact g_eip C G hr hlocks hf dX9_barOf_113
  have lp70 : ∀ n70 : Nat, ∀ (v4 : Int32) (H : Heap) (locs : List Loc) (ls : Array Slot), g_H D cy A ad L σ s.heap H locs → lv_has ls 5 [(0, .ref (ad 9 0)), (1, .int a1), (2, .int a2), (3, .int a3), (4, .int v4)] → f_X9_barOf_L70 ad σ a1 a2 a3 (f_X9_barOf_P111) n70 v4 = some r0 → g_Wi p l e ({ frames := 4, cells := 0, slots := 0, locals := 95 } : Room) s m below meth c H locs 0 0 D cy A ad L [.ref (ad 9 0), .int a1, .int a2, .int a3] r0 σ (F0 m 70 ls []) := by
    intro n70
    induction n70 with
    | zero =>
      intro v4 H locs ls G hl hf
      rw [f_X9_barOf_L70] at hf
      cases hf
    | succ n70 ih70 =>
      intro v4 H locs ls G hl hf
      rw [f_X9_barOf_L70] at hf
      refine lv_iload C.x C.b dX9_barOf_70 (lv_at hl 4 rfl) ?_
      refine lv_aload_n C.x C.b dX9_barOf_72 rfl (lv_at hl 0 rfl) ?_
      refine g_geti C G 9 0 3 hT rfl ginX9 (by decide) tw953 dX9_barOf_73 ?_
      refine lv_icmp_ge (tgt := 111) C.x C.b dX9_barOf_76 (by decide) (fun cb => ?_) (fun cb => ?_)
      · have hf := g_t cb hf
        exact pt111  _ _ ls G (lv_sub hl [] rfl) hf
      · have hf := g_f cb hf
        refine lv_aload_n C.x C.b dX9_barOf_79 rfl (lv_at hl 0 rfl) ?_
        refine lv_iload C.x C.b dX9_barOf_80 (lv_at hl 4 rfl) ?_
        refine lv_iload_n C.x C.b dX9_barOf_82 rfl (lv_at hl 2 rfl) ?_
        refine lv_iload_n C.x C.b dX9_barOf_83 rfl (lv_at hl 3 rfl) ?_
        obtain ⟨q11, eq11, hf⟩ := g_b hf
        refine g_calli G (g_runV (As := [.int v4, .int a2, .int a3]) (rest := []) C G 9 0 (c_X9_isInForce l D cy A ad L σ hT v4 a2 a3 q11 eq11) ⟨tw1197, tw60, tw1194, ⟨tw1196, tw31⟩, hd_X9_isInForce⟩ (by decide) hT rfl ⟨rfl, by decide⟩ hl.1 rfl (Nat.le_of_ble_eq_true rfl) dX9_barOf_84 ⟨Nat.le_of_ble_eq_true rfl, Nat.le_of_ble_eq_true rfl⟩) (fun H locs G => ?_)
        refine lv_if_eq (tgt := 105) C.x C.b dX9_barOf_87 (by decide) (fun cb => ?_) (fun cb => ?_)
        · have hf := g_t cb hf
          refine lv_iinc (v := (v4 + (1 : Int32))) (lv' := [(4, .int (v4 + (1 : Int32))), (0, .ref (ad 9 0)), (1, .int a1), (2, .int a2), (3, .int a3)]) C.x C.b dX9_barOf_105 hl (k := 4) rfl rfl (by decide) rfl (fun ls hl => ?_)
          refine lv_goto (tgt := 70) C.x C.b dX9_barOf_108 (by decide) ?_
          exact ih70 (v4 + (1 : Int32)) _ _ ls G (lv_sub hl [1, 2, 3, 4, 0] rfl) hf
        · have hf := g_f cb hf
          refine lv_aload_n C.x C.b dX9_barOf_90 rfl (lv_at hl 0 rfl) ?_
          refine lv_iload C.x C.b dX9_barOf_91 (lv_at hl 4 rfl) ?_
          refine lv_iload_n C.x C.b dX9_barOf_93 rfl (lv_at hl 1 rfl) ?_
          refine lv_iload_n C.x C.b dX9_barOf_94 rfl (lv_at hl 2 rfl) ?_
          refine lv_iload_n C.x C.b dX9_barOf_95 rfl (lv_at hl 3 rfl) ?_
          obtain ⟨q12, eq12, hf⟩ := g_b hf
          refine g_calli G (g_runV (As := [.int v4, .int a1, .int a2, .int a3]) (rest := []) C G 9 0 (c_X9_bars l D cy A ad L σ hT v4 a1 a2 a3 q12 eq12) ⟨tw1201, tw60, tw1198, ⟨tw1200, tw32⟩, hd_X9_bars⟩ (by decide) hT rfl ⟨rfl, by decide⟩ hl.1 rfl (Nat.le_of_ble_eq_true rfl) dX9_barOf_96 ⟨Nat.le_of_ble_eq_true rfl, Nat.le_of_ble_eq_true rfl⟩) (fun H locs G => ?_)
          refine lv_if_eq (tgt := 105) C.x C.b dX9_barOf_99 (by decide) (fun cb => ?_) (fun cb => ?_)
          · have hf := g_t cb hf
            refine lv_iinc (v := (v4 + (1 : Int32))) (lv' := [(4, .int (v4 + (1 : Int32))), (0, .ref (ad 9 0)), (1, .int a1), (2, .int a2), (3, .int a3)]) C.x C.b dX9_barOf_105 hl (k := 4) rfl rfl (by decide) rfl (fun ls hl => ?_)
            refine lv_goto (tgt := 70) C.x C.b dX9_barOf_108 (by decide) ?_
            exact ih70 (v4 + (1 : Int32)) _ _ ls G (lv_sub hl [1, 2, 3, 4, 0] rfl) hf
          · have hf := g_f cb hf
            refine lv_iload C.x C.b dX9_barOf_102 (lv_at hl 4 rfl) ?_
            exact g_eip C G hr hlocks hf dX9_barOf_104
  have pt49 : ∀ (H : Heap) (locs : List Loc) (ls : Array Slot), g_H D cy A ad L σ s.heap H locs → lv_has ls 5 [(0, .ref (ad 9 0)), (1, .int a1), (2, .int a2), (3, .int a3)] → f_X9_barOf_P49 ad σ a1 a2 a3  = some r0 → g_Wi p l e ({ frames := 4, cells := 0, slots := 0, locals := 95 } : Room) s m below meth c H locs 0 0 D cy A ad L [.ref (ad 9 0), .int a1, .int a2, .int a3] r0 σ (F0 m 49 ls []) := by
    intro H locs ls G hl hf
    unfold f_X9_barOf_P49 at hf
    refine lv_aload_n C.x C.b dX9_barOf_49 rfl (lv_at hl 0 rfl) ?_
    refine g_getr C G 9 0 20 60 hT rfl ginX9 (by decide) tw970 dX9_barOf_50 (fun hL9 => ?_)
    refine lv_sipush (v := (200 : Int32)) C.x C.b dX9_barOf_53 (by decide) ?_
    refine lv_iload_n C.x C.b dX9_barOf_56 rfl (lv_at hl 1 rfl) ?_
    refine lv_imul C.x C.b dX9_barOf_57 ?_
    refine lv_iload_n C.x C.b dX9_barOf_58 rfl (lv_at hl 3 rfl) ?_
    refine lv_iadd C.x C.b dX9_barOf_59 ?_
    obtain ⟨hi10, hf⟩ := g_ok hf
    refine g_iald (n := 4800) C G 60 0 hL9 (by decide) rfl hi10 dX9_barOf_60 ?_
    refine lv_if_lt (tgt := 67) C.x C.b dX9_barOf_61 (by decide) (fun cb => ?_) (fun cb => ?_)
    · have hf := g_t cb hf
      refine lv_iconst (v := (0 : Int32)) C.x C.b dX9_barOf_67 (by decide) ?_
      refine lv_istore (lv' := [(4, .int (0 : Int32)), (0, .ref (ad 9 0)), (1, .int a1), (2, .int a2), (3, .int a3)]) C.x C.b dX9_barOf_68 hl (by decide) rfl (fun ls hl => ?_)
      exact lp70 g_fuel (0 : Int32) _ _ ls G (lv_sub hl [1, 2, 3, 4, 0] rfl) hf
    · have hf := g_f cb hf
      refine lv_bipush (v := (-7 : Int32)) C.x C.b dX9_barOf_64 (by decide) ?_
      exact g_eip C G hr hlocks hf dX9_barOf_66
  unfold f_X9_barOf at hf
  refine lv_iload_n C.x C.b dX9_barOf_0 rfl (lv_at hl 3 rfl) ?_
  refine lv_aload_n C.x C.b dX9_barOf_1 rfl (lv_at hl 0 rfl) ?_
  refine g_getr C G 9 0 10 50 hT rfl ginX9 (by decide) tw960 dX9_barOf_2 (fun hL1 => ?_)
  refine lv_iload_n C.x C.b dX9_barOf_5 rfl (lv_at hl 1 rfl) ?_
  obtain ⟨hi2, hf⟩ := g_ok hf
  refine g_iald (n := 24) C G 50 0 hL1 (by decide) rfl hi2 dX9_barOf_6 ?_
  refine lv_icmp_lt (tgt := 13) C.x C.b dX9_barOf_7 (by decide) (fun cb => ?_) (fun cb => ?_)
  · have hf := g_t cb hf
    refine lv_iload_n C.x C.b dX9_barOf_13 rfl (lv_at hl 3 rfl) ?_
    refine lv_aload_n C.x C.b dX9_barOf_14 rfl (lv_at hl 0 rfl) ?_
    refine g_getr C G 9 0 7 47 hT rfl ginX9 (by decide) tw957 dX9_barOf_15 (fun hL3 => ?_)
    refine lv_iload_n C.x C.b dX9_barOf_18 rfl (lv_at hl 1 rfl) ?_
    obtain ⟨hi4, hf⟩ := g_ok hf
    refine g_iald (n := 24) C G 47 0 hL3 (by decide) rfl hi4 dX9_barOf_19 ?_
    refine lv_icmp_ge (tgt := 26) C.x C.b dX9_barOf_20 (by decide) (fun cb => ?_) (fun cb => ?_)
    · have hf := g_t cb hf
      refine lv_iload_n C.x C.b dX9_barOf_26 rfl (lv_at hl 3 rfl) ?_
      refine lv_aload_n C.x C.b dX9_barOf_27 rfl (lv_at hl 0 rfl) ?_
      refine g_getr C G 9 0 11 51 hT rfl ginX9 (by decide) tw961 dX9_barOf_28 (fun hL5 => ?_)
      refine lv_iload_n C.x C.b dX9_barOf_31 rfl (lv_at hl 1 rfl) ?_
      obtain ⟨hi6, hf⟩ := g_ok hf
      refine g_iald (n := 24) C G 51 0 hL5 (by decide) rfl hi6 dX9_barOf_32 ?_
      refine lv_icmp_lt (tgt := 49) C.x C.b dX9_barOf_33 (by decide) (fun cb => ?_) (fun cb => ?_)
      · have hf := g_t cb hf
        exact pt49  _ _ ls G (lv_sub hl [0, 1, 2, 3] rfl) hf
      · have hf := g_f cb hf
        refine lv_iload_n C.x C.b dX9_barOf_36 rfl (lv_at hl 3 rfl) ?_
        refine lv_aload_n C.x C.b dX9_barOf_37 rfl (lv_at hl 0 rfl) ?_
        refine g_getr C G 9 0 12 52 hT rfl ginX9 (by decide) tw962 dX9_barOf_38 (fun hL7 => ?_)
        refine lv_iload_n C.x C.b dX9_barOf_41 rfl (lv_at hl 1 rfl) ?_
        obtain ⟨hi8, hf⟩ := g_ok hf
        refine g_iald (n := 24) C G 52 0 hL7 (by decide) rfl hi8 dX9_barOf_42 ?_
        refine lv_icmp_gt (tgt := 49) C.x C.b dX9_barOf_43 (by decide) (fun cb => ?_) (fun cb => ?_)
        · have hf := g_t cb hf
          exact pt49  _ _ ls G (lv_sub hl [0, 1, 2, 3] rfl) hf
        · have hf := g_f cb hf
          refine lv_bipush (v := (-6 : Int32)) C.x C.b dX9_barOf_46 (by decide) ?_
          exact g_eip C G hr hlocks hf dX9_barOf_48
    · have hf := g_f cb hf
      refine lv_bipush (v := (-5 : Int32)) C.x C.b dX9_barOf_23 (by decide) ?_
      exact g_eip C G hr hlocks hf dX9_barOf_25
  · have hf := g_f cb hf
    refine lv_bipush (v := (-4 : Int32)) C.x C.b dX9_barOf_10 (by decide) ?_
    exact g_eip C G hr hlocks hf dX9_barOf_12
def f_X9_couldBe_P77 (v4 : Int32) : Option Int32 := (some v4)
def f_X9_couldBe_L20 (ad : gA) (σ : gS) (a1 : Int32) (a2 : Int32) (a3 : Int32) (K20 : Int32 → Option Int32) : Nat → Int32 → Int32 → Option Int32
  | 0, _, _ => none
  | n + 1, v4, v5 => (if (σ 9 0 3) ≤ v5 then (K20 v4) else ((f_X9_isInForce ad σ v5 a2 a3).bind fun q2 => (if q2 = 0 then (f_X9_couldBe_L20 ad σ a1 a2 a3 K20 n v4 (v5 + (1 : Int32))) else (if g_ix v5 20 then (if (σ 53 0 v5.toNatClampNeg) = 0 then (if g_ix a1 24 then (if g_ix v5 20 then (if (σ 55 0 v5.toNatClampNeg) ≤ (a3 - (σ 48 0 a1.toNatClampNeg)) then (f_X9_couldBe_L20 ad σ a1 a2 a3 K20 n v4 (v5 + (1 : Int32))) else (f_X9_couldBe_L20 ad σ a1 a2 a3 K20 n (1 : Int32) (v5 + (1 : Int32)))) else none) else none) else (f_X9_couldBe_L20 ad σ a1 a2 a3 K20 n v4 (v5 + (1 : Int32)))) else none))))
def f_X9_couldBe (ad : gA) (σ : gS) (a1 : Int32) (a2 : Int32) (a3 : Int32) : Option Int32 := ((f_X9_barOf ad σ a1 a2 a3).bind fun q1 => (if q1 = (-2 : Int32) then (f_X9_couldBe_L20 ad σ a1 a2 a3 (f_X9_couldBe_P77) g_fuel (2 : Int32) (0 : Int32)) else (some (0 : Int32))))
theorem hd_X9_couldBe : yX9_couldBe.cls ≠ "java/lang/invoke/MethodHandle" ∧ yX9_couldBe.cls ≠ "java/lang/invoke/VarHandle" ∧ (parseMethodDescriptor yX9_couldBe.desc).map (fun d => d.parameters.length) = some 3 := by decide +kernel
set_option maxHeartbeats 4000000 in
set_option maxRecDepth 100000 in
theorem c_X9_couldBe (l : Launch) (D : va_G) (cy : Nat → ClassId) (A : Nat → Prop) (ad : gA) (L : gL)  (σ : gS) (hT : (9, 0) ∈ L) (a1 : Int32) (a2 : Int32) (a3 : Int32) (r0 : Int32) (hf : f_X9_couldBe ad σ a1 a2 a3 = some r0) : g_Mi l yX9_couldBe cX9_couldBe 6 (some .int) ({ frames := 5, cells := 0, slots := 0, locals := 119 } : Room) D cy A ad L σ [.ref (ad 9 0), .int a1, .int a2, .int a3] r0 σ := by
  refine g_met (by decide) (Nat.le_of_ble_eq_true rfl) (fun p e s m below meth c C hr hlocks hnm G ls hl => ?_)
  have hl : lv_has ls 6 [(0, .ref (ad 9 0)), (1, .int a1), (2, .int a2), (3, .int a3)] := hl
  have pt77 : ∀ (v4 : Int32) (H : Heap) (locs : List Loc) (ls : Array Slot), g_H D cy A ad L σ s.heap H locs → lv_has ls 6 [(4, .int v4)] → f_X9_couldBe_P77 v4 = some r0 → g_Wi p l e ({ frames := 5, cells := 0, slots := 0, locals := 119 } : Room) s m below meth c H locs 0 0 D cy A ad L [.ref (ad 9 0), .int a1, .int a2, .int a3] r0 σ (F0 m 77 ls []) := by
    intro v4 H locs ls G hl hf
    unfold f_X9_couldBe_P77 at hf
    refine lv_iload C.x C.b dX9_couldBe_77 (lv_at hl 0 rfl) ?_
    exact g_eip C G hr hlocks hf dX9_couldBe_79
  have lp20 : ∀ n20 : Nat, ∀ (v4 : Int32) (v5 : Int32) (H : Heap) (locs : List Loc) (ls : Array Slot), g_H D cy A ad L σ s.heap H locs → lv_has ls 6 [(0, .ref (ad 9 0)), (1, .int a1), (2, .int a2), (3, .int a3), (4, .int v4), (5, .int v5)] → f_X9_couldBe_L20 ad σ a1 a2 a3 (f_X9_couldBe_P77) n20 v4 v5 = some r0 → g_Wi p l e ({ frames := 5, cells := 0, slots := 0, locals := 119 } : Room) s m below meth c H locs 0 0 D cy A ad L [.ref (ad 9 0), .int a1, .int a2, .int a3] r0 σ (F0 m 20 ls []) := by
    intro n20
    induction n20 with
    | zero =>
      intro v4 v5 H locs ls G hl hf
      rw [f_X9_couldBe_L20] at hf
      cases hf
    | succ n20 ih20 =>
      intro v4 v5 H locs ls G hl hf
      rw [f_X9_couldBe_L20] at hf
      refine lv_iload C.x C.b dX9_couldBe_20 (lv_at hl 5 rfl) ?_
      refine lv_aload_n C.x C.b dX9_couldBe_22 rfl (lv_at hl 0 rfl) ?_
      refine g_geti C G 9 0 3 hT rfl ginX9 (by decide) tw953 dX9_couldBe_23 ?_
      refine lv_icmp_ge (tgt := 77) C.x C.b dX9_couldBe_26 (by decide) (fun cb => ?_) (fun cb => ?_)
      · have hf := g_t cb hf
        exact pt77 v4 _ _ ls G (lv_sub hl [4] rfl) hf
      · have hf := g_f cb hf
        refine lv_aload_n C.x C.b dX9_couldBe_29 rfl (lv_at hl 0 rfl) ?_
        refine lv_iload C.x C.b dX9_couldBe_30 (lv_at hl 5 rfl) ?_
        refine lv_iload_n C.x C.b dX9_couldBe_32 rfl (lv_at hl 2 rfl) ?_
        refine lv_iload_n C.x C.b dX9_couldBe_33 rfl (lv_at hl 3 rfl) ?_
        obtain ⟨q2, eq2, hf⟩ := g_b hf
        refine g_calli G (g_runV (As := [.int v5, .int a2, .int a3]) (rest := []) C G 9 0 (c_X9_isInForce l D cy A ad L σ hT v5 a2 a3 q2 eq2) ⟨tw1197, tw60, tw1194, ⟨tw1196, tw31⟩, hd_X9_isInForce⟩ (by decide) hT rfl ⟨rfl, by decide⟩ hl.1 rfl (Nat.le_of_ble_eq_true rfl) dX9_couldBe_34 ⟨Nat.le_of_ble_eq_true rfl, Nat.le_of_ble_eq_true rfl⟩) (fun H locs G => ?_)
        refine lv_if_eq (tgt := 71) C.x C.b dX9_couldBe_37 (by decide) (fun cb => ?_) (fun cb => ?_)
        · have hf := g_t cb hf
          refine lv_iinc (v := (v5 + (1 : Int32))) (lv' := [(5, .int (v5 + (1 : Int32))), (0, .ref (ad 9 0)), (1, .int a1), (2, .int a2), (3, .int a3), (4, .int v4)]) C.x C.b dX9_couldBe_71 hl (k := 5) rfl rfl (by decide) rfl (fun ls hl => ?_)
          refine lv_goto (tgt := 20) C.x C.b dX9_couldBe_74 (by decide) ?_
          exact ih20 v4 (v5 + (1 : Int32)) _ _ ls G (lv_sub hl [1, 2, 3, 4, 5, 0] rfl) hf
        · have hf := g_f cb hf
          refine lv_aload_n C.x C.b dX9_couldBe_40 rfl (lv_at hl 0 rfl) ?_
          refine g_getr C G 9 0 13 53 hT rfl ginX9 (by decide) tw963 dX9_couldBe_41 (fun hL3 => ?_)
          refine lv_iload C.x C.b dX9_couldBe_44 (lv_at hl 5 rfl) ?_
          obtain ⟨hi4, hf⟩ := g_ok hf
          refine g_iald (n := 20) C G 53 0 hL3 (by decide) rfl hi4 dX9_couldBe_46 ?_
          refine lv_if_ne (tgt := 71) C.x C.b dX9_couldBe_47 (by decide) (fun cb => ?_) (fun cb => ?_)
          · have hf := g_f cb hf
            refine lv_iinc (v := (v5 + (1 : Int32))) (lv' := [(5, .int (v5 + (1 : Int32))), (0, .ref (ad 9 0)), (1, .int a1), (2, .int a2), (3, .int a3), (4, .int v4)]) C.x C.b dX9_couldBe_71 hl (k := 5) rfl rfl (by decide) rfl (fun ls hl => ?_)
            refine lv_goto (tgt := 20) C.x C.b dX9_couldBe_74 (by decide) ?_
            exact ih20 v4 (v5 + (1 : Int32)) _ _ ls G (lv_sub hl [1, 2, 3, 4, 5, 0] rfl) hf
          · have hf := g_t cb hf
            refine lv_iload_n C.x C.b dX9_couldBe_50 rfl (lv_at hl 3 rfl) ?_
            refine lv_aload_n C.x C.b dX9_couldBe_51 rfl (lv_at hl 0 rfl) ?_
            refine g_getr C G 9 0 8 48 hT rfl ginX9 (by decide) tw958 dX9_couldBe_52 (fun hL5 => ?_)
            refine lv_iload_n C.x C.b dX9_couldBe_55 rfl (lv_at hl 1 rfl) ?_
            obtain ⟨hi6, hf⟩ := g_ok hf
            refine g_iald (n := 24) C G 48 0 hL5 (by decide) rfl hi6 dX9_couldBe_56 ?_
            refine lv_isub C.x C.b dX9_couldBe_57 ?_
            refine lv_aload_n C.x C.b dX9_couldBe_58 rfl (lv_at hl 0 rfl) ?_
            refine g_getr C G 9 0 15 55 hT rfl ginX9 (by decide) tw965 dX9_couldBe_59 (fun hL7 => ?_)
            refine lv_iload C.x C.b dX9_couldBe_62 (lv_at hl 5 rfl) ?_
            obtain ⟨hi8, hf⟩ := g_ok hf
            refine g_iald (n := 20) C G 55 0 hL7 (by decide) rfl hi8 dX9_couldBe_64 ?_
            refine lv_icmp_ge (tgt := 71) C.x C.b dX9_couldBe_65 (by decide) (fun cb => ?_) (fun cb => ?_)
            · have hf := g_t cb hf
              refine lv_iinc (v := (v5 + (1 : Int32))) (lv' := [(5, .int (v5 + (1 : Int32))), (0, .ref (ad 9 0)), (1, .int a1), (2, .int a2), (3, .int a3), (4, .int v4)]) C.x C.b dX9_couldBe_71 hl (k := 5) rfl rfl (by decide) rfl (fun ls hl => ?_)
              refine lv_goto (tgt := 20) C.x C.b dX9_couldBe_74 (by decide) ?_
              exact ih20 v4 (v5 + (1 : Int32)) _ _ ls G (lv_sub hl [1, 2, 3, 4, 5, 0] rfl) hf
            · have hf := g_f cb hf
              refine lv_iconst (v := (1 : Int32)) C.x C.b dX9_couldBe_68 (by decide) ?_
              refine lv_istore (lv' := [(4, .int (1 : Int32)), (0, .ref (ad 9 0)), (1, .int a1), (2, .int a2), (3, .int a3), (5, .int v5)]) C.x C.b dX9_couldBe_69 hl (by decide) rfl (fun ls hl => ?_)
              refine lv_iinc (v := (v5 + (1 : Int32))) (lv' := [(5, .int (v5 + (1 : Int32))), (4, .int (1 : Int32)), (0, .ref (ad 9 0)), (1, .int a1), (2, .int a2), (3, .int a3)]) C.x C.b dX9_couldBe_71 hl (k := 5) rfl rfl (by decide) rfl (fun ls hl => ?_)
              refine lv_goto (tgt := 20) C.x C.b dX9_couldBe_74 (by decide) ?_
              exact ih20 (1 : Int32) (v5 + (1 : Int32)) _ _ ls G (lv_sub hl [2, 3, 4, 5, 1, 0] rfl) hf
  unfold f_X9_couldBe at hf
  refine lv_aload_n C.x C.b dX9_couldBe_0 rfl (lv_at hl 0 rfl) ?_
  refine lv_iload_n C.x C.b dX9_couldBe_1 rfl (lv_at hl 1 rfl) ?_
  refine lv_iload_n C.x C.b dX9_couldBe_2 rfl (lv_at hl 2 rfl) ?_
  refine lv_iload_n C.x C.b dX9_couldBe_3 rfl (lv_at hl 3 rfl) ?_
  obtain ⟨q1, eq1, hf⟩ := g_b hf
  refine g_calli G (g_runV (As := [.int a1, .int a2, .int a3]) (rest := []) C G 9 0 (c_X9_barOf l D cy A ad L σ hT a1 a2 a3 q1 eq1) ⟨tw1193, tw60, tw1190, ⟨tw1192, tw30⟩, hd_X9_barOf⟩ (by decide) hT rfl ⟨rfl, by decide⟩ hl.1 rfl (Nat.le_of_ble_eq_true rfl) dX9_couldBe_4 ⟨Nat.le_of_ble_eq_true rfl, Nat.le_of_ble_eq_true rfl⟩) (fun H locs G => ?_)
  refine lv_bipush (v := (-2 : Int32)) C.x C.b dX9_couldBe_7 (by decide) ?_
  refine lv_icmp_eq (tgt := 14) C.x C.b dX9_couldBe_9 (by decide) (fun cb => ?_) (fun cb => ?_)
  · have hf := g_t cb hf
    refine lv_iconst (v := (2 : Int32)) C.x C.b dX9_couldBe_14 (by decide) ?_
    refine lv_istore (lv' := [(4, .int (2 : Int32)), (0, .ref (ad 9 0)), (1, .int a1), (2, .int a2), (3, .int a3)]) C.x C.b dX9_couldBe_15 hl (by decide) rfl (fun ls hl => ?_)
    refine lv_iconst (v := (0 : Int32)) C.x C.b dX9_couldBe_17 (by decide) ?_
    refine lv_istore (lv' := [(5, .int (0 : Int32)), (4, .int (2 : Int32)), (0, .ref (ad 9 0)), (1, .int a1), (2, .int a2), (3, .int a3)]) C.x C.b dX9_couldBe_18 hl (by decide) rfl (fun ls hl => ?_)
    exact lp20 g_fuel (2 : Int32) (0 : Int32) _ _ ls G (lv_sub hl [2, 3, 4, 5, 1, 0] rfl) hf
  · have hf := g_f cb hf
    refine lv_iconst (v := (0 : Int32)) C.x C.b dX9_couldBe_12 (by decide) ?_
    exact g_eip C G hr hlocks hf dX9_couldBe_13
def f_X9_could (ad : gA) (σ : gS) (a1 : Int32) (a2 : Int32) (a3 : Int32) (a4 : Int32) : Option Int32 := ((f_X9_isPerson ad σ a1).bind fun q1 => (if q1 = 0 then (some (-1 : Int32)) else ((f_X9_isOffice ad σ a2).bind fun q2 => (if q2 = 0 then (some (-1 : Int32)) else ((f_X9_isYear ad σ a3).bind fun q3 => (if q3 = 0 then (some (-1 : Int32)) else ((f_X9_in ad σ a4 (0 : Int32) (1 : Int32)).bind fun q4 => (if q4 = 0 then (some (-1 : Int32)) else (if a4 = 0 then ((f_X9_couldBe ad σ a1 a2 a3).bind fun q6 => (some q6)) else ((f_X9_barOf ad σ a1 a2 a3).bind fun q5 => (some q5)))))))))))
theorem hd_X9_could : yX9_could.cls ≠ "java/lang/invoke/MethodHandle" ∧ yX9_could.cls ≠ "java/lang/invoke/VarHandle" ∧ (parseMethodDescriptor yX9_could.desc).map (fun d => d.parameters.length) = some 4 := by decide +kernel
set_option maxHeartbeats 4000000 in
set_option maxRecDepth 100000 in
theorem c_X9_could (l : Launch) (D : va_G) (cy : Nat → ClassId) (A : Nat → Prop) (ad : gA) (L : gL)  (σ : gS) (hT : (9, 0) ∈ L) (a1 : Int32) (a2 : Int32) (a3 : Int32) (a4 : Int32) (r0 : Int32) (hf : f_X9_could ad σ a1 a2 a3 a4 = some r0) : g_Mi l yX9_could cX9_could 5 (some .int) ({ frames := 6, cells := 0, slots := 0, locals := 144 } : Room) D cy A ad L σ [.ref (ad 9 0), .int a1, .int a2, .int a3, .int a4] r0 σ := by
  refine g_met (by decide) (Nat.le_of_ble_eq_true rfl) (fun p e s m below meth c C hr hlocks hnm G ls hl => ?_)
  have hl : lv_has ls 5 [(0, .ref (ad 9 0)), (1, .int a1), (2, .int a2), (3, .int a3), (4, .int a4)] := hl
  unfold f_X9_could at hf
  refine lv_aload_n C.x C.b dX9_could_0 rfl (lv_at hl 0 rfl) ?_
  refine lv_iload_n C.x C.b dX9_could_1 rfl (lv_at hl 1 rfl) ?_
  obtain ⟨q1, eq1, hf⟩ := g_b hf
  refine g_calli G (g_runV (As := [.int a1]) (rest := []) C G 9 0 (c_X9_isPerson l D cy A ad L σ hT a1 q1 eq1) ⟨tw1109, tw60, tw1106, ⟨tw1108, tw20⟩, hd_X9_isPerson⟩ (by decide) hT rfl ⟨rfl, by decide⟩ hl.1 rfl (Nat.le_of_ble_eq_true rfl) dX9_could_2 ⟨Nat.le_of_ble_eq_true rfl, Nat.le_of_ble_eq_true rfl⟩) (fun H locs G => ?_)
  refine lv_if_eq (tgt := 35) C.x C.b dX9_could_5 (by decide) (fun cb => ?_) (fun cb => ?_)
  · have hf := g_t cb hf
    refine lv_iconst (v := (-1 : Int32)) C.x C.b dX9_could_35 (by decide) ?_
    exact g_eip C G hr hlocks hf dX9_could_36
  · have hf := g_f cb hf
    refine lv_aload_n C.x C.b dX9_could_8 rfl (lv_at hl 0 rfl) ?_
    refine lv_iload_n C.x C.b dX9_could_9 rfl (lv_at hl 2 rfl) ?_
    obtain ⟨q2, eq2, hf⟩ := g_b hf
    refine g_calli G (g_runV (As := [.int a2]) (rest := []) C G 9 0 (c_X9_isOffice l D cy A ad L σ hT a2 q2 eq2) ⟨tw1129, tw60, tw1126, ⟨tw1128, tw22⟩, hd_X9_isOffice⟩ (by decide) hT rfl ⟨rfl, by decide⟩ hl.1 rfl (Nat.le_of_ble_eq_true rfl) dX9_could_10 ⟨Nat.le_of_ble_eq_true rfl, Nat.le_of_ble_eq_true rfl⟩) (fun H locs G => ?_)
    refine lv_if_eq (tgt := 35) C.x C.b dX9_could_13 (by decide) (fun cb => ?_) (fun cb => ?_)
    · have hf := g_t cb hf
      refine lv_iconst (v := (-1 : Int32)) C.x C.b dX9_could_35 (by decide) ?_
      exact g_eip C G hr hlocks hf dX9_could_36
    · have hf := g_f cb hf
      refine lv_aload_n C.x C.b dX9_could_16 rfl (lv_at hl 0 rfl) ?_
      refine lv_iload_n C.x C.b dX9_could_17 rfl (lv_at hl 3 rfl) ?_
      obtain ⟨q3, eq3, hf⟩ := g_b hf
      refine g_calli G (g_runV (As := [.int a3]) (rest := []) C G 9 0 (c_X9_isYear l D cy A ad L σ hT a3 q3 eq3) ⟨tw1117, tw60, tw1114, ⟨tw1116, tw21⟩, hd_X9_isYear⟩ (by decide) hT rfl ⟨rfl, by decide⟩ hl.1 rfl (Nat.le_of_ble_eq_true rfl) dX9_could_18 ⟨Nat.le_of_ble_eq_true rfl, Nat.le_of_ble_eq_true rfl⟩) (fun H locs G => ?_)
      refine lv_if_eq (tgt := 35) C.x C.b dX9_could_21 (by decide) (fun cb => ?_) (fun cb => ?_)
      · have hf := g_t cb hf
        refine lv_iconst (v := (-1 : Int32)) C.x C.b dX9_could_35 (by decide) ?_
        exact g_eip C G hr hlocks hf dX9_could_36
      · have hf := g_f cb hf
        refine lv_aload_n C.x C.b dX9_could_24 rfl (lv_at hl 0 rfl) ?_
        refine lv_iload C.x C.b dX9_could_25 (lv_at hl 4 rfl) ?_
        refine lv_iconst (v := (0 : Int32)) C.x C.b dX9_could_27 (by decide) ?_
        refine lv_iconst (v := (1 : Int32)) C.x C.b dX9_could_28 (by decide) ?_
        obtain ⟨q4, eq4, hf⟩ := g_b hf
        refine g_calli G (g_runV (As := [.int a4, .int (0 : Int32), .int (1 : Int32)]) (rest := []) C G 9 0 (c_X9_in l D cy A ad L σ hT a4 (0 : Int32) (1 : Int32) q4 eq4) ⟨tw1093, tw60, tw1090, ⟨tw1092, tw18⟩, hd_X9_in⟩ (by decide) hT rfl ⟨rfl, by decide⟩ hl.1 rfl (Nat.le_of_ble_eq_true rfl) dX9_could_29 ⟨Nat.le_of_ble_eq_true rfl, Nat.le_of_ble_eq_true rfl⟩) (fun H locs G => ?_)
        refine lv_if_ne (tgt := 37) C.x C.b dX9_could_32 (by decide) (fun cb => ?_) (fun cb => ?_)
        · have hf := g_f cb hf
          refine lv_iload C.x C.b dX9_could_37 (lv_at hl 4 rfl) ?_
          refine lv_if_ne (tgt := 52) C.x C.b dX9_could_39 (by decide) (fun cb => ?_) (fun cb => ?_)
          · have hf := g_f cb hf
            refine lv_aload_n C.x C.b dX9_could_52 rfl (lv_at hl 0 rfl) ?_
            refine lv_iload_n C.x C.b dX9_could_53 rfl (lv_at hl 1 rfl) ?_
            refine lv_iload_n C.x C.b dX9_could_54 rfl (lv_at hl 2 rfl) ?_
            refine lv_iload_n C.x C.b dX9_could_55 rfl (lv_at hl 3 rfl) ?_
            obtain ⟨q5, eq5, hf⟩ := g_b hf
            refine g_calli G (g_runV (As := [.int a1, .int a2, .int a3]) (rest := []) C G 9 0 (c_X9_barOf l D cy A ad L σ hT a1 a2 a3 q5 eq5) ⟨tw1193, tw60, tw1190, ⟨tw1192, tw30⟩, hd_X9_barOf⟩ (by decide) hT rfl ⟨rfl, by decide⟩ hl.1 rfl (Nat.le_of_ble_eq_true rfl) dX9_could_56 ⟨Nat.le_of_ble_eq_true rfl, Nat.le_of_ble_eq_true rfl⟩) (fun H locs G => ?_)
            exact g_eip C G hr hlocks hf dX9_could_59
          · have hf := g_t cb hf
            refine lv_aload_n C.x C.b dX9_could_42 rfl (lv_at hl 0 rfl) ?_
            refine lv_iload_n C.x C.b dX9_could_43 rfl (lv_at hl 1 rfl) ?_
            refine lv_iload_n C.x C.b dX9_could_44 rfl (lv_at hl 2 rfl) ?_
            refine lv_iload_n C.x C.b dX9_could_45 rfl (lv_at hl 3 rfl) ?_
            obtain ⟨q6, eq6, hf⟩ := g_b hf
            refine g_calli G (g_runV (As := [.int a1, .int a2, .int a3]) (rest := []) C G 9 0 (c_X9_couldBe l D cy A ad L σ hT a1 a2 a3 q6 eq6) ⟨tw1189, tw60, tw1186, ⟨tw1188, tw29⟩, hd_X9_couldBe⟩ (by decide) hT rfl ⟨rfl, by decide⟩ hl.1 rfl (Nat.le_of_ble_eq_true rfl) dX9_could_46 ⟨Nat.le_of_ble_eq_true rfl, Nat.le_of_ble_eq_true rfl⟩) (fun H locs G => ?_)
            refine lv_goto (tgt := 59) C.x C.b dX9_could_49 (by decide) ?_
            exact g_eip C G hr hlocks hf dX9_could_59
        · have hf := g_t cb hf
          refine lv_iconst (v := (-1 : Int32)) C.x C.b dX9_could_35 (by decide) ?_
          exact g_eip C G hr hlocks hf dX9_could_36
def f_X9_first_P67  : Option Int32 := (some (-2 : Int32))
def f_X9_first_L29 (ad : gA) (σ : gS) (a1 : Int32) (a2 : Int32) (a4 : Int32) (K29 : Option Int32) : Nat → Int32 → Option Int32
  | 0, _ => none
  | n + 1, v5 => (if (200 : Int32) ≤ v5 then (K29) else ((f_X9_couldBe ad σ a1 a2 v5).bind fun q4 => (if a4 = 0 then (if q4 < (1 : Int32) then (f_X9_first_L29 ad σ a1 a2 a4 K29 n (v5 + (1 : Int32))) else (some v5)) else (if q4 < (2 : Int32) then (f_X9_first_L29 ad σ a1 a2 a4 K29 n (v5 + (1 : Int32))) else (some v5)))))
def f_X9_first (ad : gA) (σ : gS) (a1 : Int32) (a2 : Int32) (a3 : Int32) (a4 : Int32) : Option Int32 := ((f_X9_isPerson ad σ a1).bind fun q1 => (if q1 = 0 then (some (-1 : Int32)) else ((f_X9_isOffice ad σ a2).bind fun q2 => (if q2 = 0 then (some (-1 : Int32)) else ((f_X9_isYear ad σ a3).bind fun q3 => (if q3 = 0 then (some (-1 : Int32)) else (f_X9_first_L29 ad σ a1 a2 a4 (f_X9_first_P67) g_fuel a3)))))))
theorem hd_X9_first : yX9_first.cls ≠ "java/lang/invoke/MethodHandle" ∧ yX9_first.cls ≠ "java/lang/invoke/VarHandle" ∧ (parseMethodDescriptor yX9_first.desc).map (fun d => d.parameters.length) = some 4 := by decide +kernel
set_option maxHeartbeats 4000000 in
set_option maxRecDepth 100000 in
theorem c_X9_first (l : Launch) (D : va_G) (cy : Nat → ClassId) (A : Nat → Prop) (ad : gA) (L : gL)  (σ : gS) (hT : (9, 0) ∈ L) (a1 : Int32) (a2 : Int32) (a3 : Int32) (a4 : Int32) (r0 : Int32) (hf : f_X9_first ad σ a1 a2 a3 a4 = some r0) : g_Mi l yX9_first cX9_first 6 (some .int) ({ frames := 6, cells := 0, slots := 0, locals := 144 } : Room) D cy A ad L σ [.ref (ad 9 0), .int a1, .int a2, .int a3, .int a4] r0 σ := by
  refine g_met (by decide) (Nat.le_of_ble_eq_true rfl) (fun p e s m below meth c C hr hlocks hnm G ls hl => ?_)
  have hl : lv_has ls 6 [(0, .ref (ad 9 0)), (1, .int a1), (2, .int a2), (3, .int a3), (4, .int a4)] := hl
  have pt67 : ∀ (H : Heap) (locs : List Loc) (ls : Array Slot), g_H D cy A ad L σ s.heap H locs → lv_has ls 6 [] → f_X9_first_P67  = some r0 → g_Wi p l e ({ frames := 6, cells := 0, slots := 0, locals := 144 } : Room) s m below meth c H locs 0 0 D cy A ad L [.ref (ad 9 0), .int a1, .int a2, .int a3, .int a4] r0 σ (F0 m 67 ls []) := by
    intro H locs ls G hl hf
    unfold f_X9_first_P67 at hf
    refine lv_bipush (v := (-2 : Int32)) C.x C.b dX9_first_67 (by decide) ?_
    exact g_eip C G hr hlocks hf dX9_first_69
  have lp29 : ∀ n29 : Nat, ∀ (v5 : Int32) (H : Heap) (locs : List Loc) (ls : Array Slot), g_H D cy A ad L σ s.heap H locs → lv_has ls 6 [(0, .ref (ad 9 0)), (1, .int a1), (2, .int a2), (4, .int a4), (5, .int v5)] → f_X9_first_L29 ad σ a1 a2 a4 (f_X9_first_P67) n29 v5 = some r0 → g_Wi p l e ({ frames := 6, cells := 0, slots := 0, locals := 144 } : Room) s m below meth c H locs 0 0 D cy A ad L [.ref (ad 9 0), .int a1, .int a2, .int a3, .int a4] r0 σ (F0 m 29 ls []) := by
    intro n29
    induction n29 with
    | zero =>
      intro v5 H locs ls G hl hf
      rw [f_X9_first_L29] at hf
      cases hf
    | succ n29 ih29 =>
      intro v5 H locs ls G hl hf
      rw [f_X9_first_L29] at hf
      refine lv_iload C.x C.b dX9_first_29 (lv_at hl 4 rfl) ?_
      refine lv_sipush (v := (200 : Int32)) C.x C.b dX9_first_31 (by decide) ?_
      refine lv_icmp_ge (tgt := 67) C.x C.b dX9_first_34 (by decide) (fun cb => ?_) (fun cb => ?_)
      · have hf := g_t cb hf
        exact pt67  _ _ ls G (lv_sub hl [] rfl) hf
      · have hf := g_f cb hf
        refine lv_aload_n C.x C.b dX9_first_37 rfl (lv_at hl 0 rfl) ?_
        refine lv_iload_n C.x C.b dX9_first_38 rfl (lv_at hl 1 rfl) ?_
        refine lv_iload_n C.x C.b dX9_first_39 rfl (lv_at hl 2 rfl) ?_
        refine lv_iload C.x C.b dX9_first_40 (lv_at hl 4 rfl) ?_
        obtain ⟨q4, eq4, hf⟩ := g_b hf
        refine g_calli G (g_runV (As := [.int a1, .int a2, .int v5]) (rest := []) C G 9 0 (c_X9_couldBe l D cy A ad L σ hT a1 a2 v5 q4 eq4) ⟨tw1189, tw60, tw1186, ⟨tw1188, tw29⟩, hd_X9_couldBe⟩ (by decide) hT rfl ⟨rfl, by decide⟩ hl.1 rfl (Nat.le_of_ble_eq_true rfl) dX9_first_42 ⟨Nat.le_of_ble_eq_true rfl, Nat.le_of_ble_eq_true rfl⟩) (fun H locs G => ?_)
        refine lv_iload C.x C.b dX9_first_45 (lv_at hl 3 rfl) ?_
        refine lv_if_eq (tgt := 54) C.x C.b dX9_first_47 (by decide) (fun cb => ?_) (fun cb => ?_)
        · have hf := g_t cb hf
          refine lv_iconst (v := (1 : Int32)) C.x C.b dX9_first_54 (by decide) ?_
          refine lv_icmp_lt (tgt := 61) C.x C.b dX9_first_55 (by decide) (fun cb => ?_) (fun cb => ?_)
          · have hf := g_t cb hf
            refine lv_iinc (v := (v5 + (1 : Int32))) (lv' := [(5, .int (v5 + (1 : Int32))), (0, .ref (ad 9 0)), (1, .int a1), (2, .int a2), (4, .int a4)]) C.x C.b dX9_first_61 hl (k := 4) rfl rfl (by decide) rfl (fun ls hl => ?_)
            refine lv_goto (tgt := 29) C.x C.b dX9_first_64 (by decide) ?_
            exact ih29 (v5 + (1 : Int32)) _ _ ls G (lv_sub hl [1, 2, 3, 4, 0] rfl) hf
          · have hf := g_f cb hf
            refine lv_iload C.x C.b dX9_first_58 (lv_at hl 4 rfl) ?_
            exact g_eip C G hr hlocks hf dX9_first_60
        · have hf := g_f cb hf
          refine lv_iconst (v := (2 : Int32)) C.x C.b dX9_first_50 (by decide) ?_
          refine lv_goto (tgt := 55) C.x C.b dX9_first_51 (by decide) ?_
          refine lv_icmp_lt (tgt := 61) C.x C.b dX9_first_55 (by decide) (fun cb => ?_) (fun cb => ?_)
          · have hf := g_t cb hf
            refine lv_iinc (v := (v5 + (1 : Int32))) (lv' := [(5, .int (v5 + (1 : Int32))), (0, .ref (ad 9 0)), (1, .int a1), (2, .int a2), (4, .int a4)]) C.x C.b dX9_first_61 hl (k := 4) rfl rfl (by decide) rfl (fun ls hl => ?_)
            refine lv_goto (tgt := 29) C.x C.b dX9_first_64 (by decide) ?_
            exact ih29 (v5 + (1 : Int32)) _ _ ls G (lv_sub hl [1, 2, 3, 4, 0] rfl) hf
          · have hf := g_f cb hf
            refine lv_iload C.x C.b dX9_first_58 (lv_at hl 4 rfl) ?_
            exact g_eip C G hr hlocks hf dX9_first_60
  unfold f_X9_first at hf
  refine lv_aload_n C.x C.b dX9_first_0 rfl (lv_at hl 0 rfl) ?_
  refine lv_iload_n C.x C.b dX9_first_1 rfl (lv_at hl 1 rfl) ?_
  obtain ⟨q1, eq1, hf⟩ := g_b hf
  refine g_calli G (g_runV (As := [.int a1]) (rest := []) C G 9 0 (c_X9_isPerson l D cy A ad L σ hT a1 q1 eq1) ⟨tw1109, tw60, tw1106, ⟨tw1108, tw20⟩, hd_X9_isPerson⟩ (by decide) hT rfl ⟨rfl, by decide⟩ hl.1 rfl (Nat.le_of_ble_eq_true rfl) dX9_first_2 ⟨Nat.le_of_ble_eq_true rfl, Nat.le_of_ble_eq_true rfl⟩) (fun H locs G => ?_)
  refine lv_if_eq (tgt := 24) C.x C.b dX9_first_5 (by decide) (fun cb => ?_) (fun cb => ?_)
  · have hf := g_t cb hf
    refine lv_iconst (v := (-1 : Int32)) C.x C.b dX9_first_24 (by decide) ?_
    exact g_eip C G hr hlocks hf dX9_first_25
  · have hf := g_f cb hf
    refine lv_aload_n C.x C.b dX9_first_8 rfl (lv_at hl 0 rfl) ?_
    refine lv_iload_n C.x C.b dX9_first_9 rfl (lv_at hl 2 rfl) ?_
    obtain ⟨q2, eq2, hf⟩ := g_b hf
    refine g_calli G (g_runV (As := [.int a2]) (rest := []) C G 9 0 (c_X9_isOffice l D cy A ad L σ hT a2 q2 eq2) ⟨tw1129, tw60, tw1126, ⟨tw1128, tw22⟩, hd_X9_isOffice⟩ (by decide) hT rfl ⟨rfl, by decide⟩ hl.1 rfl (Nat.le_of_ble_eq_true rfl) dX9_first_10 ⟨Nat.le_of_ble_eq_true rfl, Nat.le_of_ble_eq_true rfl⟩) (fun H locs G => ?_)
    refine lv_if_eq (tgt := 24) C.x C.b dX9_first_13 (by decide) (fun cb => ?_) (fun cb => ?_)
    · have hf := g_t cb hf
      refine lv_iconst (v := (-1 : Int32)) C.x C.b dX9_first_24 (by decide) ?_
      exact g_eip C G hr hlocks hf dX9_first_25
    · have hf := g_f cb hf
      refine lv_aload_n C.x C.b dX9_first_16 rfl (lv_at hl 0 rfl) ?_
      refine lv_iload_n C.x C.b dX9_first_17 rfl (lv_at hl 3 rfl) ?_
      obtain ⟨q3, eq3, hf⟩ := g_b hf
      refine g_calli G (g_runV (As := [.int a3]) (rest := []) C G 9 0 (c_X9_isYear l D cy A ad L σ hT a3 q3 eq3) ⟨tw1117, tw60, tw1114, ⟨tw1116, tw21⟩, hd_X9_isYear⟩ (by decide) hT rfl ⟨rfl, by decide⟩ hl.1 rfl (Nat.le_of_ble_eq_true rfl) dX9_first_18 ⟨Nat.le_of_ble_eq_true rfl, Nat.le_of_ble_eq_true rfl⟩) (fun H locs G => ?_)
      refine lv_if_ne (tgt := 26) C.x C.b dX9_first_21 (by decide) (fun cb => ?_) (fun cb => ?_)
      · have hf := g_f cb hf
        refine lv_iload_n C.x C.b dX9_first_26 rfl (lv_at hl 3 rfl) ?_
        refine lv_istore (lv' := [(5, .int a3), (0, .ref (ad 9 0)), (1, .int a1), (2, .int a2), (3, .int a3), (4, .int a4)]) C.x C.b dX9_first_27 hl (by decide) rfl (fun ls hl => ?_)
        exact lp29 g_fuel a3 _ _ ls G (lv_sub hl [1, 2, 3, 5, 0] rfl) hf
      · have hf := g_t cb hf
        refine lv_iconst (v := (-1 : Int32)) C.x C.b dX9_first_24 (by decide) ?_
        exact g_eip C G hr hlocks hf dX9_first_25
def f_X9_who_P69 (v4 : Int32) : Option Int32 := (some v4)
def f_X9_who_L24 (ad : gA) (σ : gS) (a1 : Int32) (a2 : Int32) (a3 : Int32) (K24 : Int32 → Option Int32) : Nat → Int32 → Int32 → Option Int32
  | 0, _, _ => none
  | n + 1, v4, v5 => (if (σ 9 0 2) ≤ v5 then (K24 v4) else ((f_X9_couldBe ad σ v5 a1 a2).bind fun q3 => (if a3 = 0 then (if q3 < (1 : Int32) then (f_X9_who_L24 ad σ a1 a2 a3 K24 n (v4 + (0 : Int32)) (v5 + (1 : Int32))) else (f_X9_who_L24 ad σ a1 a2 a3 K24 n (v4 + (1 : Int32)) (v5 + (1 : Int32)))) else (if q3 < (2 : Int32) then (f_X9_who_L24 ad σ a1 a2 a3 K24 n (v4 + (0 : Int32)) (v5 + (1 : Int32))) else (f_X9_who_L24 ad σ a1 a2 a3 K24 n (v4 + (1 : Int32)) (v5 + (1 : Int32)))))))
def f_X9_who (ad : gA) (σ : gS) (a1 : Int32) (a2 : Int32) (a3 : Int32) : Option Int32 := ((f_X9_isOffice ad σ a1).bind fun q1 => (if q1 = 0 then (some (-1 : Int32)) else ((f_X9_isYear ad σ a2).bind fun q2 => (if q2 = 0 then (some (-1 : Int32)) else (f_X9_who_L24 ad σ a1 a2 a3 (f_X9_who_P69) g_fuel (0 : Int32) (0 : Int32))))))
theorem hd_X9_who : yX9_who.cls ≠ "java/lang/invoke/MethodHandle" ∧ yX9_who.cls ≠ "java/lang/invoke/VarHandle" ∧ (parseMethodDescriptor yX9_who.desc).map (fun d => d.parameters.length) = some 3 := by decide +kernel
set_option maxHeartbeats 4000000 in
set_option maxRecDepth 100000 in
theorem c_X9_who (l : Launch) (D : va_G) (cy : Nat → ClassId) (A : Nat → Prop) (ad : gA) (L : gL)  (σ : gS) (hT : (9, 0) ∈ L) (a1 : Int32) (a2 : Int32) (a3 : Int32) (r0 : Int32) (hf : f_X9_who ad σ a1 a2 a3 = some r0) : g_Mi l yX9_who cX9_who 6 (some .int) ({ frames := 6, cells := 0, slots := 0, locals := 144 } : Room) D cy A ad L σ [.ref (ad 9 0), .int a1, .int a2, .int a3] r0 σ := by
  refine g_met (by decide) (Nat.le_of_ble_eq_true rfl) (fun p e s m below meth c C hr hlocks hnm G ls hl => ?_)
  have hl : lv_has ls 6 [(0, .ref (ad 9 0)), (1, .int a1), (2, .int a2), (3, .int a3)] := hl
  have pt69 : ∀ (v4 : Int32) (H : Heap) (locs : List Loc) (ls : Array Slot), g_H D cy A ad L σ s.heap H locs → lv_has ls 6 [(4, .int v4)] → f_X9_who_P69 v4 = some r0 → g_Wi p l e ({ frames := 6, cells := 0, slots := 0, locals := 144 } : Room) s m below meth c H locs 0 0 D cy A ad L [.ref (ad 9 0), .int a1, .int a2, .int a3] r0 σ (F0 m 69 ls []) := by
    intro v4 H locs ls G hl hf
    unfold f_X9_who_P69 at hf
    refine lv_iload C.x C.b dX9_who_69 (lv_at hl 0 rfl) ?_
    exact g_eip C G hr hlocks hf dX9_who_71
  have lp24 : ∀ n24 : Nat, ∀ (v4 : Int32) (v5 : Int32) (H : Heap) (locs : List Loc) (ls : Array Slot), g_H D cy A ad L σ s.heap H locs → lv_has ls 6 [(0, .ref (ad 9 0)), (1, .int a1), (2, .int a2), (3, .int a3), (4, .int v4), (5, .int v5)] → f_X9_who_L24 ad σ a1 a2 a3 (f_X9_who_P69) n24 v4 v5 = some r0 → g_Wi p l e ({ frames := 6, cells := 0, slots := 0, locals := 144 } : Room) s m below meth c H locs 0 0 D cy A ad L [.ref (ad 9 0), .int a1, .int a2, .int a3] r0 σ (F0 m 24 ls []) := by
    intro n24
    induction n24 with
    | zero =>
      intro v4 v5 H locs ls G hl hf
      rw [f_X9_who_L24] at hf
      cases hf
    | succ n24 ih24 =>
      intro v4 v5 H locs ls G hl hf
      rw [f_X9_who_L24] at hf
      refine lv_iload C.x C.b dX9_who_24 (lv_at hl 5 rfl) ?_
      refine lv_aload_n C.x C.b dX9_who_26 rfl (lv_at hl 0 rfl) ?_
      refine g_geti C G 9 0 2 hT rfl ginX9 (by decide) tw952 dX9_who_27 ?_
      refine lv_icmp_ge (tgt := 69) C.x C.b dX9_who_30 (by decide) (fun cb => ?_) (fun cb => ?_)
      · have hf := g_t cb hf
        exact pt69 v4 _ _ ls G (lv_sub hl [4] rfl) hf
      · have hf := g_f cb hf
        refine lv_iload C.x C.b dX9_who_33 (lv_at hl 4 rfl) ?_
        refine lv_aload_n C.x C.b dX9_who_35 rfl (lv_at hl 0 rfl) ?_
        refine lv_iload C.x C.b dX9_who_36 (lv_at hl 5 rfl) ?_
        refine lv_iload_n C.x C.b dX9_who_38 rfl (lv_at hl 1 rfl) ?_
        refine lv_iload_n C.x C.b dX9_who_39 rfl (lv_at hl 2 rfl) ?_
        obtain ⟨q3, eq3, hf⟩ := g_b hf
        refine g_calli G (g_runV (As := [.int v5, .int a1, .int a2]) (rest := [.int v4]) C G 9 0 (c_X9_couldBe l D cy A ad L σ hT v5 a1 a2 q3 eq3) ⟨tw1189, tw60, tw1186, ⟨tw1188, tw29⟩, hd_X9_couldBe⟩ (by decide) hT rfl ⟨rfl, by decide⟩ hl.1 rfl (Nat.le_of_ble_eq_true rfl) dX9_who_40 ⟨Nat.le_of_ble_eq_true rfl, Nat.le_of_ble_eq_true rfl⟩) (fun H locs G => ?_)
        refine lv_iload_n C.x C.b dX9_who_43 rfl (lv_at hl 3 rfl) ?_
        refine lv_if_eq (tgt := 51) C.x C.b dX9_who_44 (by decide) (fun cb => ?_) (fun cb => ?_)
        · have hf := g_t cb hf
          refine lv_iconst (v := (1 : Int32)) C.x C.b dX9_who_51 (by decide) ?_
          refine lv_icmp_lt (tgt := 59) C.x C.b dX9_who_52 (by decide) (fun cb => ?_) (fun cb => ?_)
          · have hf := g_t cb hf
            refine lv_iconst (v := (0 : Int32)) C.x C.b dX9_who_59 (by decide) ?_
            refine lv_iadd C.x C.b dX9_who_60 ?_
            refine lv_istore (lv' := [(4, .int (v4 + (0 : Int32))), (0, .ref (ad 9 0)), (1, .int a1), (2, .int a2), (3, .int a3), (5, .int v5)]) C.x C.b dX9_who_61 hl (by decide) rfl (fun ls hl => ?_)
            refine lv_iinc (v := (v5 + (1 : Int32))) (lv' := [(5, .int (v5 + (1 : Int32))), (4, .int (v4 + (0 : Int32))), (0, .ref (ad 9 0)), (1, .int a1), (2, .int a2), (3, .int a3)]) C.x C.b dX9_who_63 hl (k := 5) rfl rfl (by decide) rfl (fun ls hl => ?_)
            refine lv_goto (tgt := 24) C.x C.b dX9_who_66 (by decide) ?_
            exact ih24 (v4 + (0 : Int32)) (v5 + (1 : Int32)) _ _ ls G (lv_sub hl [2, 3, 4, 5, 1, 0] rfl) hf
          · have hf := g_f cb hf
            refine lv_iconst (v := (1 : Int32)) C.x C.b dX9_who_55 (by decide) ?_
            refine lv_goto (tgt := 60) C.x C.b dX9_who_56 (by decide) ?_
            refine lv_iadd C.x C.b dX9_who_60 ?_
            refine lv_istore (lv' := [(4, .int (v4 + (1 : Int32))), (0, .ref (ad 9 0)), (1, .int a1), (2, .int a2), (3, .int a3), (5, .int v5)]) C.x C.b dX9_who_61 hl (by decide) rfl (fun ls hl => ?_)
            refine lv_iinc (v := (v5 + (1 : Int32))) (lv' := [(5, .int (v5 + (1 : Int32))), (4, .int (v4 + (1 : Int32))), (0, .ref (ad 9 0)), (1, .int a1), (2, .int a2), (3, .int a3)]) C.x C.b dX9_who_63 hl (k := 5) rfl rfl (by decide) rfl (fun ls hl => ?_)
            refine lv_goto (tgt := 24) C.x C.b dX9_who_66 (by decide) ?_
            exact ih24 (v4 + (1 : Int32)) (v5 + (1 : Int32)) _ _ ls G (lv_sub hl [2, 3, 4, 5, 1, 0] rfl) hf
        · have hf := g_f cb hf
          refine lv_iconst (v := (2 : Int32)) C.x C.b dX9_who_47 (by decide) ?_
          refine lv_goto (tgt := 52) C.x C.b dX9_who_48 (by decide) ?_
          refine lv_icmp_lt (tgt := 59) C.x C.b dX9_who_52 (by decide) (fun cb => ?_) (fun cb => ?_)
          · have hf := g_t cb hf
            refine lv_iconst (v := (0 : Int32)) C.x C.b dX9_who_59 (by decide) ?_
            refine lv_iadd C.x C.b dX9_who_60 ?_
            refine lv_istore (lv' := [(4, .int (v4 + (0 : Int32))), (0, .ref (ad 9 0)), (1, .int a1), (2, .int a2), (3, .int a3), (5, .int v5)]) C.x C.b dX9_who_61 hl (by decide) rfl (fun ls hl => ?_)
            refine lv_iinc (v := (v5 + (1 : Int32))) (lv' := [(5, .int (v5 + (1 : Int32))), (4, .int (v4 + (0 : Int32))), (0, .ref (ad 9 0)), (1, .int a1), (2, .int a2), (3, .int a3)]) C.x C.b dX9_who_63 hl (k := 5) rfl rfl (by decide) rfl (fun ls hl => ?_)
            refine lv_goto (tgt := 24) C.x C.b dX9_who_66 (by decide) ?_
            exact ih24 (v4 + (0 : Int32)) (v5 + (1 : Int32)) _ _ ls G (lv_sub hl [2, 3, 4, 5, 1, 0] rfl) hf
          · have hf := g_f cb hf
            refine lv_iconst (v := (1 : Int32)) C.x C.b dX9_who_55 (by decide) ?_
            refine lv_goto (tgt := 60) C.x C.b dX9_who_56 (by decide) ?_
            refine lv_iadd C.x C.b dX9_who_60 ?_
            refine lv_istore (lv' := [(4, .int (v4 + (1 : Int32))), (0, .ref (ad 9 0)), (1, .int a1), (2, .int a2), (3, .int a3), (5, .int v5)]) C.x C.b dX9_who_61 hl (by decide) rfl (fun ls hl => ?_)
            refine lv_iinc (v := (v5 + (1 : Int32))) (lv' := [(5, .int (v5 + (1 : Int32))), (4, .int (v4 + (1 : Int32))), (0, .ref (ad 9 0)), (1, .int a1), (2, .int a2), (3, .int a3)]) C.x C.b dX9_who_63 hl (k := 5) rfl rfl (by decide) rfl (fun ls hl => ?_)
            refine lv_goto (tgt := 24) C.x C.b dX9_who_66 (by decide) ?_
            exact ih24 (v4 + (1 : Int32)) (v5 + (1 : Int32)) _ _ ls G (lv_sub hl [2, 3, 4, 5, 1, 0] rfl) hf
  unfold f_X9_who at hf
  refine lv_aload_n C.x C.b dX9_who_0 rfl (lv_at hl 0 rfl) ?_
  refine lv_iload_n C.x C.b dX9_who_1 rfl (lv_at hl 1 rfl) ?_
  obtain ⟨q1, eq1, hf⟩ := g_b hf
  refine g_calli G (g_runV (As := [.int a1]) (rest := []) C G 9 0 (c_X9_isOffice l D cy A ad L σ hT a1 q1 eq1) ⟨tw1129, tw60, tw1126, ⟨tw1128, tw22⟩, hd_X9_isOffice⟩ (by decide) hT rfl ⟨rfl, by decide⟩ hl.1 rfl (Nat.le_of_ble_eq_true rfl) dX9_who_2 ⟨Nat.le_of_ble_eq_true rfl, Nat.le_of_ble_eq_true rfl⟩) (fun H locs G => ?_)
  refine lv_if_eq (tgt := 16) C.x C.b dX9_who_5 (by decide) (fun cb => ?_) (fun cb => ?_)
  · have hf := g_t cb hf
    refine lv_iconst (v := (-1 : Int32)) C.x C.b dX9_who_16 (by decide) ?_
    exact g_eip C G hr hlocks hf dX9_who_17
  · have hf := g_f cb hf
    refine lv_aload_n C.x C.b dX9_who_8 rfl (lv_at hl 0 rfl) ?_
    refine lv_iload_n C.x C.b dX9_who_9 rfl (lv_at hl 2 rfl) ?_
    obtain ⟨q2, eq2, hf⟩ := g_b hf
    refine g_calli G (g_runV (As := [.int a2]) (rest := []) C G 9 0 (c_X9_isYear l D cy A ad L σ hT a2 q2 eq2) ⟨tw1117, tw60, tw1114, ⟨tw1116, tw21⟩, hd_X9_isYear⟩ (by decide) hT rfl ⟨rfl, by decide⟩ hl.1 rfl (Nat.le_of_ble_eq_true rfl) dX9_who_10 ⟨Nat.le_of_ble_eq_true rfl, Nat.le_of_ble_eq_true rfl⟩) (fun H locs G => ?_)
    refine lv_if_ne (tgt := 18) C.x C.b dX9_who_13 (by decide) (fun cb => ?_) (fun cb => ?_)
    · have hf := g_f cb hf
      refine lv_iconst (v := (0 : Int32)) C.x C.b dX9_who_18 (by decide) ?_
      refine lv_istore (lv' := [(4, .int (0 : Int32)), (0, .ref (ad 9 0)), (1, .int a1), (2, .int a2), (3, .int a3)]) C.x C.b dX9_who_19 hl (by decide) rfl (fun ls hl => ?_)
      refine lv_iconst (v := (0 : Int32)) C.x C.b dX9_who_21 (by decide) ?_
      refine lv_istore (lv' := [(5, .int (0 : Int32)), (4, .int (0 : Int32)), (0, .ref (ad 9 0)), (1, .int a1), (2, .int a2), (3, .int a3)]) C.x C.b dX9_who_22 hl (by decide) rfl (fun ls hl => ?_)
      exact lp24 g_fuel (0 : Int32) (0 : Int32) _ _ ls G (lv_sub hl [2, 3, 4, 5, 1, 0] rfl) hf
    · have hf := g_t cb hf
      refine lv_iconst (v := (-1 : Int32)) C.x C.b dX9_who_16 (by decide) ?_
      exact g_eip C G hr hlocks hf dX9_who_17
def f_X9_isRight (ad : gA) (σ : gS) (a1 : Int32) (a2 : Int32) (a3 : Int32) : Option (Int32 × gS) := (if g_ix a1 4800 then (if g_ix (((200 : Int32) * (σ 58 0 a1.toNatClampNeg)) + a3) 4800 then (g_let (g_up σ 60 0 ((((200 : Int32) * (σ 58 0 a1.toNatClampNeg)) + a3).toNatClampNeg) (-1 : Int32)) fun σ5 => (if g_ix a1 4800 then (g_let (g_up σ5 58 0 a1.toNatClampNeg (-1 : Int32)) fun σ8 => ((f_X9_couldBe ad σ8 (σ 58 0 a1.toNatClampNeg) a2 a3).bind fun q9 => (if q9 ≤ 0 then ((f_X9_put ad σ8 (σ 58 0 a1.toNatClampNeg) a1 a3).bind fun σ10 => (some ((0 : Int32), σ10))) else ((f_X9_put ad σ8 (σ 58 0 a1.toNatClampNeg) a1 a3).bind fun σ11 => (some ((1 : Int32), σ11)))))) else none)) else none) else none)
theorem hd_X9_isRight : yX9_isRight.cls ≠ "java/lang/invoke/MethodHandle" ∧ yX9_isRight.cls ≠ "java/lang/invoke/VarHandle" ∧ (parseMethodDescriptor yX9_isRight.desc).map (fun d => d.parameters.length) = some 3 := by decide +kernel
set_option maxHeartbeats 4000000 in
set_option maxRecDepth 100000 in
theorem c_X9_isRight (l : Launch) (D : va_G) (cy : Nat → ClassId) (A : Nat → Prop) (ad : gA) (L : gL)  (σ : gS) (hT : (9, 0) ∈ L) (a1 : Int32) (a2 : Int32) (a3 : Int32) (r0 : Int32) (σ0 : gS) (hf : f_X9_isRight ad σ a1 a2 a3 = some (r0, σ0)) : g_Mi l yX9_isRight cX9_isRight 6 (some .boolean) ({ frames := 6, cells := 0, slots := 0, locals := 144 } : Room) D cy A ad L σ [.ref (ad 9 0), .int a1, .int a2, .int a3] r0 σ0 := by
  refine g_met (by decide) (Nat.le_of_ble_eq_true rfl) (fun p e s m below meth c C hr hlocks hnm G ls hl => ?_)
  have hl : lv_has ls 6 [(0, .ref (ad 9 0)), (1, .int a1), (2, .int a2), (3, .int a3)] := hl
  unfold f_X9_isRight at hf
  refine lv_aload_n C.x C.b dX9_isRight_0 rfl (lv_at hl 0 rfl) ?_
  refine g_getr C G 9 0 18 58 hT rfl ginX9 (by decide) tw968 dX9_isRight_1 (fun hL1 => ?_)
  refine lv_iload_n C.x C.b dX9_isRight_4 rfl (lv_at hl 1 rfl) ?_
  obtain ⟨hi2, hf⟩ := g_ok hf
  refine g_iald (n := 4800) C G 58 0 hL1 (by decide) rfl hi2 dX9_isRight_5 ?_
  refine lv_istore (lv' := [(4, .int (σ 58 0 a1.toNatClampNeg)), (0, .ref (ad 9 0)), (1, .int a1), (2, .int a2), (3, .int a3)]) C.x C.b dX9_isRight_6 hl (by decide) rfl (fun ls hl => ?_)
  refine lv_aload_n C.x C.b dX9_isRight_8 rfl (lv_at hl 1 rfl) ?_
  refine g_getr C G 9 0 20 60 hT rfl ginX9 (by decide) tw970 dX9_isRight_9 (fun hL3 => ?_)
  refine lv_sipush (v := (200 : Int32)) C.x C.b dX9_isRight_12 (by decide) ?_
  refine lv_iload C.x C.b dX9_isRight_15 (lv_at hl 0 rfl) ?_
  refine lv_imul C.x C.b dX9_isRight_17 ?_
  refine lv_iload_n C.x C.b dX9_isRight_18 rfl (lv_at hl 4 rfl) ?_
  refine lv_iadd C.x C.b dX9_isRight_19 ?_
  refine lv_iconst (v := (-1 : Int32)) C.x C.b dX9_isRight_20 (by decide) ?_
  obtain ⟨hi4, hf⟩ := g_ok hf
  refine g_iast (n := 4800) C G 60 0 hL3 (by decide) rfl hi4 dX9_isRight_21 (fun H locs G => ?_)
  obtain ⟨σ5, eσ5, hf⟩ := g_lt hf
  rw [← eσ5] at G
  refine lv_aload_n C.x C.b dX9_isRight_22 rfl (lv_at hl 1 rfl) ?_
  refine g_getr C G 9 0 18 58 hT rfl ginX9 (by decide) tw968 dX9_isRight_23 (fun hL6 => ?_)
  refine lv_iload_n C.x C.b dX9_isRight_26 rfl (lv_at hl 2 rfl) ?_
  refine lv_iconst (v := (-1 : Int32)) C.x C.b dX9_isRight_27 (by decide) ?_
  obtain ⟨hi7, hf⟩ := g_ok hf
  refine g_iast (n := 4800) C G 58 0 hL6 (by decide) rfl hi7 dX9_isRight_28 (fun H locs G => ?_)
  obtain ⟨σ8, eσ8, hf⟩ := g_lt hf
  rw [← eσ8] at G
  refine lv_aload_n C.x C.b dX9_isRight_29 rfl (lv_at hl 1 rfl) ?_
  refine lv_iload C.x C.b dX9_isRight_30 (lv_at hl 0 rfl) ?_
  refine lv_iload_n C.x C.b dX9_isRight_32 rfl (lv_at hl 3 rfl) ?_
  refine lv_iload_n C.x C.b dX9_isRight_33 rfl (lv_at hl 4 rfl) ?_
  obtain ⟨q9, eq9, hf⟩ := g_b hf
  refine g_calli G (g_runV (As := [.int (σ 58 0 a1.toNatClampNeg), .int a2, .int a3]) (rest := []) C G 9 0 (c_X9_couldBe l D cy A ad L σ8 hT (σ 58 0 a1.toNatClampNeg) a2 a3 q9 eq9) ⟨tw1189, tw60, tw1186, ⟨tw1188, tw29⟩, hd_X9_couldBe⟩ (by decide) hT rfl ⟨rfl, by decide⟩ hl.1 rfl (Nat.le_of_ble_eq_true rfl) dX9_isRight_34 ⟨Nat.le_of_ble_eq_true rfl, Nat.le_of_ble_eq_true rfl⟩) (fun H locs G => ?_)
  refine lv_if_le (tgt := 44) C.x C.b dX9_isRight_37 (by decide) (fun cb => ?_) (fun cb => ?_)
  · have hf := g_t cb hf
    refine lv_iconst (v := (0 : Int32)) C.x C.b dX9_isRight_44 (by decide) ?_
    refine lv_istore (lv' := [(5, .int (0 : Int32)), (4, .int (σ 58 0 a1.toNatClampNeg)), (0, .ref (ad 9 0)), (1, .int a1), (2, .int a2), (3, .int a3)]) C.x C.b dX9_isRight_45 hl (by decide) rfl (fun ls hl => ?_)
    refine lv_aload_n C.x C.b dX9_isRight_47 rfl (lv_at hl 2 rfl) ?_
    refine lv_iload C.x C.b dX9_isRight_48 (lv_at hl 1 rfl) ?_
    refine lv_iload_n C.x C.b dX9_isRight_50 rfl (lv_at hl 3 rfl) ?_
    refine lv_iload_n C.x C.b dX9_isRight_51 rfl (lv_at hl 5 rfl) ?_
    obtain ⟨σ10, eσ10, hf⟩ := g_b hf
    refine g_callv G (g_runV (As := [.int (σ 58 0 a1.toNatClampNeg), .int a1, .int a3]) (rest := []) C G 9 0 (c_X9_put l D cy A ad L σ8 hT (σ 58 0 a1.toNatClampNeg) a1 a3 σ10 eσ10) ⟨tw1145, tw60, tw1142, ⟨tw1144, tw24⟩, hd_X9_put⟩ (by decide) hT rfl ⟨rfl, by decide⟩ hl.1 rfl (Nat.le_of_ble_eq_true rfl) dX9_isRight_52 ⟨Nat.le_of_ble_eq_true rfl, Nat.le_of_ble_eq_true rfl⟩) (fun H locs G => ?_)
    refine lv_iload C.x C.b dX9_isRight_55 (lv_at hl 0 rfl) ?_
    exact g_ezi C G hr hlocks hf rfl dX9_isRight_57
  · have hf := g_f cb hf
    refine lv_iconst (v := (1 : Int32)) C.x C.b dX9_isRight_40 (by decide) ?_
    refine lv_goto (tgt := 45) C.x C.b dX9_isRight_41 (by decide) ?_
    refine lv_istore (lv' := [(5, .int (1 : Int32)), (4, .int (σ 58 0 a1.toNatClampNeg)), (0, .ref (ad 9 0)), (1, .int a1), (2, .int a2), (3, .int a3)]) C.x C.b dX9_isRight_45 hl (by decide) rfl (fun ls hl => ?_)
    refine lv_aload_n C.x C.b dX9_isRight_47 rfl (lv_at hl 2 rfl) ?_
    refine lv_iload C.x C.b dX9_isRight_48 (lv_at hl 1 rfl) ?_
    refine lv_iload_n C.x C.b dX9_isRight_50 rfl (lv_at hl 3 rfl) ?_
    refine lv_iload_n C.x C.b dX9_isRight_51 rfl (lv_at hl 5 rfl) ?_
    obtain ⟨σ11, eσ11, hf⟩ := g_b hf
    refine g_callv G (g_runV (As := [.int (σ 58 0 a1.toNatClampNeg), .int a1, .int a3]) (rest := []) C G 9 0 (c_X9_put l D cy A ad L σ8 hT (σ 58 0 a1.toNatClampNeg) a1 a3 σ11 eσ11) ⟨tw1145, tw60, tw1142, ⟨tw1144, tw24⟩, hd_X9_put⟩ (by decide) hT rfl ⟨rfl, by decide⟩ hl.1 rfl (Nat.le_of_ble_eq_true rfl) dX9_isRight_52 ⟨Nat.le_of_ble_eq_true rfl, Nat.le_of_ble_eq_true rfl⟩) (fun H locs G => ?_)
    refine lv_iload C.x C.b dX9_isRight_55 (lv_at hl 0 rfl) ?_
    exact g_ezi C G hr hlocks hf rfl dX9_isRight_57
def f_X9_goThrough_P126 (σ : gS) : Option (Int32 × gS) := (some ((-3 : Int32), σ))
def f_X9_goThrough_P120 (rec7 : gS → Int32 → Option (Int32 × gS)) (σ : gS) (v2 : Int32) : Option (Int32 × gS) := (rec7 σ (v2 + (1 : Int32)))
def f_X9_goThrough_P114 (rec16 : gS → Int32 → Int32 → Option (Int32 × gS)) (σ : gS) (v2 : Int32) (v3 : Int32) : Option (Int32 × gS) := (rec16 σ v2 (v3 + (1 : Int32)))
def f_X9_goThrough_L27 (ad : gA) (a1 : Int32) (K27 : gS → Int32 → Int32 → Option (Int32 × gS)) : Nat → gS → Int32 → Int32 → Int32 → Option (Int32 × gS)
  | 0, _, _, _, _ => none
  | n + 1, σ, v2, v3, v4 => (if g_ix v3 8 then (if (σ 44 0 v3.toNatClampNeg) ≤ v4 then (K27 σ v2 v3) else ((f_X9_at ad σ v3 v2 v4).bind fun q4 => (if g_ix q4 4800 then (if (σ 58 0 q4.toNatClampNeg) < 0 then (f_X9_goThrough_L27 ad a1 K27 n σ v2 v3 (v4 + (1 : Int32))) else (if g_ix q4 4800 then (if (σ 59 0 q4.toNatClampNeg) = 0 then ((f_X9_isRight ad σ q4 v3 v2).bind fun q9 => (if q9.1 = 0 then (if (q9.2 9 0 21) = a1 then (some ((((1000 : Int32) * v3) + v2), q9.2)) else (g_let (g_up q9.2 9 0 21 ((q9.2 9 0 21) + (1 : Int32))) fun σ10 => (f_X9_goThrough_L27 ad a1 K27 n σ10 v2 v3 (v4 + (1 : Int32))))) else (f_X9_goThrough_L27 ad a1 K27 n q9.2 v2 v3 (v4 + (1 : Int32))))) else (f_X9_goThrough_L27 ad a1 K27 n σ v2 v3 (v4 + (1 : Int32)))) else none)) else none))) else none)
def f_X9_goThrough_L16 (ad : gA) (a1 : Int32) (K16 : gS → Int32 → Option (Int32 × gS)) : Nat → gS → Int32 → Int32 → Option (Int32 × gS)
  | 0, _, _, _ => none
  | n + 1, σ, v2, v3 => (if (σ 9 0 1) ≤ v3 then (K16 σ v2) else (f_X9_goThrough_L27 ad a1 (f_X9_goThrough_P114 (f_X9_goThrough_L16 ad a1 K16 n)) g_fuel σ v2 v3 (0 : Int32)))
def f_X9_goThrough_L7 (ad : gA) (a1 : Int32) (K7 : gS → Option (Int32 × gS)) : Nat → gS → Int32 → Option (Int32 × gS)
  | 0, _, _ => none
  | n + 1, σ, v2 => (if (200 : Int32) ≤ v2 then (K7 σ) else (f_X9_goThrough_L16 ad a1 (f_X9_goThrough_P120 (f_X9_goThrough_L7 ad a1 K7 n)) g_fuel σ v2 (0 : Int32)))
def f_X9_goThrough (ad : gA) (σ : gS) (a1 : Int32) : Option (Int32 × gS) := (g_let (g_up σ 9 0 21 (0 : Int32)) fun σ1 => (f_X9_goThrough_L7 ad a1 (f_X9_goThrough_P126) g_fuel σ1 (0 : Int32)))
theorem hd_X9_goThrough : yX9_goThrough.cls ≠ "java/lang/invoke/MethodHandle" ∧ yX9_goThrough.cls ≠ "java/lang/invoke/VarHandle" ∧ (parseMethodDescriptor yX9_goThrough.desc).map (fun d => d.parameters.length) = some 1 := by decide +kernel
set_option maxHeartbeats 4000000 in
set_option maxRecDepth 100000 in
theorem c_X9_goThrough (l : Launch) (D : va_G) (cy : Nat → ClassId) (A : Nat → Prop) (ad : gA) (L : gL)  (σ : gS) (hT : (9, 0) ∈ L) (a1 : Int32) (r0 : Int32) (σ0 : gS) (hf : f_X9_goThrough ad σ a1 = some (r0, σ0)) : g_Mi l yX9_goThrough cX9_goThrough 6 (some .int) ({ frames := 7, cells := 0, slots := 0, locals := 169 } : Room) D cy A ad L σ [.ref (ad 9 0), .int a1] r0 σ0 := by
  refine g_met (by decide) (Nat.le_of_ble_eq_true rfl) (fun p e s m below meth c C hr hlocks hnm G ls hl => ?_)
  have hl : lv_has ls 6 [(0, .ref (ad 9 0)), (1, .int a1)] := hl
  have pt126 : ∀ (σ : gS) (H : Heap) (locs : List Loc) (ls : Array Slot), g_H D cy A ad L σ s.heap H locs → lv_has ls 6 [] → f_X9_goThrough_P126 σ = some (r0, σ0) → g_Wi p l e ({ frames := 7, cells := 0, slots := 0, locals := 169 } : Room) s m below meth c H locs 0 0 D cy A ad L [.ref (ad 9 0), .int a1] r0 σ0 (F0 m 126 ls []) := by
    intro σ H locs ls G hl hf
    unfold f_X9_goThrough_P126 at hf
    refine lv_bipush (v := (-3 : Int32)) C.x C.b dX9_goThrough_126 (by decide) ?_
    exact g_eii C G hr hlocks hf dX9_goThrough_128
  have lp7 : ∀ n7 : Nat, ∀ (σ : gS) (v2 : Int32) (H : Heap) (locs : List Loc) (ls : Array Slot), g_H D cy A ad L σ s.heap H locs → lv_has ls 6 [(0, .ref (ad 9 0)), (1, .int a1), (2, .int v2)] → f_X9_goThrough_L7 ad a1 (f_X9_goThrough_P126) n7 σ v2 = some (r0, σ0) → g_Wi p l e ({ frames := 7, cells := 0, slots := 0, locals := 169 } : Room) s m below meth c H locs 0 0 D cy A ad L [.ref (ad 9 0), .int a1] r0 σ0 (F0 m 7 ls []) := by
    intro n7
    induction n7 with
    | zero =>
      intro σ v2 H locs ls G hl hf
      rw [f_X9_goThrough_L7] at hf
      cases hf
    | succ n7 ih7 =>
      have pt120 : ∀ (σ : gS) (v2 : Int32) (H : Heap) (locs : List Loc) (ls : Array Slot), g_H D cy A ad L σ s.heap H locs → lv_has ls 6 [(0, .ref (ad 9 0)), (1, .int a1), (2, .int v2)] → f_X9_goThrough_P120 (f_X9_goThrough_L7 ad a1 (f_X9_goThrough_P126) n7) σ v2 = some (r0, σ0) → g_Wi p l e ({ frames := 7, cells := 0, slots := 0, locals := 169 } : Room) s m below meth c H locs 0 0 D cy A ad L [.ref (ad 9 0), .int a1] r0 σ0 (F0 m 120 ls []) := by
        intro σ v2 H locs ls G hl hf
        unfold f_X9_goThrough_P120 at hf
        refine lv_iinc (v := (v2 + (1 : Int32))) (lv' := [(2, .int (v2 + (1 : Int32))), (0, .ref (ad 9 0)), (1, .int a1)]) C.x C.b dX9_goThrough_120 hl (k := 2) rfl rfl (by decide) rfl (fun ls hl => ?_)
        refine lv_goto (tgt := 7) C.x C.b dX9_goThrough_123 (by decide) ?_
        exact ih7 σ (v2 + (1 : Int32)) _ _ ls G (lv_sub hl [1, 2, 0] rfl) hf
      have lp16 : ∀ n16 : Nat, ∀ (σ : gS) (v2 : Int32) (v3 : Int32) (H : Heap) (locs : List Loc) (ls : Array Slot), g_H D cy A ad L σ s.heap H locs → lv_has ls 6 [(0, .ref (ad 9 0)), (1, .int a1), (2, .int v2), (3, .int v3)] → f_X9_goThrough_L16 ad a1 (f_X9_goThrough_P120 (f_X9_goThrough_L7 ad a1 (f_X9_goThrough_P126) n7)) n16 σ v2 v3 = some (r0, σ0) → g_Wi p l e ({ frames := 7, cells := 0, slots := 0, locals := 169 } : Room) s m below meth c H locs 0 0 D cy A ad L [.ref (ad 9 0), .int a1] r0 σ0 (F0 m 16 ls []) := by
        intro n16
        induction n16 with
        | zero =>
          intro σ v2 v3 H locs ls G hl hf
          rw [f_X9_goThrough_L16] at hf
          cases hf
        | succ n16 ih16 =>
          have pt114 : ∀ (σ : gS) (v2 : Int32) (v3 : Int32) (H : Heap) (locs : List Loc) (ls : Array Slot), g_H D cy A ad L σ s.heap H locs → lv_has ls 6 [(0, .ref (ad 9 0)), (1, .int a1), (2, .int v2), (3, .int v3)] → f_X9_goThrough_P114 (f_X9_goThrough_L16 ad a1 (f_X9_goThrough_P120 (f_X9_goThrough_L7 ad a1 (f_X9_goThrough_P126) n7)) n16) σ v2 v3 = some (r0, σ0) → g_Wi p l e ({ frames := 7, cells := 0, slots := 0, locals := 169 } : Room) s m below meth c H locs 0 0 D cy A ad L [.ref (ad 9 0), .int a1] r0 σ0 (F0 m 114 ls []) := by
            intro σ v2 v3 H locs ls G hl hf
            unfold f_X9_goThrough_P114 at hf
            refine lv_iinc (v := (v3 + (1 : Int32))) (lv' := [(3, .int (v3 + (1 : Int32))), (0, .ref (ad 9 0)), (1, .int a1), (2, .int v2)]) C.x C.b dX9_goThrough_114 hl (k := 3) rfl rfl (by decide) rfl (fun ls hl => ?_)
            refine lv_goto (tgt := 16) C.x C.b dX9_goThrough_117 (by decide) ?_
            exact ih16 σ v2 (v3 + (1 : Int32)) _ _ ls G (lv_sub hl [1, 2, 3, 0] rfl) hf
          have lp27 : ∀ n27 : Nat, ∀ (σ : gS) (v2 : Int32) (v3 : Int32) (v4 : Int32) (H : Heap) (locs : List Loc) (ls : Array Slot), g_H D cy A ad L σ s.heap H locs → lv_has ls 6 [(0, .ref (ad 9 0)), (1, .int a1), (2, .int v2), (3, .int v3), (4, .int v4)] → f_X9_goThrough_L27 ad a1 (f_X9_goThrough_P114 (f_X9_goThrough_L16 ad a1 (f_X9_goThrough_P120 (f_X9_goThrough_L7 ad a1 (f_X9_goThrough_P126) n7)) n16)) n27 σ v2 v3 v4 = some (r0, σ0) → g_Wi p l e ({ frames := 7, cells := 0, slots := 0, locals := 169 } : Room) s m below meth c H locs 0 0 D cy A ad L [.ref (ad 9 0), .int a1] r0 σ0 (F0 m 27 ls []) := by
            intro n27
            induction n27 with
            | zero =>
              intro σ v2 v3 v4 H locs ls G hl hf
              rw [f_X9_goThrough_L27] at hf
              cases hf
            | succ n27 ih27 =>
              intro σ v2 v3 v4 H locs ls G hl hf
              rw [f_X9_goThrough_L27] at hf
              refine lv_iload C.x C.b dX9_goThrough_27 (lv_at hl 4 rfl) ?_
              refine lv_aload_n C.x C.b dX9_goThrough_29 rfl (lv_at hl 0 rfl) ?_
              refine g_getr C G 9 0 4 44 hT rfl ginX9 (by decide) tw954 dX9_goThrough_30 (fun hL2 => ?_)
              refine lv_iload_n C.x C.b dX9_goThrough_33 rfl (lv_at hl 3 rfl) ?_
              obtain ⟨hi3, hf⟩ := g_ok hf
              refine g_iald (n := 8) C G 44 0 hL2 (by decide) rfl hi3 dX9_goThrough_34 ?_
              refine lv_icmp_ge (tgt := 114) C.x C.b dX9_goThrough_35 (by decide) (fun cb => ?_) (fun cb => ?_)
              · have hf := g_t cb hf
                exact pt114 σ v2 v3 _ _ ls G (lv_sub hl [0, 1, 2, 3] rfl) hf
              · have hf := g_f cb hf
                refine lv_aload_n C.x C.b dX9_goThrough_38 rfl (lv_at hl 0 rfl) ?_
                refine lv_iload_n C.x C.b dX9_goThrough_39 rfl (lv_at hl 3 rfl) ?_
                refine lv_iload_n C.x C.b dX9_goThrough_40 rfl (lv_at hl 2 rfl) ?_
                refine lv_iload C.x C.b dX9_goThrough_41 (lv_at hl 4 rfl) ?_
                obtain ⟨q4, eq4, hf⟩ := g_b hf
                refine g_calli G (g_runV (As := [.int v3, .int v2, .int v4]) (rest := []) C G 9 0 (c_X9_at l D cy A ad L σ hT v3 v2 v4 q4 eq4) ⟨tw1141, tw60, tw1138, ⟨tw1140, tw23⟩, hd_X9_at⟩ (by decide) hT rfl ⟨rfl, by decide⟩ hl.1 rfl (Nat.le_of_ble_eq_true rfl) dX9_goThrough_43 ⟨Nat.le_of_ble_eq_true rfl, Nat.le_of_ble_eq_true rfl⟩) (fun H locs G => ?_)
                refine lv_istore (lv' := [(5, .int q4), (0, .ref (ad 9 0)), (1, .int a1), (2, .int v2), (3, .int v3), (4, .int v4)]) C.x C.b dX9_goThrough_46 hl (by decide) rfl (fun ls hl => ?_)
                refine lv_aload_n C.x C.b dX9_goThrough_48 rfl (lv_at hl 1 rfl) ?_
                refine g_getr C G 9 0 18 58 hT rfl ginX9 (by decide) tw968 dX9_goThrough_49 (fun hL5 => ?_)
                refine lv_iload C.x C.b dX9_goThrough_52 (lv_at hl 0 rfl) ?_
                obtain ⟨hi6, hf⟩ := g_ok hf
                refine g_iald (n := 4800) C G 58 0 hL5 (by decide) rfl hi6 dX9_goThrough_54 ?_
                refine lv_if_lt (tgt := 108) C.x C.b dX9_goThrough_55 (by decide) (fun cb => ?_) (fun cb => ?_)
                · have hf := g_t cb hf
                  refine lv_iinc (v := (v4 + (1 : Int32))) (lv' := [(4, .int (v4 + (1 : Int32))), (5, .int q4), (0, .ref (ad 9 0)), (1, .int a1), (2, .int v2), (3, .int v3)]) C.x C.b dX9_goThrough_108 hl (k := 5) rfl rfl (by decide) rfl (fun ls hl => ?_)
                  refine lv_goto (tgt := 27) C.x C.b dX9_goThrough_111 (by decide) ?_
                  exact ih27 σ v2 v3 (v4 + (1 : Int32)) _ _ ls G (lv_sub hl [2, 3, 4, 5, 0] rfl) hf
                · have hf := g_f cb hf
                  refine lv_aload_n C.x C.b dX9_goThrough_58 rfl (lv_at hl 1 rfl) ?_
                  refine g_getr C G 9 0 19 59 hT rfl ginX9 (by decide) tw969 dX9_goThrough_59 (fun hL7 => ?_)
                  refine lv_iload C.x C.b dX9_goThrough_62 (lv_at hl 0 rfl) ?_
                  obtain ⟨hi8, hf⟩ := g_ok hf
                  refine g_zald (n := 4800) C G 59 0 hL7 (by decide) rfl hi8 dX9_goThrough_64 ?_
                  refine lv_if_ne (tgt := 108) C.x C.b dX9_goThrough_65 (by decide) (fun cb => ?_) (fun cb => ?_)
                  · have hf := g_f cb hf
                    refine lv_iinc (v := (v4 + (1 : Int32))) (lv' := [(4, .int (v4 + (1 : Int32))), (5, .int q4), (0, .ref (ad 9 0)), (1, .int a1), (2, .int v2), (3, .int v3)]) C.x C.b dX9_goThrough_108 hl (k := 5) rfl rfl (by decide) rfl (fun ls hl => ?_)
                    refine lv_goto (tgt := 27) C.x C.b dX9_goThrough_111 (by decide) ?_
                    exact ih27 σ v2 v3 (v4 + (1 : Int32)) _ _ ls G (lv_sub hl [2, 3, 4, 5, 0] rfl) hf
                  · have hf := g_t cb hf
                    refine lv_aload_n C.x C.b dX9_goThrough_68 rfl (lv_at hl 1 rfl) ?_
                    refine lv_iload C.x C.b dX9_goThrough_69 (lv_at hl 0 rfl) ?_
                    refine lv_iload_n C.x C.b dX9_goThrough_71 rfl (lv_at hl 4 rfl) ?_
                    refine lv_iload_n C.x C.b dX9_goThrough_72 rfl (lv_at hl 3 rfl) ?_
                    obtain ⟨q9, eq9, hf⟩ := g_b hf
                    refine g_calli G (g_runV (As := [.int q4, .int v3, .int v2]) (rest := []) C G 9 0 (c_X9_isRight l D cy A ad L σ hT q4 v3 v2 q9.1 q9.2 eq9) ⟨tw1233, tw60, tw1230, ⟨tw1232, tw37⟩, hd_X9_isRight⟩ (by decide) hT rfl ⟨rfl, by decide⟩ hl.1 rfl (Nat.le_of_ble_eq_true rfl) dX9_goThrough_73 ⟨Nat.le_of_ble_eq_true rfl, Nat.le_of_ble_eq_true rfl⟩) (fun H locs G => ?_)
                    refine lv_if_eq (tgt := 82) C.x C.b dX9_goThrough_76 (by decide) (fun cb => ?_) (fun cb => ?_)
                    · have hf := g_t cb hf
                      refine lv_aload_n C.x C.b dX9_goThrough_82 rfl (lv_at hl 1 rfl) ?_
                      refine g_geti C G 9 0 21 hT rfl ginX9 (by decide) tw971 dX9_goThrough_83 ?_
                      refine lv_iload_n C.x C.b dX9_goThrough_86 rfl (lv_at hl 2 rfl) ?_
                      refine lv_icmp_ne (tgt := 98) C.x C.b dX9_goThrough_87 (by decide) (fun cb => ?_) (fun cb => ?_)
                      · have hf := g_f cb hf
                        refine lv_aload_n C.x C.b dX9_goThrough_98 rfl (lv_at hl 1 rfl) ?_
                        refine lv_dup C.x C.b dX9_goThrough_99 rfl ?_
                        refine g_geti C G 9 0 21 hT rfl ginX9 (by decide) tw971 dX9_goThrough_100 ?_
                        refine lv_iconst (v := (1 : Int32)) C.x C.b dX9_goThrough_103 (by decide) ?_
                        refine lv_iadd C.x C.b dX9_goThrough_104 ?_
                        refine g_puti C G 9 0 21 hT (v := ((q9.2 9 0 21) + (1 : Int32))) rfl ginX9 tyX9_ok nmX9 (by decide) ⟨rfl, rfl⟩ tw971 dX9_goThrough_105 (fun H locs G => ?_)
                        obtain ⟨σ10, eσ10, hf⟩ := g_lt hf
                        rw [← eσ10] at G
                        refine lv_iinc (v := (v4 + (1 : Int32))) (lv' := [(4, .int (v4 + (1 : Int32))), (5, .int q4), (0, .ref (ad 9 0)), (1, .int a1), (2, .int v2), (3, .int v3)]) C.x C.b dX9_goThrough_108 hl (k := 5) rfl rfl (by decide) rfl (fun ls hl => ?_)
                        refine lv_goto (tgt := 27) C.x C.b dX9_goThrough_111 (by decide) ?_
                        exact ih27 σ10 v2 v3 (v4 + (1 : Int32)) _ _ ls G (lv_sub hl [2, 3, 4, 5, 0] rfl) hf
                      · have hf := g_t cb hf
                        refine lv_sipush (v := (1000 : Int32)) C.x C.b dX9_goThrough_90 (by decide) ?_
                        refine lv_iload_n C.x C.b dX9_goThrough_93 rfl (lv_at hl 4 rfl) ?_
                        refine lv_imul C.x C.b dX9_goThrough_94 ?_
                        refine lv_iload_n C.x C.b dX9_goThrough_95 rfl (lv_at hl 3 rfl) ?_
                        refine lv_iadd C.x C.b dX9_goThrough_96 ?_
                        exact g_eii C G hr hlocks hf dX9_goThrough_97
                    · have hf := g_f cb hf
                      refine lv_goto (tgt := 108) C.x C.b dX9_goThrough_79 (by decide) ?_
                      refine lv_iinc (v := (v4 + (1 : Int32))) (lv' := [(4, .int (v4 + (1 : Int32))), (5, .int q4), (0, .ref (ad 9 0)), (1, .int a1), (2, .int v2), (3, .int v3)]) C.x C.b dX9_goThrough_108 hl (k := 5) rfl rfl (by decide) rfl (fun ls hl => ?_)
                      refine lv_goto (tgt := 27) C.x C.b dX9_goThrough_111 (by decide) ?_
                      exact ih27 q9.2 v2 v3 (v4 + (1 : Int32)) _ _ ls G (lv_sub hl [2, 3, 4, 5, 0] rfl) hf
          intro σ v2 v3 H locs ls G hl hf
          rw [f_X9_goThrough_L16] at hf
          refine lv_iload_n C.x C.b dX9_goThrough_16 rfl (lv_at hl 3 rfl) ?_
          refine lv_aload_n C.x C.b dX9_goThrough_17 rfl (lv_at hl 0 rfl) ?_
          refine g_geti C G 9 0 1 hT rfl ginX9 (by decide) tw951 dX9_goThrough_18 ?_
          refine lv_icmp_ge (tgt := 120) C.x C.b dX9_goThrough_21 (by decide) (fun cb => ?_) (fun cb => ?_)
          · have hf := g_t cb hf
            exact pt120 σ v2 _ _ ls G (lv_sub hl [0, 1, 2] rfl) hf
          · have hf := g_f cb hf
            refine lv_iconst (v := (0 : Int32)) C.x C.b dX9_goThrough_24 (by decide) ?_
            refine lv_istore (lv' := [(4, .int (0 : Int32)), (0, .ref (ad 9 0)), (1, .int a1), (2, .int v2), (3, .int v3)]) C.x C.b dX9_goThrough_25 hl (by decide) rfl (fun ls hl => ?_)
            exact lp27 g_fuel σ v2 v3 (0 : Int32) _ _ ls G (lv_sub hl [1, 2, 3, 4, 0] rfl) hf
      intro σ v2 H locs ls G hl hf
      rw [f_X9_goThrough_L7] at hf
      refine lv_iload_n C.x C.b dX9_goThrough_7 rfl (lv_at hl 2 rfl) ?_
      refine lv_sipush (v := (200 : Int32)) C.x C.b dX9_goThrough_8 (by decide) ?_
      refine lv_icmp_ge (tgt := 126) C.x C.b dX9_goThrough_11 (by decide) (fun cb => ?_) (fun cb => ?_)
      · have hf := g_t cb hf
        exact pt126 σ _ _ ls G (lv_sub hl [] rfl) hf
      · have hf := g_f cb hf
        refine lv_iconst (v := (0 : Int32)) C.x C.b dX9_goThrough_14 (by decide) ?_
        refine lv_istore_n (lv' := [(3, .int (0 : Int32)), (0, .ref (ad 9 0)), (1, .int a1), (2, .int v2)]) C.x C.b dX9_goThrough_15 rfl hl (by decide) rfl (fun ls hl => ?_)
        exact lp16 g_fuel σ v2 (0 : Int32) _ _ ls G (lv_sub hl [1, 2, 3, 0] rfl) hf
  unfold f_X9_goThrough at hf
  refine lv_aload_n C.x C.b dX9_goThrough_0 rfl (lv_at hl 0 rfl) ?_
  refine lv_iconst (v := (0 : Int32)) C.x C.b dX9_goThrough_1 (by decide) ?_
  refine g_puti C G 9 0 21 hT (v := (0 : Int32)) rfl ginX9 tyX9_ok nmX9 (by decide) ⟨rfl, rfl⟩ tw971 dX9_goThrough_2 (fun H locs G => ?_)
  obtain ⟨σ1, eσ1, hf⟩ := g_lt hf
  rw [← eσ1] at G
  refine lv_iconst (v := (0 : Int32)) C.x C.b dX9_goThrough_5 (by decide) ?_
  refine lv_istore_n (lv' := [(2, .int (0 : Int32)), (0, .ref (ad 9 0)), (1, .int a1)]) C.x C.b dX9_goThrough_6 rfl hl (by decide) rfl (fun ls hl => ?_)
  exact lp7 g_fuel σ1 (0 : Int32) _ _ ls G (lv_sub hl [1, 2, 0] rfl) hf
def f_X9_breaches (ad : gA) (σ : gS) : Option (Int32 × gS) := ((f_X9_goThrough ad σ (-1 : Int32)).bind fun q1 => (some ((q1.2 9 0 21), q1.2)))
theorem hd_X9_breaches : yX9_breaches.cls ≠ "java/lang/invoke/MethodHandle" ∧ yX9_breaches.cls ≠ "java/lang/invoke/VarHandle" ∧ (parseMethodDescriptor yX9_breaches.desc).map (fun d => d.parameters.length) = some 0 := by decide +kernel
set_option maxHeartbeats 4000000 in
set_option maxRecDepth 100000 in
theorem c_X9_breaches (l : Launch) (D : va_G) (cy : Nat → ClassId) (A : Nat → Prop) (ad : gA) (L : gL)  (σ : gS) (hT : (9, 0) ∈ L) (r0 : Int32) (σ0 : gS) (hf : f_X9_breaches ad σ = some (r0, σ0)) : g_Mi l yX9_breaches cX9_breaches 2 (some .int) ({ frames := 8, cells := 0, slots := 0, locals := 194 } : Room) D cy A ad L σ [.ref (ad 9 0)] r0 σ0 := by
  refine g_met (by decide) (Nat.le_of_ble_eq_true rfl) (fun p e s m below meth c C hr hlocks hnm G ls hl => ?_)
  have hl : lv_has ls 2 [(0, .ref (ad 9 0))] := hl
  unfold f_X9_breaches at hf
  refine lv_aload_n C.x C.b dX9_breaches_0 rfl (lv_at hl 0 rfl) ?_
  refine lv_iconst (v := (-1 : Int32)) C.x C.b dX9_breaches_1 (by decide) ?_
  obtain ⟨q1, eq1, hf⟩ := g_b hf
  refine g_calli G (g_runV (As := [.int (-1 : Int32)]) (rest := []) C G 9 0 (c_X9_goThrough l D cy A ad L σ hT (-1 : Int32) q1.1 q1.2 eq1) ⟨tw1229, tw60, tw1226, ⟨tw1228, tw36⟩, hd_X9_goThrough⟩ (by decide) hT rfl ⟨rfl, by decide⟩ hl.1 rfl (Nat.le_of_ble_eq_true rfl) dX9_breaches_2 ⟨Nat.le_of_ble_eq_true rfl, Nat.le_of_ble_eq_true rfl⟩) (fun H locs G => ?_)
  refine lv_istore_n (lv' := [(1, .int q1.1), (0, .ref (ad 9 0))]) C.x C.b dX9_breaches_5 rfl hl (by decide) rfl (fun ls hl => ?_)
  refine lv_aload_n C.x C.b dX9_breaches_6 rfl (lv_at hl 1 rfl) ?_
  refine g_geti C G 9 0 21 hT rfl ginX9 (by decide) tw971 dX9_breaches_7 ?_
  exact g_eii C G hr hlocks hf dX9_breaches_10
def f_X9_breach (ad : gA) (σ : gS) (a1 : Int32) : Option (Int32 × gS) := (if 0 ≤ a1 then ((f_X9_goThrough ad σ a1).bind fun q1 => (some (q1.1, q1.2))) else (some ((-1 : Int32), σ)))
theorem hd_X9_breach : yX9_breach.cls ≠ "java/lang/invoke/MethodHandle" ∧ yX9_breach.cls ≠ "java/lang/invoke/VarHandle" ∧ (parseMethodDescriptor yX9_breach.desc).map (fun d => d.parameters.length) = some 1 := by decide +kernel
set_option maxHeartbeats 4000000 in
set_option maxRecDepth 100000 in
theorem c_X9_breach (l : Launch) (D : va_G) (cy : Nat → ClassId) (A : Nat → Prop) (ad : gA) (L : gL)  (σ : gS) (hT : (9, 0) ∈ L) (a1 : Int32) (r0 : Int32) (σ0 : gS) (hf : f_X9_breach ad σ a1 = some (r0, σ0)) : g_Mi l yX9_breach cX9_breach 2 (some .int) ({ frames := 8, cells := 0, slots := 0, locals := 194 } : Room) D cy A ad L σ [.ref (ad 9 0), .int a1] r0 σ0 := by
  refine g_met (by decide) (Nat.le_of_ble_eq_true rfl) (fun p e s m below meth c C hr hlocks hnm G ls hl => ?_)
  have hl : lv_has ls 2 [(0, .ref (ad 9 0)), (1, .int a1)] := hl
  unfold f_X9_breach at hf
  refine lv_iload_n C.x C.b dX9_breach_0 rfl (lv_at hl 1 rfl) ?_
  refine lv_if_ge (tgt := 8) C.x C.b dX9_breach_1 (by decide) (fun cb => ?_) (fun cb => ?_)
  · have hf := g_t cb hf
    refine lv_aload_n C.x C.b dX9_breach_8 rfl (lv_at hl 0 rfl) ?_
    refine lv_iload_n C.x C.b dX9_breach_9 rfl (lv_at hl 1 rfl) ?_
    obtain ⟨q1, eq1, hf⟩ := g_b hf
    refine g_calli G (g_runV (As := [.int a1]) (rest := []) C G 9 0 (c_X9_goThrough l D cy A ad L σ hT a1 q1.1 q1.2 eq1) ⟨tw1229, tw60, tw1226, ⟨tw1228, tw36⟩, hd_X9_goThrough⟩ (by decide) hT rfl ⟨rfl, by decide⟩ hl.1 rfl (Nat.le_of_ble_eq_true rfl) dX9_breach_10 ⟨Nat.le_of_ble_eq_true rfl, Nat.le_of_ble_eq_true rfl⟩) (fun H locs G => ?_)
    exact g_eii C G hr hlocks hf dX9_breach_13
  · have hf := g_f cb hf
    refine lv_iconst (v := (-1 : Int32)) C.x C.b dX9_breach_4 (by decide) ?_
    refine lv_goto (tgt := 13) C.x C.b dX9_breach_5 (by decide) ?_
    exact g_eii C G hr hlocks hf dX9_breach_13
def f_X9_areAllRight_P52 (σ : gS) (v2 : Int32) : Option (Int32 × gS) := (if g_bo v2 then (some (v2, σ)) else none)
def f_X9_areAllRight_L4 (ad : gA) (a1 : Int32) (K4 : gS → Int32 → Option (Int32 × gS)) : Nat → gS → Int32 → Int32 → Option (Int32 × gS)
  | 0, _, _, _ => none
  | n + 1, σ, v2, v3 => (if (σ 9 0 22) ≤ v3 then (K4 σ v2) else (if v2 = 0 then (f_X9_areAllRight_L4 ad a1 K4 n σ (0 : Int32) (v3 + (1 : Int32))) else (if g_ix v3 24 then (if g_ix v3 24 then ((f_X9_officeAt ad σ (σ 67 0 v3.toNatClampNeg)).bind fun q5 => ((f_X9_isRight ad σ (σ 67 0 v3.toNatClampNeg) q5 a1).bind fun q6 => (if q6.1 = 0 then (f_X9_areAllRight_L4 ad a1 K4 n q6.2 (0 : Int32) (v3 + (1 : Int32))) else (f_X9_areAllRight_L4 ad a1 K4 n q6.2 (1 : Int32) (v3 + (1 : Int32)))))) else none) else none)))
def f_X9_areAllRight (ad : gA) (σ : gS) (a1 : Int32) : Option (Int32 × gS) := (f_X9_areAllRight_L4 ad a1 (f_X9_areAllRight_P52) g_fuel σ (1 : Int32) (0 : Int32))
theorem hd_X9_areAllRight : yX9_areAllRight.cls ≠ "java/lang/invoke/MethodHandle" ∧ yX9_areAllRight.cls ≠ "java/lang/invoke/VarHandle" ∧ (parseMethodDescriptor yX9_areAllRight.desc).map (fun d => d.parameters.length) = some 1 := by decide +kernel
set_option maxHeartbeats 4000000 in
set_option maxRecDepth 100000 in
theorem c_X9_areAllRight (l : Launch) (D : va_G) (cy : Nat → ClassId) (A : Nat → Prop) (ad : gA) (L : gL)  (σ : gS) (hT : (9, 0) ∈ L) (a1 : Int32) (r0 : Int32) (σ0 : gS) (hf : f_X9_areAllRight ad σ a1 = some (r0, σ0)) : g_Mi l yX9_areAllRight cX9_areAllRight 4 (some .boolean) ({ frames := 7, cells := 0, slots := 0, locals := 169 } : Room) D cy A ad L σ [.ref (ad 9 0), .int a1] r0 σ0 := by
  refine g_met (by decide) (Nat.le_of_ble_eq_true rfl) (fun p e s m below meth c C hr hlocks hnm G ls hl => ?_)
  have hl : lv_has ls 4 [(0, .ref (ad 9 0)), (1, .int a1)] := hl
  have pt52 : ∀ (σ : gS) (v2 : Int32) (H : Heap) (locs : List Loc) (ls : Array Slot), g_H D cy A ad L σ s.heap H locs → lv_has ls 4 [(2, .int v2)] → f_X9_areAllRight_P52 σ v2 = some (r0, σ0) → g_Wi p l e ({ frames := 7, cells := 0, slots := 0, locals := 169 } : Room) s m below meth c H locs 0 0 D cy A ad L [.ref (ad 9 0), .int a1] r0 σ0 (F0 m 52 ls []) := by
    intro σ v2 H locs ls G hl hf
    unfold f_X9_areAllRight_P52 at hf
    refine lv_iload_n C.x C.b dX9_areAllRight_52 rfl (lv_at hl 0 rfl) ?_
    obtain ⟨hbo, hf⟩ := g_ok hf
    exact g_ezi C G hr hlocks hf (g_bo_fit hbo).1 dX9_areAllRight_53
  have lp4 : ∀ n4 : Nat, ∀ (σ : gS) (v2 : Int32) (v3 : Int32) (H : Heap) (locs : List Loc) (ls : Array Slot), g_H D cy A ad L σ s.heap H locs → lv_has ls 4 [(0, .ref (ad 9 0)), (1, .int a1), (2, .int v2), (3, .int v3)] → f_X9_areAllRight_L4 ad a1 (f_X9_areAllRight_P52) n4 σ v2 v3 = some (r0, σ0) → g_Wi p l e ({ frames := 7, cells := 0, slots := 0, locals := 169 } : Room) s m below meth c H locs 0 0 D cy A ad L [.ref (ad 9 0), .int a1] r0 σ0 (F0 m 4 ls []) := by
    intro n4
    induction n4 with
    | zero =>
      intro σ v2 v3 H locs ls G hl hf
      rw [f_X9_areAllRight_L4] at hf
      cases hf
    | succ n4 ih4 =>
      intro σ v2 v3 H locs ls G hl hf
      rw [f_X9_areAllRight_L4] at hf
      refine lv_iload_n C.x C.b dX9_areAllRight_4 rfl (lv_at hl 3 rfl) ?_
      refine lv_aload_n C.x C.b dX9_areAllRight_5 rfl (lv_at hl 0 rfl) ?_
      refine g_geti C G 9 0 22 hT rfl ginX9 (by decide) tw972 dX9_areAllRight_6 ?_
      refine lv_icmp_ge (tgt := 52) C.x C.b dX9_areAllRight_9 (by decide) (fun cb => ?_) (fun cb => ?_)
      · have hf := g_t cb hf
        exact pt52 σ v2 _ _ ls G (lv_sub hl [2] rfl) hf
      · have hf := g_f cb hf
        refine lv_iload_n C.x C.b dX9_areAllRight_12 rfl (lv_at hl 2 rfl) ?_
        refine lv_if_eq (tgt := 44) C.x C.b dX9_areAllRight_13 (by decide) (fun cb => ?_) (fun cb => ?_)
        · have hf := g_t cb hf
          refine lv_iconst (v := (0 : Int32)) C.x C.b dX9_areAllRight_44 (by decide) ?_
          refine lv_istore_n (lv' := [(2, .int (0 : Int32)), (0, .ref (ad 9 0)), (1, .int a1), (3, .int v3)]) C.x C.b dX9_areAllRight_45 rfl hl (by decide) rfl (fun ls hl => ?_)
          refine lv_iinc (v := (v3 + (1 : Int32))) (lv' := [(3, .int (v3 + (1 : Int32))), (2, .int (0 : Int32)), (0, .ref (ad 9 0)), (1, .int a1)]) C.x C.b dX9_areAllRight_46 hl (k := 3) rfl rfl (by decide) rfl (fun ls hl => ?_)
          refine lv_goto (tgt := 4) C.x C.b dX9_areAllRight_49 (by decide) ?_
          exact ih4 σ (0 : Int32) (v3 + (1 : Int32)) _ _ ls G (lv_sub hl [2, 3, 1, 0] rfl) hf
        · have hf := g_f cb hf
          refine lv_aload_n C.x C.b dX9_areAllRight_16 rfl (lv_at hl 0 rfl) ?_
          refine lv_aload_n C.x C.b dX9_areAllRight_17 rfl (lv_at hl 0 rfl) ?_
          refine g_getr C G 9 0 27 67 hT rfl ginX9 (by decide) tw977 dX9_areAllRight_18 (fun hL1 => ?_)
          refine lv_iload_n C.x C.b dX9_areAllRight_21 rfl (lv_at hl 3 rfl) ?_
          obtain ⟨hi2, hf⟩ := g_ok hf
          refine g_iald (n := 24) C G 67 0 hL1 (by decide) rfl hi2 dX9_areAllRight_22 ?_
          refine lv_aload_n C.x C.b dX9_areAllRight_23 rfl (lv_at hl 0 rfl) ?_
          refine lv_aload_n C.x C.b dX9_areAllRight_24 rfl (lv_at hl 0 rfl) ?_
          refine g_getr C G 9 0 27 67 hT rfl ginX9 (by decide) tw977 dX9_areAllRight_25 (fun hL3 => ?_)
          refine lv_iload_n C.x C.b dX9_areAllRight_28 rfl (lv_at hl 3 rfl) ?_
          obtain ⟨hi4, hf⟩ := g_ok hf
          refine g_iald (n := 24) C G 67 0 hL3 (by decide) rfl hi4 dX9_areAllRight_29 ?_
          obtain ⟨q5, eq5, hf⟩ := g_b hf
          refine g_calli G (g_runV (As := [.int (σ 67 0 v3.toNatClampNeg)]) (rest := [.int (σ 67 0 v3.toNatClampNeg), .ref (ad 9 0)]) C G 9 0 (c_X9_officeAt l D cy A ad L σ hT (σ 67 0 v3.toNatClampNeg) q5 eq5) ⟨tw1173, tw60, tw1170, ⟨tw1172, tw27⟩, hd_X9_officeAt⟩ (by decide) hT rfl ⟨rfl, by decide⟩ hl.1 rfl (Nat.le_of_ble_eq_true rfl) dX9_areAllRight_30 ⟨Nat.le_of_ble_eq_true rfl, Nat.le_of_ble_eq_true rfl⟩) (fun H locs G => ?_)
          refine lv_iload_n C.x C.b dX9_areAllRight_33 rfl (lv_at hl 1 rfl) ?_
          obtain ⟨q6, eq6, hf⟩ := g_b hf
          refine g_calli G (g_runV (As := [.int (σ 67 0 v3.toNatClampNeg), .int q5, .int a1]) (rest := []) C G 9 0 (c_X9_isRight l D cy A ad L σ hT (σ 67 0 v3.toNatClampNeg) q5 a1 q6.1 q6.2 eq6) ⟨tw1233, tw60, tw1230, ⟨tw1232, tw37⟩, hd_X9_isRight⟩ (by decide) hT rfl ⟨rfl, by decide⟩ hl.1 rfl (Nat.le_of_ble_eq_true rfl) dX9_areAllRight_34 ⟨Nat.le_of_ble_eq_true rfl, Nat.le_of_ble_eq_true rfl⟩) (fun H locs G => ?_)
          refine lv_if_eq (tgt := 44) C.x C.b dX9_areAllRight_37 (by decide) (fun cb => ?_) (fun cb => ?_)
          · have hf := g_t cb hf
            refine lv_iconst (v := (0 : Int32)) C.x C.b dX9_areAllRight_44 (by decide) ?_
            refine lv_istore_n (lv' := [(2, .int (0 : Int32)), (0, .ref (ad 9 0)), (1, .int a1), (3, .int v3)]) C.x C.b dX9_areAllRight_45 rfl hl (by decide) rfl (fun ls hl => ?_)
            refine lv_iinc (v := (v3 + (1 : Int32))) (lv' := [(3, .int (v3 + (1 : Int32))), (2, .int (0 : Int32)), (0, .ref (ad 9 0)), (1, .int a1)]) C.x C.b dX9_areAllRight_46 hl (k := 3) rfl rfl (by decide) rfl (fun ls hl => ?_)
            refine lv_goto (tgt := 4) C.x C.b dX9_areAllRight_49 (by decide) ?_
            exact ih4 q6.2 (0 : Int32) (v3 + (1 : Int32)) _ _ ls G (lv_sub hl [2, 3, 1, 0] rfl) hf
          · have hf := g_f cb hf
            refine lv_iconst (v := (1 : Int32)) C.x C.b dX9_areAllRight_40 (by decide) ?_
            refine lv_goto (tgt := 45) C.x C.b dX9_areAllRight_41 (by decide) ?_
            refine lv_istore_n (lv' := [(2, .int (1 : Int32)), (0, .ref (ad 9 0)), (1, .int a1), (3, .int v3)]) C.x C.b dX9_areAllRight_45 rfl hl (by decide) rfl (fun ls hl => ?_)
            refine lv_iinc (v := (v3 + (1 : Int32))) (lv' := [(3, .int (v3 + (1 : Int32))), (2, .int (1 : Int32)), (0, .ref (ad 9 0)), (1, .int a1)]) C.x C.b dX9_areAllRight_46 hl (k := 3) rfl rfl (by decide) rfl (fun ls hl => ?_)
            refine lv_goto (tgt := 4) C.x C.b dX9_areAllRight_49 (by decide) ?_
            exact ih4 q6.2 (1 : Int32) (v3 + (1 : Int32)) _ _ ls G (lv_sub hl [2, 3, 1, 0] rfl) hf
  unfold f_X9_areAllRight at hf
  refine lv_iconst (v := (1 : Int32)) C.x C.b dX9_areAllRight_0 (by decide) ?_
  refine lv_istore_n (lv' := [(2, .int (1 : Int32)), (0, .ref (ad 9 0)), (1, .int a1)]) C.x C.b dX9_areAllRight_1 rfl hl (by decide) rfl (fun ls hl => ?_)
  refine lv_iconst (v := (0 : Int32)) C.x C.b dX9_areAllRight_2 (by decide) ?_
  refine lv_istore_n (lv' := [(3, .int (0 : Int32)), (2, .int (1 : Int32)), (0, .ref (ad 9 0)), (1, .int a1)]) C.x C.b dX9_areAllRight_3 rfl hl (by decide) rfl (fun ls hl => ?_)
  exact lp4 g_fuel σ (1 : Int32) (0 : Int32) _ _ ls G (lv_sub hl [2, 3, 1, 0] rfl) hf
def f_X9_takeBack (ad : gA) (σ : gS) (a1 : Int32) (a2 : Int32) : Option gS := (if g_ix a1 24 then (if g_ix (σ 67 0 a1.toNatClampNeg) 4800 then (if g_ix (((200 : Int32) * (σ 58 0 ((σ 67 0 a1.toNatClampNeg).toNatClampNeg))) + a2) 4800 then (g_let (g_up σ 60 0 ((((200 : Int32) * (σ 58 0 ((σ 67 0 a1.toNatClampNeg).toNatClampNeg))) + a2).toNatClampNeg) (-1 : Int32)) fun σ7 => (if g_ix a1 24 then (if g_ix (σ7 67 0 a1.toNatClampNeg) 4800 then (g_let (g_up σ7 58 0 ((σ7 67 0 a1.toNatClampNeg).toNatClampNeg) (-1 : Int32)) fun σ12 => (some σ12)) else none) else none)) else none) else none) else none)
theorem hd_X9_takeBack : yX9_takeBack.cls ≠ "java/lang/invoke/MethodHandle" ∧ yX9_takeBack.cls ≠ "java/lang/invoke/VarHandle" ∧ (parseMethodDescriptor yX9_takeBack.desc).map (fun d => d.parameters.length) = some 2 := by decide +kernel
set_option maxHeartbeats 4000000 in
set_option maxRecDepth 100000 in
theorem c_X9_takeBack (l : Launch) (D : va_G) (cy : Nat → ClassId) (A : Nat → Prop) (ad : gA) (L : gL)  (σ : gS) (hT : (9, 0) ∈ L) (a1 : Int32) (a2 : Int32) (σ0 : gS) (hf : f_X9_takeBack ad σ a1 a2 = some σ0) : g_Mv l yX9_takeBack cX9_takeBack 4 none ({ frames := 0, cells := 0, slots := 0, locals := 0 } : Room) D cy A ad L σ [.ref (ad 9 0), .int a1, .int a2] σ0 := by
  refine g_met (by decide) (Nat.le_of_ble_eq_true rfl) (fun p e s m below meth c C hr hlocks hnm G ls hl => ?_)
  have hl : lv_has ls 4 [(0, .ref (ad 9 0)), (1, .int a1), (2, .int a2)] := hl
  unfold f_X9_takeBack at hf
  refine lv_aload_n C.x C.b dX9_takeBack_0 rfl (lv_at hl 0 rfl) ?_
  refine g_getr C G 9 0 18 58 hT rfl ginX9 (by decide) tw968 dX9_takeBack_1 (fun hL1 => ?_)
  refine lv_aload_n C.x C.b dX9_takeBack_4 rfl (lv_at hl 0 rfl) ?_
  refine g_getr C G 9 0 27 67 hT rfl ginX9 (by decide) tw977 dX9_takeBack_5 (fun hL2 => ?_)
  refine lv_iload_n C.x C.b dX9_takeBack_8 rfl (lv_at hl 1 rfl) ?_
  obtain ⟨hi3, hf⟩ := g_ok hf
  refine g_iald (n := 24) C G 67 0 hL2 (by decide) rfl hi3 dX9_takeBack_9 ?_
  obtain ⟨hi4, hf⟩ := g_ok hf
  refine g_iald (n := 4800) C G 58 0 hL1 (by decide) rfl hi4 dX9_takeBack_10 ?_
  refine lv_istore_n (lv' := [(3, .int (σ 58 0 ((σ 67 0 a1.toNatClampNeg).toNatClampNeg))), (0, .ref (ad 9 0)), (1, .int a1), (2, .int a2)]) C.x C.b dX9_takeBack_11 rfl hl (by decide) rfl (fun ls hl => ?_)
  refine lv_aload_n C.x C.b dX9_takeBack_12 rfl (lv_at hl 1 rfl) ?_
  refine g_getr C G 9 0 20 60 hT rfl ginX9 (by decide) tw970 dX9_takeBack_13 (fun hL5 => ?_)
  refine lv_sipush (v := (200 : Int32)) C.x C.b dX9_takeBack_16 (by decide) ?_
  refine lv_iload_n C.x C.b dX9_takeBack_19 rfl (lv_at hl 0 rfl) ?_
  refine lv_imul C.x C.b dX9_takeBack_20 ?_
  refine lv_iload_n C.x C.b dX9_takeBack_21 rfl (lv_at hl 3 rfl) ?_
  refine lv_iadd C.x C.b dX9_takeBack_22 ?_
  refine lv_iconst (v := (-1 : Int32)) C.x C.b dX9_takeBack_23 (by decide) ?_
  obtain ⟨hi6, hf⟩ := g_ok hf
  refine g_iast (n := 4800) C G 60 0 hL5 (by decide) rfl hi6 dX9_takeBack_24 (fun H locs G => ?_)
  obtain ⟨σ7, eσ7, hf⟩ := g_lt hf
  rw [← eσ7] at G
  refine lv_aload_n C.x C.b dX9_takeBack_25 rfl (lv_at hl 1 rfl) ?_
  refine g_getr C G 9 0 18 58 hT rfl ginX9 (by decide) tw968 dX9_takeBack_26 (fun hL8 => ?_)
  refine lv_aload_n C.x C.b dX9_takeBack_29 rfl (lv_at hl 1 rfl) ?_
  refine g_getr C G 9 0 27 67 hT rfl ginX9 (by decide) tw977 dX9_takeBack_30 (fun hL9 => ?_)
  refine lv_iload_n C.x C.b dX9_takeBack_33 rfl (lv_at hl 2 rfl) ?_
  obtain ⟨hi10, hf⟩ := g_ok hf
  refine g_iald (n := 24) C G 67 0 hL9 (by decide) rfl hi10 dX9_takeBack_34 ?_
  refine lv_iconst (v := (-1 : Int32)) C.x C.b dX9_takeBack_35 (by decide) ?_
  obtain ⟨hi11, hf⟩ := g_ok hf
  refine g_iast (n := 4800) C G 58 0 hL8 (by decide) rfl hi11 dX9_takeBack_36 (fun H locs G => ?_)
  obtain ⟨σ12, eσ12, hf⟩ := g_lt hf
  rw [← eσ12] at G
  exact g_evi C G hr hlocks hf dX9_takeBack_37
def f_X9_isAmong_P53  : Option Int32 := (some (0 : Int32))
def f_X9_isAmong_L2 (ad : gA) (σ : gS) (K2 : Option Int32) : Nat → Int32 → Option Int32
  | 0, _ => none
  | n + 1, v1 => (if (σ 9 0 22) ≤ v1 then (K2) else (if g_ix v1 24 then (if g_ix (σ 67 0 v1.toNatClampNeg) 4800 then (if (σ 58 0 ((σ 67 0 v1.toNatClampNeg).toNatClampNeg)) = (σ 9 0 24) then (if g_ix v1 24 then ((f_X9_officeAt ad σ (σ 67 0 v1.toNatClampNeg)).bind fun q7 => (if q7 = (σ 9 0 25) then (some (1 : Int32)) else (f_X9_isAmong_L2 ad σ K2 n (v1 + (1 : Int32))))) else none) else (f_X9_isAmong_L2 ad σ K2 n (v1 + (1 : Int32)))) else none) else none))
def f_X9_isAmong (ad : gA) (σ : gS) : Option Int32 := (f_X9_isAmong_L2 ad σ (f_X9_isAmong_P53) g_fuel (0 : Int32))
theorem hd_X9_isAmong : yX9_isAmong.cls ≠ "java/lang/invoke/MethodHandle" ∧ yX9_isAmong.cls ≠ "java/lang/invoke/VarHandle" ∧ (parseMethodDescriptor yX9_isAmong.desc).map (fun d => d.parameters.length) = some 0 := by decide +kernel
set_option maxHeartbeats 4000000 in
set_option maxRecDepth 100000 in
theorem c_X9_isAmong (l : Launch) (D : va_G) (cy : Nat → ClassId) (A : Nat → Prop) (ad : gA) (L : gL)  (σ : gS) (hT : (9, 0) ∈ L) (r0 : Int32) (hf : f_X9_isAmong ad σ = some r0) : g_Mi l yX9_isAmong cX9_isAmong 2 (some .boolean) ({ frames := 1, cells := 0, slots := 0, locals := 21 } : Room) D cy A ad L σ [.ref (ad 9 0)] r0 σ := by
  refine g_met (by decide) (Nat.le_of_ble_eq_true rfl) (fun p e s m below meth c C hr hlocks hnm G ls hl => ?_)
  have hl : lv_has ls 2 [(0, .ref (ad 9 0))] := hl
  have pt53 : ∀ (H : Heap) (locs : List Loc) (ls : Array Slot), g_H D cy A ad L σ s.heap H locs → lv_has ls 2 [] → f_X9_isAmong_P53  = some r0 → g_Wi p l e ({ frames := 1, cells := 0, slots := 0, locals := 21 } : Room) s m below meth c H locs 0 0 D cy A ad L [.ref (ad 9 0)] r0 σ (F0 m 53 ls []) := by
    intro H locs ls G hl hf
    unfold f_X9_isAmong_P53 at hf
    refine lv_iconst (v := (0 : Int32)) C.x C.b dX9_isAmong_53 (by decide) ?_
    exact g_ezp C G hr hlocks hf rfl dX9_isAmong_54
  have lp2 : ∀ n2 : Nat, ∀ (v1 : Int32) (H : Heap) (locs : List Loc) (ls : Array Slot), g_H D cy A ad L σ s.heap H locs → lv_has ls 2 [(0, .ref (ad 9 0)), (1, .int v1)] → f_X9_isAmong_L2 ad σ (f_X9_isAmong_P53) n2 v1 = some r0 → g_Wi p l e ({ frames := 1, cells := 0, slots := 0, locals := 21 } : Room) s m below meth c H locs 0 0 D cy A ad L [.ref (ad 9 0)] r0 σ (F0 m 2 ls []) := by
    intro n2
    induction n2 with
    | zero =>
      intro v1 H locs ls G hl hf
      rw [f_X9_isAmong_L2] at hf
      cases hf
    | succ n2 ih2 =>
      intro v1 H locs ls G hl hf
      rw [f_X9_isAmong_L2] at hf
      refine lv_iload_n C.x C.b dX9_isAmong_2 rfl (lv_at hl 1 rfl) ?_
      refine lv_aload_n C.x C.b dX9_isAmong_3 rfl (lv_at hl 0 rfl) ?_
      refine g_geti C G 9 0 22 hT rfl ginX9 (by decide) tw972 dX9_isAmong_4 ?_
      refine lv_icmp_ge (tgt := 53) C.x C.b dX9_isAmong_7 (by decide) (fun cb => ?_) (fun cb => ?_)
      · have hf := g_t cb hf
        exact pt53  _ _ ls G (lv_sub hl [] rfl) hf
      · have hf := g_f cb hf
        refine lv_aload_n C.x C.b dX9_isAmong_10 rfl (lv_at hl 0 rfl) ?_
        refine g_getr C G 9 0 18 58 hT rfl ginX9 (by decide) tw968 dX9_isAmong_11 (fun hL1 => ?_)
        refine lv_aload_n C.x C.b dX9_isAmong_14 rfl (lv_at hl 0 rfl) ?_
        refine g_getr C G 9 0 27 67 hT rfl ginX9 (by decide) tw977 dX9_isAmong_15 (fun hL2 => ?_)
        refine lv_iload_n C.x C.b dX9_isAmong_18 rfl (lv_at hl 1 rfl) ?_
        obtain ⟨hi3, hf⟩ := g_ok hf
        refine g_iald (n := 24) C G 67 0 hL2 (by decide) rfl hi3 dX9_isAmong_19 ?_
        obtain ⟨hi4, hf⟩ := g_ok hf
        refine g_iald (n := 4800) C G 58 0 hL1 (by decide) rfl hi4 dX9_isAmong_20 ?_
        refine lv_aload_n C.x C.b dX9_isAmong_21 rfl (lv_at hl 0 rfl) ?_
        refine g_geti C G 9 0 24 hT rfl ginX9 (by decide) tw974 dX9_isAmong_22 ?_
        refine lv_icmp_ne (tgt := 47) C.x C.b dX9_isAmong_25 (by decide) (fun cb => ?_) (fun cb => ?_)
        · have hf := g_f cb hf
          refine lv_iinc (v := (v1 + (1 : Int32))) (lv' := [(1, .int (v1 + (1 : Int32))), (0, .ref (ad 9 0))]) C.x C.b dX9_isAmong_47 hl (k := 1) rfl rfl (by decide) rfl (fun ls hl => ?_)
          refine lv_goto (tgt := 2) C.x C.b dX9_isAmong_50 (by decide) ?_
          exact ih2 (v1 + (1 : Int32)) _ _ ls G (lv_sub hl [1, 0] rfl) hf
        · have hf := g_t cb hf
          refine lv_aload_n C.x C.b dX9_isAmong_28 rfl (lv_at hl 0 rfl) ?_
          refine lv_aload_n C.x C.b dX9_isAmong_29 rfl (lv_at hl 0 rfl) ?_
          refine g_getr C G 9 0 27 67 hT rfl ginX9 (by decide) tw977 dX9_isAmong_30 (fun hL5 => ?_)
          refine lv_iload_n C.x C.b dX9_isAmong_33 rfl (lv_at hl 1 rfl) ?_
          obtain ⟨hi6, hf⟩ := g_ok hf
          refine g_iald (n := 24) C G 67 0 hL5 (by decide) rfl hi6 dX9_isAmong_34 ?_
          obtain ⟨q7, eq7, hf⟩ := g_b hf
          refine g_calli G (g_runV (As := [.int (σ 67 0 v1.toNatClampNeg)]) (rest := []) C G 9 0 (c_X9_officeAt l D cy A ad L σ hT (σ 67 0 v1.toNatClampNeg) q7 eq7) ⟨tw1173, tw60, tw1170, ⟨tw1172, tw27⟩, hd_X9_officeAt⟩ (by decide) hT rfl ⟨rfl, by decide⟩ hl.1 rfl (Nat.le_of_ble_eq_true rfl) dX9_isAmong_35 ⟨Nat.le_of_ble_eq_true rfl, Nat.le_of_ble_eq_true rfl⟩) (fun H locs G => ?_)
          refine lv_aload_n C.x C.b dX9_isAmong_38 rfl (lv_at hl 0 rfl) ?_
          refine g_geti C G 9 0 25 hT rfl ginX9 (by decide) tw975 dX9_isAmong_39 ?_
          refine lv_icmp_ne (tgt := 47) C.x C.b dX9_isAmong_42 (by decide) (fun cb => ?_) (fun cb => ?_)
          · have hf := g_f cb hf
            refine lv_iinc (v := (v1 + (1 : Int32))) (lv' := [(1, .int (v1 + (1 : Int32))), (0, .ref (ad 9 0))]) C.x C.b dX9_isAmong_47 hl (k := 1) rfl rfl (by decide) rfl (fun ls hl => ?_)
            refine lv_goto (tgt := 2) C.x C.b dX9_isAmong_50 (by decide) ?_
            exact ih2 (v1 + (1 : Int32)) _ _ ls G (lv_sub hl [1, 0] rfl) hf
          · have hf := g_t cb hf
            refine lv_iconst (v := (1 : Int32)) C.x C.b dX9_isAmong_45 (by decide) ?_
            exact g_ezp C G hr hlocks hf rfl dX9_isAmong_46
  unfold f_X9_isAmong at hf
  refine lv_iconst (v := (0 : Int32)) C.x C.b dX9_isAmong_0 (by decide) ?_
  refine lv_istore_n (lv' := [(1, .int (0 : Int32)), (0, .ref (ad 9 0))]) C.x C.b dX9_isAmong_1 rfl hl (by decide) rfl (fun ls hl => ?_)
  exact lp2 g_fuel (0 : Int32) _ _ ls G (lv_sub hl [1, 0] rfl) hf
def f_X9_fillYear_P358 (σ : gS) (v3 : Int32) : Option (Int32 × gS) := (some (v3, σ))
def f_X9_fillYear_P259 (σ : gS) : Option (Int32 × gS) := (some ((-8 : Int32), σ))
def f_X9_fillYear_L239 (ad : gA) (a1 : Int32) (K239 : gS → Option (Int32 × gS)) : Nat → gS → Int32 → Int32 → Option (Int32 × gS)
  | 0, _, _, _ => none
  | n + 1, σ, v4, v6 => (if v4 ≤ v6 then (K239 σ) else ((f_X9_takeBack ad σ v6 a1).bind fun σ46 => (f_X9_fillYear_L239 ad a1 K239 n σ46 v4 (v6 + (1 : Int32)))))
def f_X9_fillYear_L109 (ad : gA) (a1 : Int32) (a2 : Int32) (K109 : gS → Int32 → Option (Int32 × gS)) : Nat → gS → Int32 → Int32 → Option (Int32 × gS)
  | 0, _, _, _ => none
  | n + 1, σ, v3, v4 => (if v4 < 0 then (K109 σ v3) else (if v4 = (σ 9 0 22) then ((f_X9_areAllRight ad σ a1).bind fun q39 => (if q39.1 = 0 then (if (v4 + (-1 : Int32)) < 0 then (f_X9_fillYear_L109 ad a1 a2 K109 n q39.2 v3 (v4 + (-1 : Int32))) else ((f_X9_takeBack ad q39.2 (v4 + (-1 : Int32)) a1).bind fun σ40 => (f_X9_fillYear_L109 ad a1 a2 K109 n σ40 v3 (v4 + (-1 : Int32))))) else (if a2 = 0 then (some ((1 : Int32), q39.2)) else ((f_X9_isAmong ad q39.2).bind fun q41 => (if q41 = 0 then (g_let (g_up q39.2 9 0 26 ((q39.2 9 0 26) + (0 : Int32))) fun σ42 => (if (v4 + (-1 : Int32)) < 0 then (f_X9_fillYear_L109 ad a1 a2 K109 n σ42 (v3 + (1 : Int32)) (v4 + (-1 : Int32))) else ((f_X9_takeBack ad σ42 (v4 + (-1 : Int32)) a1).bind fun σ43 => (f_X9_fillYear_L109 ad a1 a2 K109 n σ43 (v3 + (1 : Int32)) (v4 + (-1 : Int32)))))) else (g_let (g_up q39.2 9 0 26 ((q39.2 9 0 26) + (1 : Int32))) fun σ44 => (if (v4 + (-1 : Int32)) < 0 then (f_X9_fillYear_L109 ad a1 a2 K109 n σ44 (v3 + (1 : Int32)) (v4 + (-1 : Int32))) else ((f_X9_takeBack ad σ44 (v4 + (-1 : Int32)) a1).bind fun σ45 => (f_X9_fillYear_L109 ad a1 a2 K109 n σ45 (v3 + (1 : Int32)) (v4 + (-1 : Int32))))))))))) else (if g_ix v4 24 then (if g_ix v4 24 then (g_let (g_up σ 68 0 v4.toNatClampNeg ((σ 68 0 v4.toNatClampNeg) + (1 : Int32))) fun σ19 => (if g_ix v4 24 then (if (σ19 68 0 v4.toNatClampNeg) < (σ19 9 0 2) then (if (σ19 9 0 23) = (20000 : Int32) then (f_X9_fillYear_L239 ad a1 (f_X9_fillYear_P259) g_fuel σ19 v4 (0 : Int32)) else (g_let (g_up σ19 9 0 23 ((σ19 9 0 23) + (1 : Int32))) fun σ22 => (if g_ix v4 24 then ((f_X9_officeAt ad σ22 (σ22 67 0 v4.toNatClampNeg)).bind fun q25 => ((f_X9_couldBe ad σ22 (σ19 68 0 v4.toNatClampNeg) q25 a1).bind fun q26 => (if q26 = 0 then (f_X9_fillYear_L109 ad a1 a2 K109 n σ22 v3 v4) else (if g_ix v4 24 then ((f_X9_put ad σ22 (σ19 68 0 v4.toNatClampNeg) (σ22 67 0 v4.toNatClampNeg) a1).bind fun σ29 => (if (σ29 9 0 22) ≤ (v4 + (1 : Int32)) then (f_X9_fillYear_L109 ad a1 a2 K109 n σ29 v3 (v4 + (1 : Int32))) else (if g_ix (v4 + (1 : Int32)) 24 then ((f_X9_officeAt ad σ29 (σ29 67 0 ((v4 + (1 : Int32)).toNatClampNeg))).bind fun q33 => (if q33 = q25 then (if g_ix (v4 + (1 : Int32)) 24 then (g_let (g_up σ29 68 0 ((v4 + (1 : Int32)).toNatClampNeg) (σ19 68 0 v4.toNatClampNeg)) fun σ37 => (f_X9_fillYear_L109 ad a1 a2 K109 n σ37 v3 (v4 + (1 : Int32)))) else none) else (if g_ix (v4 + (1 : Int32)) 24 then (g_let (g_up σ29 68 0 ((v4 + (1 : Int32)).toNatClampNeg) (-1 : Int32)) fun σ35 => (f_X9_fillYear_L109 ad a1 a2 K109 n σ35 v3 (v4 + (1 : Int32)))) else none))) else none))) else none)))) else none))) else (if (v4 + (-1 : Int32)) < 0 then (f_X9_fillYear_L109 ad a1 a2 K109 n σ19 v3 (v4 + (-1 : Int32))) else ((f_X9_takeBack ad σ19 (v4 + (-1 : Int32)) a1).bind fun σ38 => (f_X9_fillYear_L109 ad a1 a2 K109 n σ38 v3 (v4 + (-1 : Int32)))))) else none)) else none) else none)))
def f_X9_fillYear_P97 (ad : gA) (a1 : Int32) (a2 : Int32) (σ : gS) : Option (Int32 × gS) := (g_let (g_up σ 68 0 ((0 : Int32).toNatClampNeg) (-1 : Int32)) fun σ15 => (f_X9_fillYear_L109 ad a1 a2 (f_X9_fillYear_P358) g_fuel σ15 (0 : Int32) (0 : Int32)))
def f_X9_fillYear_P91 (rec17 : gS → Int32 → Option (Int32 × gS)) (σ : gS) (v3 : Int32) : Option (Int32 × gS) := (rec17 σ (v3 + (1 : Int32)))
def f_X9_fillYear_L28 (ad : gA) (a1 : Int32) (K28 : gS → Int32 → Option (Int32 × gS)) : Nat → gS → Int32 → Int32 → Option (Int32 × gS)
  | 0, _, _, _ => none
  | n + 1, σ, v3, v4 => (if g_ix v3 8 then (if (σ 44 0 v3.toNatClampNeg) ≤ v4 then (K28 σ v3) else ((f_X9_at ad σ v3 a1 v4).bind fun q7 => (if g_ix q7 4800 then (if (σ 58 0 q7.toNatClampNeg) < 0 then ((f_X9_at ad σ v3 a1 v4).bind fun q10 => (if g_ix (σ 9 0 22) 24 then (g_let (g_up σ 67 0 ((σ 9 0 22).toNatClampNeg) q10) fun σ12 => (g_let (g_up σ12 9 0 22 ((σ12 9 0 22) + (1 : Int32))) fun σ13 => (f_X9_fillYear_L28 ad a1 K28 n σ13 v3 (v4 + (1 : Int32))))) else none)) else (f_X9_fillYear_L28 ad a1 K28 n σ v3 (v4 + (1 : Int32)))) else none))) else none)
def f_X9_fillYear_L17 (ad : gA) (a1 : Int32) (K17 : gS → Option (Int32 × gS)) : Nat → gS → Int32 → Option (Int32 × gS)
  | 0, _, _ => none
  | n + 1, σ, v3 => (if (σ 9 0 1) ≤ v3 then (K17 σ) else (f_X9_fillYear_L28 ad a1 (f_X9_fillYear_P91 (f_X9_fillYear_L17 ad a1 K17 n)) g_fuel σ v3 (0 : Int32)))
def f_X9_fillYear (ad : gA) (σ : gS) (a1 : Int32) (a2 : Int32) : Option (Int32 × gS) := (g_let (g_up σ 9 0 22 (0 : Int32)) fun σ1 => (g_let (g_up σ1 9 0 23 (0 : Int32)) fun σ2 => (g_let (g_up σ2 9 0 26 (0 : Int32)) fun σ3 => (f_X9_fillYear_L17 ad a1 (f_X9_fillYear_P97 ad a1 a2) g_fuel σ3 (0 : Int32)))))
theorem hd_X9_fillYear : yX9_fillYear.cls ≠ "java/lang/invoke/MethodHandle" ∧ yX9_fillYear.cls ≠ "java/lang/invoke/VarHandle" ∧ (parseMethodDescriptor yX9_fillYear.desc).map (fun d => d.parameters.length) = some 2 := by decide +kernel
set_option maxHeartbeats 4000000 in
set_option maxRecDepth 100000 in
theorem c_X9_fillYear (l : Launch) (D : va_G) (cy : Nat → ClassId) (A : Nat → Prop) (ad : gA) (L : gL)  (σ : gS) (hT : (9, 0) ∈ L) (a1 : Int32) (a2 : Int32) (r0 : Int32) (σ0 : gS) (hf : f_X9_fillYear ad σ a1 a2 = some (r0, σ0)) : g_Mi l yX9_fillYear cX9_fillYear 7 (some .int) ({ frames := 8, cells := 0, slots := 0, locals := 192 } : Room) D cy A ad L σ [.ref (ad 9 0), .int a1, .int a2] r0 σ0 := by
  refine g_met (by decide) (Nat.le_of_ble_eq_true rfl) (fun p e s m below meth c C hr hlocks hnm G ls hl => ?_)
  have hl : lv_has ls 7 [(0, .ref (ad 9 0)), (1, .int a1), (2, .int a2)] := hl
  have pt358 : ∀ (σ : gS) (v3 : Int32) (H : Heap) (locs : List Loc) (ls : Array Slot), g_H D cy A ad L σ s.heap H locs → lv_has ls 7 [(3, .int v3)] → f_X9_fillYear_P358 σ v3 = some (r0, σ0) → g_Wi p l e ({ frames := 8, cells := 0, slots := 0, locals := 192 } : Room) s m below meth c H locs 0 0 D cy A ad L [.ref (ad 9 0), .int a1, .int a2] r0 σ0 (F0 m 358 ls []) := by
    intro σ v3 H locs ls G hl hf
    unfold f_X9_fillYear_P358 at hf
    refine lv_iload_n C.x C.b dX9_fillYear_358 rfl (lv_at hl 0 rfl) ?_
    exact g_eii C G hr hlocks hf dX9_fillYear_359
  have lp109 : ∀ n109 : Nat, ∀ (σ : gS) (v3 : Int32) (v4 : Int32) (H : Heap) (locs : List Loc) (ls : Array Slot), g_H D cy A ad L σ s.heap H locs → lv_has ls 7 [(0, .ref (ad 9 0)), (1, .int a1), (2, .int a2), (3, .int v3), (4, .int v4)] → f_X9_fillYear_L109 ad a1 a2 (f_X9_fillYear_P358) n109 σ v3 v4 = some (r0, σ0) → g_Wi p l e ({ frames := 8, cells := 0, slots := 0, locals := 192 } : Room) s m below meth c H locs 0 0 D cy A ad L [.ref (ad 9 0), .int a1, .int a2] r0 σ0 (F0 m 109 ls []) := by
    intro n109
    induction n109 with
    | zero =>
      intro σ v3 v4 H locs ls G hl hf
      rw [f_X9_fillYear_L109] at hf
      cases hf
    | succ n109 ih109 =>
      have pt259 : ∀ (σ : gS) (H : Heap) (locs : List Loc) (ls : Array Slot), g_H D cy A ad L σ s.heap H locs → lv_has ls 7 [] → f_X9_fillYear_P259 σ = some (r0, σ0) → g_Wi p l e ({ frames := 8, cells := 0, slots := 0, locals := 192 } : Room) s m below meth c H locs 0 0 D cy A ad L [.ref (ad 9 0), .int a1, .int a2] r0 σ0 (F0 m 259 ls []) := by
        intro σ H locs ls G hl hf
        unfold f_X9_fillYear_P259 at hf
        refine lv_bipush (v := (-8 : Int32)) C.x C.b dX9_fillYear_259 (by decide) ?_
        exact g_eii C G hr hlocks hf dX9_fillYear_261
      have lp239 : ∀ n239 : Nat, ∀ (σ : gS) (v4 : Int32) (v6 : Int32) (H : Heap) (locs : List Loc) (ls : Array Slot), g_H D cy A ad L σ s.heap H locs → lv_has ls 7 [(0, .ref (ad 9 0)), (1, .int a1), (4, .int v4), (6, .int v6)] → f_X9_fillYear_L239 ad a1 (f_X9_fillYear_P259) n239 σ v4 v6 = some (r0, σ0) → g_Wi p l e ({ frames := 8, cells := 0, slots := 0, locals := 192 } : Room) s m below meth c H locs 0 0 D cy A ad L [.ref (ad 9 0), .int a1, .int a2] r0 σ0 (F0 m 239 ls []) := by
        intro n239
        induction n239 with
        | zero =>
          intro σ v4 v6 H locs ls G hl hf
          rw [f_X9_fillYear_L239] at hf
          cases hf
        | succ n239 ih239 =>
          intro σ v4 v6 H locs ls G hl hf
          rw [f_X9_fillYear_L239] at hf
          refine lv_iload C.x C.b dX9_fillYear_239 (lv_at hl 3 rfl) ?_
          refine lv_iload C.x C.b dX9_fillYear_241 (lv_at hl 2 rfl) ?_
          refine lv_icmp_ge (tgt := 259) C.x C.b dX9_fillYear_243 (by decide) (fun cb => ?_) (fun cb => ?_)
          · have hf := g_t cb hf
            exact pt259 σ _ _ ls G (lv_sub hl [] rfl) hf
          · have hf := g_f cb hf
            refine lv_aload_n C.x C.b dX9_fillYear_246 rfl (lv_at hl 0 rfl) ?_
            refine lv_iload C.x C.b dX9_fillYear_247 (lv_at hl 3 rfl) ?_
            refine lv_iload_n C.x C.b dX9_fillYear_249 rfl (lv_at hl 1 rfl) ?_
            obtain ⟨σ46, eσ46, hf⟩ := g_b hf
            refine g_callv G (g_runV (As := [.int v6, .int a1]) (rest := []) C G 9 0 (c_X9_takeBack l D cy A ad L σ hT v6 a1 σ46 eσ46) ⟨tw1257, tw60, tw1254, ⟨tw1256, tw41⟩, hd_X9_takeBack⟩ (by decide) hT rfl ⟨rfl, by decide⟩ hl.1 rfl (Nat.le_of_ble_eq_true rfl) dX9_fillYear_250 ⟨Nat.le_of_ble_eq_true rfl, Nat.le_of_ble_eq_true rfl⟩) (fun H locs G => ?_)
            refine lv_iinc (v := (v6 + (1 : Int32))) (lv' := [(6, .int (v6 + (1 : Int32))), (0, .ref (ad 9 0)), (1, .int a1), (4, .int v4)]) C.x C.b dX9_fillYear_253 hl (k := 3) rfl rfl (by decide) rfl (fun ls hl => ?_)
            refine lv_goto (tgt := 239) C.x C.b dX9_fillYear_256 (by decide) ?_
            exact ih239 σ46 v4 (v6 + (1 : Int32)) _ _ ls G (lv_sub hl [1, 2, 3, 0] rfl) hf
      intro σ v3 v4 H locs ls G hl hf
      rw [f_X9_fillYear_L109] at hf
      refine lv_iload C.x C.b dX9_fillYear_109 (lv_at hl 4 rfl) ?_
      refine lv_if_lt (tgt := 358) C.x C.b dX9_fillYear_111 (by decide) (fun cb => ?_) (fun cb => ?_)
      · have hf := g_t cb hf
        exact pt358 σ v3 _ _ ls G (lv_sub hl [3] rfl) hf
      · have hf := g_f cb hf
        refine lv_iload C.x C.b dX9_fillYear_114 (lv_at hl 4 rfl) ?_
        refine lv_aload_n C.x C.b dX9_fillYear_116 rfl (lv_at hl 0 rfl) ?_
        refine g_geti C G 9 0 22 hT rfl ginX9 (by decide) tw972 dX9_fillYear_117 ?_
        refine lv_icmp_ne (tgt := 179) C.x C.b dX9_fillYear_120 (by decide) (fun cb => ?_) (fun cb => ?_)
        · have hf := g_f cb hf
          refine lv_aload_n C.x C.b dX9_fillYear_179 rfl (lv_at hl 0 rfl) ?_
          refine g_getr C G 9 0 28 68 hT rfl ginX9 (by decide) tw978 dX9_fillYear_180 (fun hL16 => ?_)
          refine lv_iload C.x C.b dX9_fillYear_183 (lv_at hl 4 rfl) ?_
          refine lv_dup2_11 C.x C.b dX9_fillYear_185 rfl rfl ?_
          obtain ⟨hi17, hf⟩ := g_ok hf
          refine g_iald (n := 24) C G 68 0 hL16 (by decide) rfl hi17 dX9_fillYear_186 ?_
          refine lv_iconst (v := (1 : Int32)) C.x C.b dX9_fillYear_187 (by decide) ?_
          refine lv_iadd C.x C.b dX9_fillYear_188 ?_
          obtain ⟨hi18, hf⟩ := g_ok hf
          refine g_iast (n := 24) C G 68 0 hL16 (by decide) rfl hi18 dX9_fillYear_189 (fun H locs G => ?_)
          obtain ⟨σ19, eσ19, hf⟩ := g_lt hf
          rw [← eσ19] at G
          refine lv_aload_n C.x C.b dX9_fillYear_190 rfl (lv_at hl 0 rfl) ?_
          refine g_getr C G 9 0 28 68 hT rfl ginX9 (by decide) tw978 dX9_fillYear_191 (fun hL20 => ?_)
          refine lv_iload C.x C.b dX9_fillYear_194 (lv_at hl 4 rfl) ?_
          obtain ⟨hi21, hf⟩ := g_ok hf
          refine g_iald (n := 24) C G 68 0 hL20 (by decide) rfl hi21 dX9_fillYear_196 ?_
          refine lv_istore (lv' := [(5, .int (σ19 68 0 v4.toNatClampNeg)), (0, .ref (ad 9 0)), (1, .int a1), (2, .int a2), (3, .int v3), (4, .int v4)]) C.x C.b dX9_fillYear_197 hl (by decide) rfl (fun ls hl => ?_)
          refine lv_iload C.x C.b dX9_fillYear_199 (lv_at hl 0 rfl) ?_
          refine lv_aload_n C.x C.b dX9_fillYear_201 rfl (lv_at hl 1 rfl) ?_
          refine g_geti C G 9 0 2 hT rfl ginX9 (by decide) tw952 dX9_fillYear_202 ?_
          refine lv_icmp_lt (tgt := 226) C.x C.b dX9_fillYear_205 (by decide) (fun cb => ?_) (fun cb => ?_)
          · have hf := g_t cb hf
            refine lv_aload_n C.x C.b dX9_fillYear_226 rfl (lv_at hl 1 rfl) ?_
            refine g_geti C G 9 0 23 hT rfl ginX9 (by decide) tw973 dX9_fillYear_227 ?_
            refine lv_sipush (v := (20000 : Int32)) C.x C.b dX9_fillYear_230 (by decide) ?_
            refine lv_icmp_ne (tgt := 262) C.x C.b dX9_fillYear_233 (by decide) (fun cb => ?_) (fun cb => ?_)
            · have hf := g_f cb hf
              refine lv_aload_n C.x C.b dX9_fillYear_262 rfl (lv_at hl 1 rfl) ?_
              refine lv_dup C.x C.b dX9_fillYear_263 rfl ?_
              refine g_geti C G 9 0 23 hT rfl ginX9 (by decide) tw973 dX9_fillYear_264 ?_
              refine lv_iconst (v := (1 : Int32)) C.x C.b dX9_fillYear_267 (by decide) ?_
              refine lv_iadd C.x C.b dX9_fillYear_268 ?_
              refine g_puti C G 9 0 23 hT (v := ((σ19 9 0 23) + (1 : Int32))) rfl ginX9 tyX9_ok nmX9 (by decide) ⟨rfl, rfl⟩ tw973 dX9_fillYear_269 (fun H locs G => ?_)
              obtain ⟨σ22, eσ22, hf⟩ := g_lt hf
              rw [← eσ22] at G
              refine lv_aload_n C.x C.b dX9_fillYear_272 rfl (lv_at hl 1 rfl) ?_
              refine lv_aload_n C.x C.b dX9_fillYear_273 rfl (lv_at hl 1 rfl) ?_
              refine g_getr C G 9 0 27 67 hT rfl ginX9 (by decide) tw977 dX9_fillYear_274 (fun hL23 => ?_)
              refine lv_iload C.x C.b dX9_fillYear_277 (lv_at hl 5 rfl) ?_
              obtain ⟨hi24, hf⟩ := g_ok hf
              refine g_iald (n := 24) C G 67 0 hL23 (by decide) rfl hi24 dX9_fillYear_279 ?_
              obtain ⟨q25, eq25, hf⟩ := g_b hf
              refine g_calli G (g_runV (As := [.int (σ22 67 0 v4.toNatClampNeg)]) (rest := []) C G 9 0 (c_X9_officeAt l D cy A ad L σ22 hT (σ22 67 0 v4.toNatClampNeg) q25 eq25) ⟨tw1173, tw60, tw1170, ⟨tw1172, tw27⟩, hd_X9_officeAt⟩ (by decide) hT rfl ⟨rfl, by decide⟩ hl.1 rfl (Nat.le_of_ble_eq_true rfl) dX9_fillYear_280 ⟨Nat.le_of_ble_eq_true rfl, Nat.le_of_ble_eq_true rfl⟩) (fun H locs G => ?_)
              refine lv_istore (lv' := [(6, .int q25), (5, .int (σ19 68 0 v4.toNatClampNeg)), (0, .ref (ad 9 0)), (1, .int a1), (2, .int a2), (3, .int v3), (4, .int v4)]) C.x C.b dX9_fillYear_283 hl (by decide) rfl (fun ls hl => ?_)
              refine lv_aload_n C.x C.b dX9_fillYear_285 rfl (lv_at hl 2 rfl) ?_
              refine lv_iload C.x C.b dX9_fillYear_286 (lv_at hl 1 rfl) ?_
              refine lv_iload C.x C.b dX9_fillYear_288 (lv_at hl 0 rfl) ?_
              refine lv_iload_n C.x C.b dX9_fillYear_290 rfl (lv_at hl 3 rfl) ?_
              obtain ⟨q26, eq26, hf⟩ := g_b hf
              refine g_calli G (g_runV (As := [.int (σ19 68 0 v4.toNatClampNeg), .int q25, .int a1]) (rest := []) C G 9 0 (c_X9_couldBe l D cy A ad L σ22 hT (σ19 68 0 v4.toNatClampNeg) q25 a1 q26 eq26) ⟨tw1189, tw60, tw1186, ⟨tw1188, tw29⟩, hd_X9_couldBe⟩ (by decide) hT rfl ⟨rfl, by decide⟩ hl.1 rfl (Nat.le_of_ble_eq_true rfl) dX9_fillYear_291 ⟨Nat.le_of_ble_eq_true rfl, Nat.le_of_ble_eq_true rfl⟩) (fun H locs G => ?_)
              refine lv_if_ne (tgt := 300) C.x C.b dX9_fillYear_294 (by decide) (fun cb => ?_) (fun cb => ?_)
              · have hf := g_f cb hf
                refine lv_aload_n C.x C.b dX9_fillYear_300 rfl (lv_at hl 2 rfl) ?_
                refine lv_iload C.x C.b dX9_fillYear_301 (lv_at hl 1 rfl) ?_
                refine lv_aload_n C.x C.b dX9_fillYear_303 rfl (lv_at hl 2 rfl) ?_
                refine g_getr C G 9 0 27 67 hT rfl ginX9 (by decide) tw977 dX9_fillYear_304 (fun hL27 => ?_)
                refine lv_iload C.x C.b dX9_fillYear_307 (lv_at hl 6 rfl) ?_
                obtain ⟨hi28, hf⟩ := g_ok hf
                refine g_iald (n := 24) C G 67 0 hL27 (by decide) rfl hi28 dX9_fillYear_309 ?_
                refine lv_iload_n C.x C.b dX9_fillYear_310 rfl (lv_at hl 3 rfl) ?_
                obtain ⟨σ29, eσ29, hf⟩ := g_b hf
                refine g_callv G (g_runV (As := [.int (σ19 68 0 v4.toNatClampNeg), .int (σ22 67 0 v4.toNatClampNeg), .int a1]) (rest := []) C G 9 0 (c_X9_put l D cy A ad L σ22 hT (σ19 68 0 v4.toNatClampNeg) (σ22 67 0 v4.toNatClampNeg) a1 σ29 eσ29) ⟨tw1145, tw60, tw1142, ⟨tw1144, tw24⟩, hd_X9_put⟩ (by decide) hT rfl ⟨rfl, by decide⟩ hl.1 rfl (Nat.le_of_ble_eq_true rfl) dX9_fillYear_311 ⟨Nat.le_of_ble_eq_true rfl, Nat.le_of_ble_eq_true rfl⟩) (fun H locs G => ?_)
                refine lv_iinc (v := (v4 + (1 : Int32))) (lv' := [(4, .int (v4 + (1 : Int32))), (6, .int q25), (5, .int (σ19 68 0 v4.toNatClampNeg)), (0, .ref (ad 9 0)), (1, .int a1), (2, .int a2), (3, .int v3)]) C.x C.b dX9_fillYear_314 hl (k := 6) rfl rfl (by decide) rfl (fun ls hl => ?_)
                refine lv_iload C.x C.b dX9_fillYear_317 (lv_at hl 0 rfl) ?_
                refine lv_aload_n C.x C.b dX9_fillYear_319 rfl (lv_at hl 3 rfl) ?_
                refine g_geti C G 9 0 22 hT rfl ginX9 (by decide) tw972 dX9_fillYear_320 ?_
                refine lv_icmp_ge (tgt := 355) C.x C.b dX9_fillYear_323 (by decide) (fun cb => ?_) (fun cb => ?_)
                · have hf := g_t cb hf
                  refine lv_goto (tgt := 109) C.x C.b dX9_fillYear_355 (by decide) ?_
                  exact ih109 σ29 v3 (v4 + (1 : Int32)) _ _ ls G (lv_sub hl [3, 4, 5, 6, 0] rfl) hf
                · have hf := g_f cb hf
                  refine lv_aload_n C.x C.b dX9_fillYear_326 rfl (lv_at hl 3 rfl) ?_
                  refine g_getr C G 9 0 28 68 hT rfl ginX9 (by decide) tw978 dX9_fillYear_327 (fun hL30 => ?_)
                  refine lv_iload C.x C.b dX9_fillYear_330 (lv_at hl 0 rfl) ?_
                  refine lv_aload_n C.x C.b dX9_fillYear_332 rfl (lv_at hl 3 rfl) ?_
                  refine lv_aload_n C.x C.b dX9_fillYear_333 rfl (lv_at hl 3 rfl) ?_
                  refine g_getr C G 9 0 27 67 hT rfl ginX9 (by decide) tw977 dX9_fillYear_334 (fun hL31 => ?_)
                  refine lv_iload C.x C.b dX9_fillYear_337 (lv_at hl 0 rfl) ?_
                  obtain ⟨hi32, hf⟩ := g_ok hf
                  refine g_iald (n := 24) C G 67 0 hL31 (by decide) rfl hi32 dX9_fillYear_339 ?_
                  obtain ⟨q33, eq33, hf⟩ := g_b hf
                  refine g_calli G (g_runV (As := [.int (σ29 67 0 ((v4 + (1 : Int32)).toNatClampNeg))]) (rest := [.int (v4 + (1 : Int32)), .ref (ad 68 0)]) C G 9 0 (c_X9_officeAt l D cy A ad L σ29 hT (σ29 67 0 ((v4 + (1 : Int32)).toNatClampNeg)) q33 eq33) ⟨tw1173, tw60, tw1170, ⟨tw1172, tw27⟩, hd_X9_officeAt⟩ (by decide) hT rfl ⟨rfl, by decide⟩ hl.1 rfl (Nat.le_of_ble_eq_true rfl) dX9_fillYear_340 ⟨Nat.le_of_ble_eq_true rfl, Nat.le_of_ble_eq_true rfl⟩) (fun H locs G => ?_)
                  refine lv_iload C.x C.b dX9_fillYear_343 (lv_at hl 1 rfl) ?_
                  refine lv_icmp_ne (tgt := 353) C.x C.b dX9_fillYear_345 (by decide) (fun cb => ?_) (fun cb => ?_)
                  · have hf := g_f cb hf
                    refine lv_iconst (v := (-1 : Int32)) C.x C.b dX9_fillYear_353 (by decide) ?_
                    obtain ⟨hi34, hf⟩ := g_ok hf
                    refine g_iast (n := 24) C G 68 0 hL30 (by decide) rfl hi34 dX9_fillYear_354 (fun H locs G => ?_)
                    obtain ⟨σ35, eσ35, hf⟩ := g_lt hf
                    rw [← eσ35] at G
                    refine lv_goto (tgt := 109) C.x C.b dX9_fillYear_355 (by decide) ?_
                    exact ih109 σ35 v3 (v4 + (1 : Int32)) _ _ ls G (lv_sub hl [3, 4, 5, 6, 0] rfl) hf
                  · have hf := g_t cb hf
                    refine lv_iload C.x C.b dX9_fillYear_348 (lv_at hl 2 rfl) ?_
                    refine lv_goto (tgt := 354) C.x C.b dX9_fillYear_350 (by decide) ?_
                    obtain ⟨hi36, hf⟩ := g_ok hf
                    refine g_iast (n := 24) C G 68 0 hL30 (by decide) rfl hi36 dX9_fillYear_354 (fun H locs G => ?_)
                    obtain ⟨σ37, eσ37, hf⟩ := g_lt hf
                    rw [← eσ37] at G
                    refine lv_goto (tgt := 109) C.x C.b dX9_fillYear_355 (by decide) ?_
                    exact ih109 σ37 v3 (v4 + (1 : Int32)) _ _ ls G (lv_sub hl [3, 4, 5, 6, 0] rfl) hf
              · have hf := g_t cb hf
                refine lv_goto (tgt := 109) C.x C.b dX9_fillYear_297 (by decide) ?_
                exact ih109 σ22 v3 v4 _ _ ls G (lv_sub hl [2, 3, 4, 5, 6] rfl) hf
            · have hf := g_t cb hf
              refine lv_iconst (v := (0 : Int32)) C.x C.b dX9_fillYear_236 (by decide) ?_
              refine lv_istore (lv' := [(6, .int (0 : Int32)), (5, .int (σ19 68 0 v4.toNatClampNeg)), (0, .ref (ad 9 0)), (1, .int a1), (2, .int a2), (3, .int v3), (4, .int v4)]) C.x C.b dX9_fillYear_237 hl (by decide) rfl (fun ls hl => ?_)
              exact lp239 g_fuel σ19 v4 (0 : Int32) _ _ ls G (lv_sub hl [2, 3, 6, 0] rfl) hf
          · have hf := g_f cb hf
            refine lv_iinc (v := (v4 + (-1 : Int32))) (lv' := [(4, .int (v4 + (-1 : Int32))), (5, .int (σ19 68 0 v4.toNatClampNeg)), (0, .ref (ad 9 0)), (1, .int a1), (2, .int a2), (3, .int v3)]) C.x C.b dX9_fillYear_208 hl (k := 5) rfl rfl (by decide) rfl (fun ls hl => ?_)
            refine lv_iload C.x C.b dX9_fillYear_211 (lv_at hl 0 rfl) ?_
            refine lv_if_lt (tgt := 109) C.x C.b dX9_fillYear_213 (by decide) (fun cb => ?_) (fun cb => ?_)
            · have hf := g_t cb hf
              exact ih109 σ19 v3 (v4 + (-1 : Int32)) _ _ ls G (lv_sub hl [2, 3, 4, 5, 0] rfl) hf
            · have hf := g_f cb hf
              refine lv_aload_n C.x C.b dX9_fillYear_216 rfl (lv_at hl 2 rfl) ?_
              refine lv_iload C.x C.b dX9_fillYear_217 (lv_at hl 0 rfl) ?_
              refine lv_iload_n C.x C.b dX9_fillYear_219 rfl (lv_at hl 3 rfl) ?_
              obtain ⟨σ38, eσ38, hf⟩ := g_b hf
              refine g_callv G (g_runV (As := [.int (v4 + (-1 : Int32)), .int a1]) (rest := []) C G 9 0 (c_X9_takeBack l D cy A ad L σ19 hT (v4 + (-1 : Int32)) a1 σ38 eσ38) ⟨tw1257, tw60, tw1254, ⟨tw1256, tw41⟩, hd_X9_takeBack⟩ (by decide) hT rfl ⟨rfl, by decide⟩ hl.1 rfl (Nat.le_of_ble_eq_true rfl) dX9_fillYear_220 ⟨Nat.le_of_ble_eq_true rfl, Nat.le_of_ble_eq_true rfl⟩) (fun H locs G => ?_)
              refine lv_goto (tgt := 109) C.x C.b dX9_fillYear_223 (by decide) ?_
              exact ih109 σ38 v3 (v4 + (-1 : Int32)) _ _ ls G (lv_sub hl [2, 3, 4, 5, 0] rfl) hf
        · have hf := g_t cb hf
          refine lv_aload_n C.x C.b dX9_fillYear_123 rfl (lv_at hl 0 rfl) ?_
          refine lv_iload_n C.x C.b dX9_fillYear_124 rfl (lv_at hl 1 rfl) ?_
          obtain ⟨q39, eq39, hf⟩ := g_b hf
          refine g_calli G (g_runV (As := [.int a1]) (rest := []) C G 9 0 (c_X9_areAllRight l D cy A ad L σ hT a1 q39.1 q39.2 eq39) ⟨tw1249, tw60, tw1246, ⟨tw1248, tw39⟩, hd_X9_areAllRight⟩ (by decide) hT rfl ⟨rfl, by decide⟩ hl.1 rfl (Nat.le_of_ble_eq_true rfl) dX9_fillYear_125 ⟨Nat.le_of_ble_eq_true rfl, Nat.le_of_ble_eq_true rfl⟩) (fun H locs G => ?_)
          refine lv_if_eq (tgt := 161) C.x C.b dX9_fillYear_128 (by decide) (fun cb => ?_) (fun cb => ?_)
          · have hf := g_t cb hf
            refine lv_iinc (v := (v4 + (-1 : Int32))) (lv' := [(4, .int (v4 + (-1 : Int32))), (0, .ref (ad 9 0)), (1, .int a1), (2, .int a2), (3, .int v3)]) C.x C.b dX9_fillYear_161 hl (k := 4) rfl rfl (by decide) rfl (fun ls hl => ?_)
            refine lv_iload C.x C.b dX9_fillYear_164 (lv_at hl 0 rfl) ?_
            refine lv_if_lt (tgt := 109) C.x C.b dX9_fillYear_166 (by decide) (fun cb => ?_) (fun cb => ?_)
            · have hf := g_t cb hf
              exact ih109 q39.2 v3 (v4 + (-1 : Int32)) _ _ ls G (lv_sub hl [1, 2, 3, 4, 0] rfl) hf
            · have hf := g_f cb hf
              refine lv_aload_n C.x C.b dX9_fillYear_169 rfl (lv_at hl 1 rfl) ?_
              refine lv_iload C.x C.b dX9_fillYear_170 (lv_at hl 0 rfl) ?_
              refine lv_iload_n C.x C.b dX9_fillYear_172 rfl (lv_at hl 2 rfl) ?_
              obtain ⟨σ40, eσ40, hf⟩ := g_b hf
              refine g_callv G (g_runV (As := [.int (v4 + (-1 : Int32)), .int a1]) (rest := []) C G 9 0 (c_X9_takeBack l D cy A ad L q39.2 hT (v4 + (-1 : Int32)) a1 σ40 eσ40) ⟨tw1257, tw60, tw1254, ⟨tw1256, tw41⟩, hd_X9_takeBack⟩ (by decide) hT rfl ⟨rfl, by decide⟩ hl.1 rfl (Nat.le_of_ble_eq_true rfl) dX9_fillYear_173 ⟨Nat.le_of_ble_eq_true rfl, Nat.le_of_ble_eq_true rfl⟩) (fun H locs G => ?_)
              refine lv_goto (tgt := 109) C.x C.b dX9_fillYear_176 (by decide) ?_
              exact ih109 σ40 v3 (v4 + (-1 : Int32)) _ _ ls G (lv_sub hl [1, 2, 3, 4, 0] rfl) hf
          · have hf := g_f cb hf
            refine lv_iinc (v := (v3 + (1 : Int32))) (lv' := [(3, .int (v3 + (1 : Int32))), (0, .ref (ad 9 0)), (1, .int a1), (2, .int a2), (4, .int v4)]) C.x C.b dX9_fillYear_131 hl (k := 3) rfl rfl (by decide) rfl (fun ls hl => ?_)
            refine lv_iload_n C.x C.b dX9_fillYear_134 rfl (lv_at hl 3 rfl) ?_
            refine lv_if_ne (tgt := 140) C.x C.b dX9_fillYear_135 (by decide) (fun cb => ?_) (fun cb => ?_)
            · have hf := g_f cb hf
              refine lv_aload_n C.x C.b dX9_fillYear_140 rfl (lv_at hl 1 rfl) ?_
              refine lv_dup C.x C.b dX9_fillYear_141 rfl ?_
              refine g_geti C G 9 0 26 hT rfl ginX9 (by decide) tw976 dX9_fillYear_142 ?_
              refine lv_aload_n C.x C.b dX9_fillYear_145 rfl (lv_at hl 1 rfl) ?_
              obtain ⟨q41, eq41, hf⟩ := g_b hf
              refine g_calli G (g_runV (As := []) (rest := [.int (q39.2 9 0 26), .ref (ad 9 0)]) C G 9 0 (c_X9_isAmong l D cy A ad L q39.2 hT q41 eq41) ⟨tw1253, tw60, tw1250, ⟨tw1252, tw40⟩, hd_X9_isAmong⟩ (by decide) hT rfl ⟨rfl, by decide⟩ hl.1 rfl (Nat.le_of_ble_eq_true rfl) dX9_fillYear_146 ⟨Nat.le_of_ble_eq_true rfl, Nat.le_of_ble_eq_true rfl⟩) (fun H locs G => ?_)
              refine lv_if_eq (tgt := 156) C.x C.b dX9_fillYear_149 (by decide) (fun cb => ?_) (fun cb => ?_)
              · have hf := g_t cb hf
                refine lv_iconst (v := (0 : Int32)) C.x C.b dX9_fillYear_156 (by decide) ?_
                refine lv_iadd C.x C.b dX9_fillYear_157 ?_
                refine g_puti C G 9 0 26 hT (v := ((q39.2 9 0 26) + (0 : Int32))) rfl ginX9 tyX9_ok nmX9 (by decide) ⟨rfl, rfl⟩ tw976 dX9_fillYear_158 (fun H locs G => ?_)
                obtain ⟨σ42, eσ42, hf⟩ := g_lt hf
                rw [← eσ42] at G
                refine lv_iinc (v := (v4 + (-1 : Int32))) (lv' := [(4, .int (v4 + (-1 : Int32))), (3, .int (v3 + (1 : Int32))), (0, .ref (ad 9 0)), (1, .int a1), (2, .int a2)]) C.x C.b dX9_fillYear_161 hl (k := 4) rfl rfl (by decide) rfl (fun ls hl => ?_)
                refine lv_iload C.x C.b dX9_fillYear_164 (lv_at hl 0 rfl) ?_
                refine lv_if_lt (tgt := 109) C.x C.b dX9_fillYear_166 (by decide) (fun cb => ?_) (fun cb => ?_)
                · have hf := g_t cb hf
                  exact ih109 σ42 (v3 + (1 : Int32)) (v4 + (-1 : Int32)) _ _ ls G (lv_sub hl [2, 3, 4, 1, 0] rfl) hf
                · have hf := g_f cb hf
                  refine lv_aload_n C.x C.b dX9_fillYear_169 rfl (lv_at hl 2 rfl) ?_
                  refine lv_iload C.x C.b dX9_fillYear_170 (lv_at hl 0 rfl) ?_
                  refine lv_iload_n C.x C.b dX9_fillYear_172 rfl (lv_at hl 3 rfl) ?_
                  obtain ⟨σ43, eσ43, hf⟩ := g_b hf
                  refine g_callv G (g_runV (As := [.int (v4 + (-1 : Int32)), .int a1]) (rest := []) C G 9 0 (c_X9_takeBack l D cy A ad L σ42 hT (v4 + (-1 : Int32)) a1 σ43 eσ43) ⟨tw1257, tw60, tw1254, ⟨tw1256, tw41⟩, hd_X9_takeBack⟩ (by decide) hT rfl ⟨rfl, by decide⟩ hl.1 rfl (Nat.le_of_ble_eq_true rfl) dX9_fillYear_173 ⟨Nat.le_of_ble_eq_true rfl, Nat.le_of_ble_eq_true rfl⟩) (fun H locs G => ?_)
                  refine lv_goto (tgt := 109) C.x C.b dX9_fillYear_176 (by decide) ?_
                  exact ih109 σ43 (v3 + (1 : Int32)) (v4 + (-1 : Int32)) _ _ ls G (lv_sub hl [2, 3, 4, 1, 0] rfl) hf
              · have hf := g_f cb hf
                refine lv_iconst (v := (1 : Int32)) C.x C.b dX9_fillYear_152 (by decide) ?_
                refine lv_goto (tgt := 157) C.x C.b dX9_fillYear_153 (by decide) ?_
                refine lv_iadd C.x C.b dX9_fillYear_157 ?_
                refine g_puti C G 9 0 26 hT (v := ((q39.2 9 0 26) + (1 : Int32))) rfl ginX9 tyX9_ok nmX9 (by decide) ⟨rfl, rfl⟩ tw976 dX9_fillYear_158 (fun H locs G => ?_)
                obtain ⟨σ44, eσ44, hf⟩ := g_lt hf
                rw [← eσ44] at G
                refine lv_iinc (v := (v4 + (-1 : Int32))) (lv' := [(4, .int (v4 + (-1 : Int32))), (3, .int (v3 + (1 : Int32))), (0, .ref (ad 9 0)), (1, .int a1), (2, .int a2)]) C.x C.b dX9_fillYear_161 hl (k := 4) rfl rfl (by decide) rfl (fun ls hl => ?_)
                refine lv_iload C.x C.b dX9_fillYear_164 (lv_at hl 0 rfl) ?_
                refine lv_if_lt (tgt := 109) C.x C.b dX9_fillYear_166 (by decide) (fun cb => ?_) (fun cb => ?_)
                · have hf := g_t cb hf
                  exact ih109 σ44 (v3 + (1 : Int32)) (v4 + (-1 : Int32)) _ _ ls G (lv_sub hl [2, 3, 4, 1, 0] rfl) hf
                · have hf := g_f cb hf
                  refine lv_aload_n C.x C.b dX9_fillYear_169 rfl (lv_at hl 2 rfl) ?_
                  refine lv_iload C.x C.b dX9_fillYear_170 (lv_at hl 0 rfl) ?_
                  refine lv_iload_n C.x C.b dX9_fillYear_172 rfl (lv_at hl 3 rfl) ?_
                  obtain ⟨σ45, eσ45, hf⟩ := g_b hf
                  refine g_callv G (g_runV (As := [.int (v4 + (-1 : Int32)), .int a1]) (rest := []) C G 9 0 (c_X9_takeBack l D cy A ad L σ44 hT (v4 + (-1 : Int32)) a1 σ45 eσ45) ⟨tw1257, tw60, tw1254, ⟨tw1256, tw41⟩, hd_X9_takeBack⟩ (by decide) hT rfl ⟨rfl, by decide⟩ hl.1 rfl (Nat.le_of_ble_eq_true rfl) dX9_fillYear_173 ⟨Nat.le_of_ble_eq_true rfl, Nat.le_of_ble_eq_true rfl⟩) (fun H locs G => ?_)
                  refine lv_goto (tgt := 109) C.x C.b dX9_fillYear_176 (by decide) ?_
                  exact ih109 σ45 (v3 + (1 : Int32)) (v4 + (-1 : Int32)) _ _ ls G (lv_sub hl [2, 3, 4, 1, 0] rfl) hf
            · have hf := g_t cb hf
              refine lv_iconst (v := (1 : Int32)) C.x C.b dX9_fillYear_138 (by decide) ?_
              exact g_eii C G hr hlocks hf dX9_fillYear_139
  have pt97 : ∀ (σ : gS) (H : Heap) (locs : List Loc) (ls : Array Slot), g_H D cy A ad L σ s.heap H locs → lv_has ls 7 [(0, .ref (ad 9 0)), (1, .int a1), (2, .int a2)] → f_X9_fillYear_P97 ad a1 a2 σ = some (r0, σ0) → g_Wi p l e ({ frames := 8, cells := 0, slots := 0, locals := 192 } : Room) s m below meth c H locs 0 0 D cy A ad L [.ref (ad 9 0), .int a1, .int a2] r0 σ0 (F0 m 97 ls []) := by
    intro σ H locs ls G hl hf
    unfold f_X9_fillYear_P97 at hf
    refine lv_iconst (v := (0 : Int32)) C.x C.b dX9_fillYear_97 (by decide) ?_
    refine lv_istore_n (lv' := [(3, .int (0 : Int32)), (0, .ref (ad 9 0)), (1, .int a1), (2, .int a2)]) C.x C.b dX9_fillYear_98 rfl hl (by decide) rfl (fun ls hl => ?_)
    refine lv_iconst (v := (0 : Int32)) C.x C.b dX9_fillYear_99 (by decide) ?_
    refine lv_istore (lv' := [(4, .int (0 : Int32)), (3, .int (0 : Int32)), (0, .ref (ad 9 0)), (1, .int a1), (2, .int a2)]) C.x C.b dX9_fillYear_100 hl (by decide) rfl (fun ls hl => ?_)
    refine lv_aload_n C.x C.b dX9_fillYear_102 rfl (lv_at hl 2 rfl) ?_
    refine g_getr C G 9 0 28 68 hT rfl ginX9 (by decide) tw978 dX9_fillYear_103 (fun hL14 => ?_)
    refine lv_iconst (v := (0 : Int32)) C.x C.b dX9_fillYear_106 (by decide) ?_
    refine lv_iconst (v := (-1 : Int32)) C.x C.b dX9_fillYear_107 (by decide) ?_
    refine g_iast (n := 24) C G 68 0 hL14 (by decide) rfl (by decide) dX9_fillYear_108 (fun H locs G => ?_)
    obtain ⟨σ15, eσ15, hf⟩ := g_lt hf
    rw [← eσ15] at G
    exact lp109 g_fuel σ15 (0 : Int32) (0 : Int32) _ _ ls G (lv_sub hl [2, 3, 4, 1, 0] rfl) hf
  have lp17 : ∀ n17 : Nat, ∀ (σ : gS) (v3 : Int32) (H : Heap) (locs : List Loc) (ls : Array Slot), g_H D cy A ad L σ s.heap H locs → lv_has ls 7 [(0, .ref (ad 9 0)), (1, .int a1), (2, .int a2), (3, .int v3)] → f_X9_fillYear_L17 ad a1 (f_X9_fillYear_P97 ad a1 a2) n17 σ v3 = some (r0, σ0) → g_Wi p l e ({ frames := 8, cells := 0, slots := 0, locals := 192 } : Room) s m below meth c H locs 0 0 D cy A ad L [.ref (ad 9 0), .int a1, .int a2] r0 σ0 (F0 m 17 ls []) := by
    intro n17
    induction n17 with
    | zero =>
      intro σ v3 H locs ls G hl hf
      rw [f_X9_fillYear_L17] at hf
      cases hf
    | succ n17 ih17 =>
      have pt91 : ∀ (σ : gS) (v3 : Int32) (H : Heap) (locs : List Loc) (ls : Array Slot), g_H D cy A ad L σ s.heap H locs → lv_has ls 7 [(0, .ref (ad 9 0)), (1, .int a1), (2, .int a2), (3, .int v3)] → f_X9_fillYear_P91 (f_X9_fillYear_L17 ad a1 (f_X9_fillYear_P97 ad a1 a2) n17) σ v3 = some (r0, σ0) → g_Wi p l e ({ frames := 8, cells := 0, slots := 0, locals := 192 } : Room) s m below meth c H locs 0 0 D cy A ad L [.ref (ad 9 0), .int a1, .int a2] r0 σ0 (F0 m 91 ls []) := by
        intro σ v3 H locs ls G hl hf
        unfold f_X9_fillYear_P91 at hf
        refine lv_iinc (v := (v3 + (1 : Int32))) (lv' := [(3, .int (v3 + (1 : Int32))), (0, .ref (ad 9 0)), (1, .int a1), (2, .int a2)]) C.x C.b dX9_fillYear_91 hl (k := 3) rfl rfl (by decide) rfl (fun ls hl => ?_)
        refine lv_goto (tgt := 17) C.x C.b dX9_fillYear_94 (by decide) ?_
        exact ih17 σ (v3 + (1 : Int32)) _ _ ls G (lv_sub hl [1, 2, 3, 0] rfl) hf
      have lp28 : ∀ n28 : Nat, ∀ (σ : gS) (v3 : Int32) (v4 : Int32) (H : Heap) (locs : List Loc) (ls : Array Slot), g_H D cy A ad L σ s.heap H locs → lv_has ls 7 [(0, .ref (ad 9 0)), (1, .int a1), (2, .int a2), (3, .int v3), (4, .int v4)] → f_X9_fillYear_L28 ad a1 (f_X9_fillYear_P91 (f_X9_fillYear_L17 ad a1 (f_X9_fillYear_P97 ad a1 a2) n17)) n28 σ v3 v4 = some (r0, σ0) → g_Wi p l e ({ frames := 8, cells := 0, slots := 0, locals := 192 } : Room) s m below meth c H locs 0 0 D cy A ad L [.ref (ad 9 0), .int a1, .int a2] r0 σ0 (F0 m 28 ls []) := by
        intro n28
        induction n28 with
        | zero =>
          intro σ v3 v4 H locs ls G hl hf
          rw [f_X9_fillYear_L28] at hf
          cases hf
        | succ n28 ih28 =>
          intro σ v3 v4 H locs ls G hl hf
          rw [f_X9_fillYear_L28] at hf
          refine lv_iload C.x C.b dX9_fillYear_28 (lv_at hl 4 rfl) ?_
          refine lv_aload_n C.x C.b dX9_fillYear_30 rfl (lv_at hl 0 rfl) ?_
          refine g_getr C G 9 0 4 44 hT rfl ginX9 (by decide) tw954 dX9_fillYear_31 (fun hL4 => ?_)
          refine lv_iload_n C.x C.b dX9_fillYear_34 rfl (lv_at hl 3 rfl) ?_
          obtain ⟨hi5, hf⟩ := g_ok hf
          refine g_iald (n := 8) C G 44 0 hL4 (by decide) rfl hi5 dX9_fillYear_35 ?_
          refine lv_icmp_ge (tgt := 91) C.x C.b dX9_fillYear_36 (by decide) (fun cb => ?_) (fun cb => ?_)
          · have hf := g_t cb hf
            exact pt91 σ v3 _ _ ls G (lv_sub hl [0, 1, 2, 3] rfl) hf
          · have hf := g_f cb hf
            refine lv_aload_n C.x C.b dX9_fillYear_39 rfl (lv_at hl 0 rfl) ?_
            refine g_getr C G 9 0 18 58 hT rfl ginX9 (by decide) tw968 dX9_fillYear_40 (fun hL6 => ?_)
            refine lv_aload_n C.x C.b dX9_fillYear_43 rfl (lv_at hl 0 rfl) ?_
            refine lv_iload_n C.x C.b dX9_fillYear_44 rfl (lv_at hl 3 rfl) ?_
            refine lv_iload_n C.x C.b dX9_fillYear_45 rfl (lv_at hl 1 rfl) ?_
            refine lv_iload C.x C.b dX9_fillYear_46 (lv_at hl 4 rfl) ?_
            obtain ⟨q7, eq7, hf⟩ := g_b hf
            refine g_calli G (g_runV (As := [.int v3, .int a1, .int v4]) (rest := [.ref (ad 58 0)]) C G 9 0 (c_X9_at l D cy A ad L σ hT v3 a1 v4 q7 eq7) ⟨tw1141, tw60, tw1138, ⟨tw1140, tw23⟩, hd_X9_at⟩ (by decide) hT rfl ⟨rfl, by decide⟩ hl.1 rfl (Nat.le_of_ble_eq_true rfl) dX9_fillYear_48 ⟨Nat.le_of_ble_eq_true rfl, Nat.le_of_ble_eq_true rfl⟩) (fun H locs G => ?_)
            obtain ⟨hi8, hf⟩ := g_ok hf
            refine g_iald (n := 4800) C G 58 0 hL6 (by decide) rfl hi8 dX9_fillYear_51 ?_
            refine lv_if_lt (tgt := 58) C.x C.b dX9_fillYear_52 (by decide) (fun cb => ?_) (fun cb => ?_)
            · have hf := g_t cb hf
              refine lv_aload_n C.x C.b dX9_fillYear_58 rfl (lv_at hl 0 rfl) ?_
              refine g_getr C G 9 0 27 67 hT rfl ginX9 (by decide) tw977 dX9_fillYear_59 (fun hL9 => ?_)
              refine lv_aload_n C.x C.b dX9_fillYear_62 rfl (lv_at hl 0 rfl) ?_
              refine g_geti C G 9 0 22 hT rfl ginX9 (by decide) tw972 dX9_fillYear_63 ?_
              refine lv_aload_n C.x C.b dX9_fillYear_66 rfl (lv_at hl 0 rfl) ?_
              refine lv_iload_n C.x C.b dX9_fillYear_67 rfl (lv_at hl 3 rfl) ?_
              refine lv_iload_n C.x C.b dX9_fillYear_68 rfl (lv_at hl 1 rfl) ?_
              refine lv_iload C.x C.b dX9_fillYear_69 (lv_at hl 4 rfl) ?_
              obtain ⟨q10, eq10, hf⟩ := g_b hf
              refine g_calli G (g_runV (As := [.int v3, .int a1, .int v4]) (rest := [.int (σ 9 0 22), .ref (ad 67 0)]) C G 9 0 (c_X9_at l D cy A ad L σ hT v3 a1 v4 q10 eq10) ⟨tw1141, tw60, tw1138, ⟨tw1140, tw23⟩, hd_X9_at⟩ (by decide) hT rfl ⟨rfl, by decide⟩ hl.1 rfl (Nat.le_of_ble_eq_true rfl) dX9_fillYear_71 ⟨Nat.le_of_ble_eq_true rfl, Nat.le_of_ble_eq_true rfl⟩) (fun H locs G => ?_)
              obtain ⟨hi11, hf⟩ := g_ok hf
              refine g_iast (n := 24) C G 67 0 hL9 (by decide) rfl hi11 dX9_fillYear_74 (fun H locs G => ?_)
              obtain ⟨σ12, eσ12, hf⟩ := g_lt hf
              rw [← eσ12] at G
              refine lv_aload_n C.x C.b dX9_fillYear_75 rfl (lv_at hl 0 rfl) ?_
              refine lv_dup C.x C.b dX9_fillYear_76 rfl ?_
              refine g_geti C G 9 0 22 hT rfl ginX9 (by decide) tw972 dX9_fillYear_77 ?_
              refine lv_iconst (v := (1 : Int32)) C.x C.b dX9_fillYear_80 (by decide) ?_
              refine lv_iadd C.x C.b dX9_fillYear_81 ?_
              refine g_puti C G 9 0 22 hT (v := ((σ12 9 0 22) + (1 : Int32))) rfl ginX9 tyX9_ok nmX9 (by decide) ⟨rfl, rfl⟩ tw972 dX9_fillYear_82 (fun H locs G => ?_)
              obtain ⟨σ13, eσ13, hf⟩ := g_lt hf
              rw [← eσ13] at G
              refine lv_iinc (v := (v4 + (1 : Int32))) (lv' := [(4, .int (v4 + (1 : Int32))), (0, .ref (ad 9 0)), (1, .int a1), (2, .int a2), (3, .int v3)]) C.x C.b dX9_fillYear_85 hl (k := 4) rfl rfl (by decide) rfl (fun ls hl => ?_)
              refine lv_goto (tgt := 28) C.x C.b dX9_fillYear_88 (by decide) ?_
              exact ih28 σ13 v3 (v4 + (1 : Int32)) _ _ ls G (lv_sub hl [1, 2, 3, 4, 0] rfl) hf
            · have hf := g_f cb hf
              refine lv_goto (tgt := 85) C.x C.b dX9_fillYear_55 (by decide) ?_
              refine lv_iinc (v := (v4 + (1 : Int32))) (lv' := [(4, .int (v4 + (1 : Int32))), (0, .ref (ad 9 0)), (1, .int a1), (2, .int a2), (3, .int v3)]) C.x C.b dX9_fillYear_85 hl (k := 4) rfl rfl (by decide) rfl (fun ls hl => ?_)
              refine lv_goto (tgt := 28) C.x C.b dX9_fillYear_88 (by decide) ?_
              exact ih28 σ v3 (v4 + (1 : Int32)) _ _ ls G (lv_sub hl [1, 2, 3, 4, 0] rfl) hf
      intro σ v3 H locs ls G hl hf
      rw [f_X9_fillYear_L17] at hf
      refine lv_iload_n C.x C.b dX9_fillYear_17 rfl (lv_at hl 3 rfl) ?_
      refine lv_aload_n C.x C.b dX9_fillYear_18 rfl (lv_at hl 0 rfl) ?_
      refine g_geti C G 9 0 1 hT rfl ginX9 (by decide) tw951 dX9_fillYear_19 ?_
      refine lv_icmp_ge (tgt := 97) C.x C.b dX9_fillYear_22 (by decide) (fun cb => ?_) (fun cb => ?_)
      · have hf := g_t cb hf
        exact pt97 σ _ _ ls G (lv_sub hl [0, 1, 2] rfl) hf
      · have hf := g_f cb hf
        refine lv_iconst (v := (0 : Int32)) C.x C.b dX9_fillYear_25 (by decide) ?_
        refine lv_istore (lv' := [(4, .int (0 : Int32)), (0, .ref (ad 9 0)), (1, .int a1), (2, .int a2), (3, .int v3)]) C.x C.b dX9_fillYear_26 hl (by decide) rfl (fun ls hl => ?_)
        exact lp28 g_fuel σ v3 (0 : Int32) _ _ ls G (lv_sub hl [1, 2, 3, 4, 0] rfl) hf
  unfold f_X9_fillYear at hf
  refine lv_aload_n C.x C.b dX9_fillYear_0 rfl (lv_at hl 0 rfl) ?_
  refine lv_iconst (v := (0 : Int32)) C.x C.b dX9_fillYear_1 (by decide) ?_
  refine g_puti C G 9 0 22 hT (v := (0 : Int32)) rfl ginX9 tyX9_ok nmX9 (by decide) ⟨rfl, rfl⟩ tw972 dX9_fillYear_2 (fun H locs G => ?_)
  obtain ⟨σ1, eσ1, hf⟩ := g_lt hf
  rw [← eσ1] at G
  refine lv_aload_n C.x C.b dX9_fillYear_5 rfl (lv_at hl 0 rfl) ?_
  refine lv_iconst (v := (0 : Int32)) C.x C.b dX9_fillYear_6 (by decide) ?_
  refine g_puti C G 9 0 23 hT (v := (0 : Int32)) rfl ginX9 tyX9_ok nmX9 (by decide) ⟨rfl, rfl⟩ tw973 dX9_fillYear_7 (fun H locs G => ?_)
  obtain ⟨σ2, eσ2, hf⟩ := g_lt hf
  rw [← eσ2] at G
  refine lv_aload_n C.x C.b dX9_fillYear_10 rfl (lv_at hl 0 rfl) ?_
  refine lv_iconst (v := (0 : Int32)) C.x C.b dX9_fillYear_11 (by decide) ?_
  refine g_puti C G 9 0 26 hT (v := (0 : Int32)) rfl ginX9 tyX9_ok nmX9 (by decide) ⟨rfl, rfl⟩ tw976 dX9_fillYear_12 (fun H locs G => ?_)
  obtain ⟨σ3, eσ3, hf⟩ := g_lt hf
  rw [← eσ3] at G
  refine lv_iconst (v := (0 : Int32)) C.x C.b dX9_fillYear_15 (by decide) ?_
  refine lv_istore_n (lv' := [(3, .int (0 : Int32)), (0, .ref (ad 9 0)), (1, .int a1), (2, .int a2)]) C.x C.b dX9_fillYear_16 rfl hl (by decide) rfl (fun ls hl => ?_)
  exact lp17 g_fuel σ3 (0 : Int32) _ _ ls G (lv_sub hl [1, 2, 3, 0] rfl) hf
def f_X9_fillings (ad : gA) (σ : gS) (a1 : Int32) : Option (Int32 × gS) := ((f_X9_isYear ad σ a1).bind fun q1 => (if q1 = 0 then (some ((-1 : Int32), σ)) else ((f_X9_fillYear ad σ a1 (1 : Int32)).bind fun q2 => (some (q2.1, q2.2)))))
theorem hd_X9_fillings : yX9_fillings.cls ≠ "java/lang/invoke/MethodHandle" ∧ yX9_fillings.cls ≠ "java/lang/invoke/VarHandle" ∧ (parseMethodDescriptor yX9_fillings.desc).map (fun d => d.parameters.length) = some 1 := by decide +kernel
set_option maxHeartbeats 4000000 in
set_option maxRecDepth 100000 in
theorem c_X9_fillings (l : Launch) (D : va_G) (cy : Nat → ClassId) (A : Nat → Prop) (ad : gA) (L : gL)  (σ : gS) (hT : (9, 0) ∈ L) (a1 : Int32) (r0 : Int32) (σ0 : gS) (hf : f_X9_fillings ad σ a1 = some (r0, σ0)) : g_Mi l yX9_fillings cX9_fillings 2 (some .int) ({ frames := 9, cells := 0, slots := 0, locals := 218 } : Room) D cy A ad L σ [.ref (ad 9 0), .int a1] r0 σ0 := by
  refine g_met (by decide) (Nat.le_of_ble_eq_true rfl) (fun p e s m below meth c C hr hlocks hnm G ls hl => ?_)
  have hl : lv_has ls 2 [(0, .ref (ad 9 0)), (1, .int a1)] := hl
  unfold f_X9_fillings at hf
  refine lv_aload_n C.x C.b dX9_fillings_0 rfl (lv_at hl 0 rfl) ?_
  refine lv_iload_n C.x C.b dX9_fillings_1 rfl (lv_at hl 1 rfl) ?_
  obtain ⟨q1, eq1, hf⟩ := g_b hf
  refine g_calli G (g_runV (As := [.int a1]) (rest := []) C G 9 0 (c_X9_isYear l D cy A ad L σ hT a1 q1 eq1) ⟨tw1117, tw60, tw1114, ⟨tw1116, tw21⟩, hd_X9_isYear⟩ (by decide) hT rfl ⟨rfl, by decide⟩ hl.1 rfl (Nat.le_of_ble_eq_true rfl) dX9_fillings_2 ⟨Nat.le_of_ble_eq_true rfl, Nat.le_of_ble_eq_true rfl⟩) (fun H locs G => ?_)
  refine lv_if_eq (tgt := 17) C.x C.b dX9_fillings_5 (by decide) (fun cb => ?_) (fun cb => ?_)
  · have hf := g_t cb hf
    refine lv_iconst (v := (-1 : Int32)) C.x C.b dX9_fillings_17 (by decide) ?_
    exact g_eii C G hr hlocks hf dX9_fillings_18
  · have hf := g_f cb hf
    refine lv_aload_n C.x C.b dX9_fillings_8 rfl (lv_at hl 0 rfl) ?_
    refine lv_iload_n C.x C.b dX9_fillings_9 rfl (lv_at hl 1 rfl) ?_
    refine lv_iconst (v := (1 : Int32)) C.x C.b dX9_fillings_10 (by decide) ?_
    obtain ⟨q2, eq2, hf⟩ := g_b hf
    refine g_calli G (g_runV (As := [.int a1, .int (1 : Int32)]) (rest := []) C G 9 0 (c_X9_fillYear l D cy A ad L σ hT a1 (1 : Int32) q2.1 q2.2 eq2) ⟨tw1245, tw60, tw1242, ⟨tw1244, tw38⟩, hd_X9_fillYear⟩ (by decide) hT rfl ⟨rfl, by decide⟩ hl.1 rfl (Nat.le_of_ble_eq_true rfl) dX9_fillings_11 ⟨Nat.le_of_ble_eq_true rfl, Nat.le_of_ble_eq_true rfl⟩) (fun H locs G => ?_)
    refine lv_goto (tgt := 18) C.x C.b dX9_fillings_14 (by decide) ?_
    exact g_eii C G hr hlocks hf dX9_fillings_18
def f_X9_fill (ad : gA) (σ : gS) (a1 : Int32) : Option (Int32 × gS) := ((f_X9_isYear ad σ a1).bind fun q1 => (if q1 = 0 then (some ((-1 : Int32), σ)) else ((f_X9_fillYear ad σ a1 (0 : Int32)).bind fun q2 => (if q2.1 = (-8 : Int32) then (some ((-8 : Int32), q2.2)) else (if q2.1 = 0 then (some ((-9 : Int32), q2.2)) else (some ((q2.2 9 0 22), q2.2)))))))
theorem hd_X9_fill : yX9_fill.cls ≠ "java/lang/invoke/MethodHandle" ∧ yX9_fill.cls ≠ "java/lang/invoke/VarHandle" ∧ (parseMethodDescriptor yX9_fill.desc).map (fun d => d.parameters.length) = some 1 := by decide +kernel
set_option maxHeartbeats 4000000 in
set_option maxRecDepth 100000 in
theorem c_X9_fill (l : Launch) (D : va_G) (cy : Nat → ClassId) (A : Nat → Prop) (ad : gA) (L : gL)  (σ : gS) (hT : (9, 0) ∈ L) (a1 : Int32) (r0 : Int32) (σ0 : gS) (hf : f_X9_fill ad σ a1 = some (r0, σ0)) : g_Mi l yX9_fill cX9_fill 3 (some .int) ({ frames := 9, cells := 0, slots := 0, locals := 218 } : Room) D cy A ad L σ [.ref (ad 9 0), .int a1] r0 σ0 := by
  refine g_met (by decide) (Nat.le_of_ble_eq_true rfl) (fun p e s m below meth c C hr hlocks hnm G ls hl => ?_)
  have hl : lv_has ls 3 [(0, .ref (ad 9 0)), (1, .int a1)] := hl
  unfold f_X9_fill at hf
  refine lv_aload_n C.x C.b dX9_fill_0 rfl (lv_at hl 0 rfl) ?_
  refine lv_iload_n C.x C.b dX9_fill_1 rfl (lv_at hl 1 rfl) ?_
  obtain ⟨q1, eq1, hf⟩ := g_b hf
  refine g_calli G (g_runV (As := [.int a1]) (rest := []) C G 9 0 (c_X9_isYear l D cy A ad L σ hT a1 q1 eq1) ⟨tw1117, tw60, tw1114, ⟨tw1116, tw21⟩, hd_X9_isYear⟩ (by decide) hT rfl ⟨rfl, by decide⟩ hl.1 rfl (Nat.le_of_ble_eq_true rfl) dX9_fill_2 ⟨Nat.le_of_ble_eq_true rfl, Nat.le_of_ble_eq_true rfl⟩) (fun H locs G => ?_)
  refine lv_if_ne (tgt := 10) C.x C.b dX9_fill_5 (by decide) (fun cb => ?_) (fun cb => ?_)
  · have hf := g_f cb hf
    refine lv_aload_n C.x C.b dX9_fill_10 rfl (lv_at hl 0 rfl) ?_
    refine lv_iload_n C.x C.b dX9_fill_11 rfl (lv_at hl 1 rfl) ?_
    refine lv_iconst (v := (0 : Int32)) C.x C.b dX9_fill_12 (by decide) ?_
    obtain ⟨q2, eq2, hf⟩ := g_b hf
    refine g_calli G (g_runV (As := [.int a1, .int (0 : Int32)]) (rest := []) C G 9 0 (c_X9_fillYear l D cy A ad L σ hT a1 (0 : Int32) q2.1 q2.2 eq2) ⟨tw1245, tw60, tw1242, ⟨tw1244, tw38⟩, hd_X9_fillYear⟩ (by decide) hT rfl ⟨rfl, by decide⟩ hl.1 rfl (Nat.le_of_ble_eq_true rfl) dX9_fill_13 ⟨Nat.le_of_ble_eq_true rfl, Nat.le_of_ble_eq_true rfl⟩) (fun H locs G => ?_)
    refine lv_istore_n (lv' := [(2, .int q2.1), (0, .ref (ad 9 0)), (1, .int a1)]) C.x C.b dX9_fill_16 rfl hl (by decide) rfl (fun ls hl => ?_)
    refine lv_iload_n C.x C.b dX9_fill_17 rfl (lv_at hl 0 rfl) ?_
    refine lv_bipush (v := (-8 : Int32)) C.x C.b dX9_fill_18 (by decide) ?_
    refine lv_icmp_ne (tgt := 28) C.x C.b dX9_fill_20 (by decide) (fun cb => ?_) (fun cb => ?_)
    · have hf := g_f cb hf
      refine lv_iload_n C.x C.b dX9_fill_28 rfl (lv_at hl 0 rfl) ?_
      refine lv_if_ne (tgt := 37) C.x C.b dX9_fill_29 (by decide) (fun cb => ?_) (fun cb => ?_)
      · have hf := g_f cb hf
        refine lv_aload_n C.x C.b dX9_fill_37 rfl (lv_at hl 1 rfl) ?_
        refine g_geti C G 9 0 22 hT rfl ginX9 (by decide) tw972 dX9_fill_38 ?_
        exact g_eii C G hr hlocks hf dX9_fill_41
      · have hf := g_t cb hf
        refine lv_bipush (v := (-9 : Int32)) C.x C.b dX9_fill_32 (by decide) ?_
        refine lv_goto (tgt := 41) C.x C.b dX9_fill_34 (by decide) ?_
        exact g_eii C G hr hlocks hf dX9_fill_41
    · have hf := g_t cb hf
      refine lv_bipush (v := (-8 : Int32)) C.x C.b dX9_fill_23 (by decide) ?_
      refine lv_goto (tgt := 41) C.x C.b dX9_fill_25 (by decide) ?_
      exact g_eii C G hr hlocks hf dX9_fill_41
  · have hf := g_t cb hf
    refine lv_iconst (v := (-1 : Int32)) C.x C.b dX9_fill_8 (by decide) ?_
    exact g_eii C G hr hlocks hf dX9_fill_9
def f_X9_among (ad : gA) (σ : gS) (a1 : Int32) (a2 : Int32) (a3 : Int32) : Option (Int32 × gS) := ((f_X9_isPerson ad σ a1).bind fun q1 => (if q1 = 0 then (some ((-1 : Int32), σ)) else ((f_X9_isOffice ad σ a2).bind fun q2 => (if q2 = 0 then (some ((-1 : Int32), σ)) else ((f_X9_isYear ad σ a3).bind fun q3 => (if q3 = 0 then (some ((-1 : Int32), σ)) else (g_let (g_up σ 9 0 24 a1) fun σ4 => (g_let (g_up σ4 9 0 25 a2) fun σ5 => ((f_X9_fillYear ad σ5 a3 (1 : Int32)).bind fun q6 => (if q6.1 = (-8 : Int32) then (some ((-8 : Int32), q6.2)) else (some ((q6.2 9 0 26), q6.2))))))))))))
theorem hd_X9_among : yX9_among.cls ≠ "java/lang/invoke/MethodHandle" ∧ yX9_among.cls ≠ "java/lang/invoke/VarHandle" ∧ (parseMethodDescriptor yX9_among.desc).map (fun d => d.parameters.length) = some 3 := by decide +kernel
set_option maxHeartbeats 4000000 in
set_option maxRecDepth 100000 in
theorem c_X9_among (l : Launch) (D : va_G) (cy : Nat → ClassId) (A : Nat → Prop) (ad : gA) (L : gL)  (σ : gS) (hT : (9, 0) ∈ L) (a1 : Int32) (a2 : Int32) (a3 : Int32) (r0 : Int32) (σ0 : gS) (hf : f_X9_among ad σ a1 a2 a3 = some (r0, σ0)) : g_Mi l yX9_among cX9_among 4 (some .int) ({ frames := 9, cells := 0, slots := 0, locals := 218 } : Room) D cy A ad L σ [.ref (ad 9 0), .int a1, .int a2, .int a3] r0 σ0 := by
  refine g_met (by decide) (Nat.le_of_ble_eq_true rfl) (fun p e s m below meth c C hr hlocks hnm G ls hl => ?_)
  have hl : lv_has ls 4 [(0, .ref (ad 9 0)), (1, .int a1), (2, .int a2), (3, .int a3)] := hl
  unfold f_X9_among at hf
  refine lv_aload_n C.x C.b dX9_among_0 rfl (lv_at hl 0 rfl) ?_
  refine lv_iload_n C.x C.b dX9_among_1 rfl (lv_at hl 1 rfl) ?_
  obtain ⟨q1, eq1, hf⟩ := g_b hf
  refine g_calli G (g_runV (As := [.int a1]) (rest := []) C G 9 0 (c_X9_isPerson l D cy A ad L σ hT a1 q1 eq1) ⟨tw1109, tw60, tw1106, ⟨tw1108, tw20⟩, hd_X9_isPerson⟩ (by decide) hT rfl ⟨rfl, by decide⟩ hl.1 rfl (Nat.le_of_ble_eq_true rfl) dX9_among_2 ⟨Nat.le_of_ble_eq_true rfl, Nat.le_of_ble_eq_true rfl⟩) (fun H locs G => ?_)
  refine lv_if_eq (tgt := 24) C.x C.b dX9_among_5 (by decide) (fun cb => ?_) (fun cb => ?_)
  · have hf := g_t cb hf
    refine lv_iconst (v := (-1 : Int32)) C.x C.b dX9_among_24 (by decide) ?_
    exact g_eii C G hr hlocks hf dX9_among_25
  · have hf := g_f cb hf
    refine lv_aload_n C.x C.b dX9_among_8 rfl (lv_at hl 0 rfl) ?_
    refine lv_iload_n C.x C.b dX9_among_9 rfl (lv_at hl 2 rfl) ?_
    obtain ⟨q2, eq2, hf⟩ := g_b hf
    refine g_calli G (g_runV (As := [.int a2]) (rest := []) C G 9 0 (c_X9_isOffice l D cy A ad L σ hT a2 q2 eq2) ⟨tw1129, tw60, tw1126, ⟨tw1128, tw22⟩, hd_X9_isOffice⟩ (by decide) hT rfl ⟨rfl, by decide⟩ hl.1 rfl (Nat.le_of_ble_eq_true rfl) dX9_among_10 ⟨Nat.le_of_ble_eq_true rfl, Nat.le_of_ble_eq_true rfl⟩) (fun H locs G => ?_)
    refine lv_if_eq (tgt := 24) C.x C.b dX9_among_13 (by decide) (fun cb => ?_) (fun cb => ?_)
    · have hf := g_t cb hf
      refine lv_iconst (v := (-1 : Int32)) C.x C.b dX9_among_24 (by decide) ?_
      exact g_eii C G hr hlocks hf dX9_among_25
    · have hf := g_f cb hf
      refine lv_aload_n C.x C.b dX9_among_16 rfl (lv_at hl 0 rfl) ?_
      refine lv_iload_n C.x C.b dX9_among_17 rfl (lv_at hl 3 rfl) ?_
      obtain ⟨q3, eq3, hf⟩ := g_b hf
      refine g_calli G (g_runV (As := [.int a3]) (rest := []) C G 9 0 (c_X9_isYear l D cy A ad L σ hT a3 q3 eq3) ⟨tw1117, tw60, tw1114, ⟨tw1116, tw21⟩, hd_X9_isYear⟩ (by decide) hT rfl ⟨rfl, by decide⟩ hl.1 rfl (Nat.le_of_ble_eq_true rfl) dX9_among_18 ⟨Nat.le_of_ble_eq_true rfl, Nat.le_of_ble_eq_true rfl⟩) (fun H locs G => ?_)
      refine lv_if_ne (tgt := 26) C.x C.b dX9_among_21 (by decide) (fun cb => ?_) (fun cb => ?_)
      · have hf := g_f cb hf
        refine lv_aload_n C.x C.b dX9_among_26 rfl (lv_at hl 0 rfl) ?_
        refine lv_iload_n C.x C.b dX9_among_27 rfl (lv_at hl 1 rfl) ?_
        refine g_puti C G 9 0 24 hT (v := a1) rfl ginX9 tyX9_ok nmX9 (by decide) ⟨rfl, rfl⟩ tw974 dX9_among_28 (fun H locs G => ?_)
        obtain ⟨σ4, eσ4, hf⟩ := g_lt hf
        rw [← eσ4] at G
        refine lv_aload_n C.x C.b dX9_among_31 rfl (lv_at hl 0 rfl) ?_
        refine lv_iload_n C.x C.b dX9_among_32 rfl (lv_at hl 2 rfl) ?_
        refine g_puti C G 9 0 25 hT (v := a2) rfl ginX9 tyX9_ok nmX9 (by decide) ⟨rfl, rfl⟩ tw975 dX9_among_33 (fun H locs G => ?_)
        obtain ⟨σ5, eσ5, hf⟩ := g_lt hf
        rw [← eσ5] at G
        refine lv_aload_n C.x C.b dX9_among_36 rfl (lv_at hl 0 rfl) ?_
        refine lv_iload_n C.x C.b dX9_among_37 rfl (lv_at hl 3 rfl) ?_
        refine lv_iconst (v := (1 : Int32)) C.x C.b dX9_among_38 (by decide) ?_
        obtain ⟨q6, eq6, hf⟩ := g_b hf
        refine g_calli G (g_runV (As := [.int a3, .int (1 : Int32)]) (rest := []) C G 9 0 (c_X9_fillYear l D cy A ad L σ5 hT a3 (1 : Int32) q6.1 q6.2 eq6) ⟨tw1245, tw60, tw1242, ⟨tw1244, tw38⟩, hd_X9_fillYear⟩ (by decide) hT rfl ⟨rfl, by decide⟩ hl.1 rfl (Nat.le_of_ble_eq_true rfl) dX9_among_39 ⟨Nat.le_of_ble_eq_true rfl, Nat.le_of_ble_eq_true rfl⟩) (fun H locs G => ?_)
        refine lv_bipush (v := (-8 : Int32)) C.x C.b dX9_among_42 (by decide) ?_
        refine lv_icmp_ne (tgt := 52) C.x C.b dX9_among_44 (by decide) (fun cb => ?_) (fun cb => ?_)
        · have hf := g_f cb hf
          refine lv_aload_n C.x C.b dX9_among_52 rfl (lv_at hl 0 rfl) ?_
          refine g_geti C G 9 0 26 hT rfl ginX9 (by decide) tw976 dX9_among_53 ?_
          exact g_eii C G hr hlocks hf dX9_among_56
        · have hf := g_t cb hf
          refine lv_bipush (v := (-8 : Int32)) C.x C.b dX9_among_47 (by decide) ?_
          refine lv_goto (tgt := 56) C.x C.b dX9_among_49 (by decide) ?_
          exact g_eii C G hr hlocks hf dX9_among_56
      · have hf := g_t cb hf
        refine lv_iconst (v := (-1 : Int32)) C.x C.b dX9_among_24 (by decide) ?_
        exact g_eii C G hr hlocks hf dX9_among_25
