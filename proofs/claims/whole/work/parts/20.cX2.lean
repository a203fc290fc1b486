def f_X2_binds (ad : gA) (σ : gS) (o : Nat) (a1 : Int32) (a2 : Int32) : Option Int32 := (if (σ 2 o 2) = (-1 : Int32) then (if a2 < (σ 2 o 4) then (some (0 : Int32)) else (if (σ 2 o 5) ≤ a2 then (some (0 : Int32)) else (some (1 : Int32)))) else (if (σ 2 o 2) = a1 then (if a2 < (σ 2 o 4) then (some (0 : Int32)) else (if (σ 2 o 5) ≤ a2 then (some (0 : Int32)) else (some (1 : Int32)))) else (some (0 : Int32))))
theorem hd_X2_binds : yX2_binds.cls ≠ "java/lang/invoke/MethodHandle" ∧ yX2_binds.cls ≠ "java/lang/invoke/VarHandle" ∧ (parseMethodDescriptor yX2_binds.desc).map (fun d => d.parameters.length) = some 2 := by decide +kernel
set_option maxHeartbeats 4000000 in
set_option maxRecDepth 100000 in
theorem c_X2_binds (l : Launch) (D : va_G) (cy : Nat → ClassId) (A : Nat → Prop) (ad : gA) (L : gL)  (σ : gS) (o : Nat) (hT : (2, o) ∈ L) (a1 : Int32) (a2 : Int32) (r0 : Int32) (hf : f_X2_binds ad σ o a1 a2 = some r0) : g_Mi l yX2_binds cX2_binds 3 (some .boolean) ({ frames := 0, cells := 0, slots := 0, locals := 0 } : Room) D cy A ad L σ [.ref (ad 2 o), .int a1, .int a2] r0 σ := by
  refine g_met (by decide) (Nat.le_of_ble_eq_true rfl) (fun p e s m below meth c C hr hlocks hnm G ls hl => ?_)
  have hl : lv_has ls 3 [(0, .ref (ad 2 o)), (1, .int a1), (2, .int a2)] := hl
  unfold f_X2_binds at hf
  refine lv_aload_n C.x C.b dX2_binds_0 rfl (lv_at hl 0 rfl) ?_
  refine g_geti C G 2 o 2 hT rfl ginX2 (by decide) tw456 dX2_binds_1 ?_
  refine lv_iconst (v := (-1 : Int32)) C.x C.b dX2_binds_4 (by decide) ?_
  refine lv_icmp_eq (tgt := 16) C.x C.b dX2_binds_5 (by decide) (fun cb => ?_) (fun cb => ?_)
  · have hf := g_t cb hf
    refine lv_aload_n C.x C.b dX2_binds_16 rfl (lv_at hl 0 rfl) ?_
    refine g_geti C G 2 o 4 hT rfl ginX2 (by decide) tw458 dX2_binds_17 ?_
    refine lv_iload_n C.x C.b dX2_binds_20 rfl (lv_at hl 2 rfl) ?_
    refine lv_icmp_gt (tgt := 36) C.x C.b dX2_binds_21 (by decide) (fun cb => ?_) (fun cb => ?_)
    · have hf := g_t cb hf
      refine lv_iconst (v := (0 : Int32)) C.x C.b dX2_binds_36 (by decide) ?_
      exact g_ezp C G hr hlocks hf rfl dX2_binds_37
    · have hf := g_f cb hf
      refine lv_iload_n C.x C.b dX2_binds_24 rfl (lv_at hl 2 rfl) ?_
      refine lv_aload_n C.x C.b dX2_binds_25 rfl (lv_at hl 0 rfl) ?_
      refine g_geti C G 2 o 5 hT rfl ginX2 (by decide) tw460 dX2_binds_26 ?_
      refine lv_icmp_ge (tgt := 36) C.x C.b dX2_binds_29 (by decide) (fun cb => ?_) (fun cb => ?_)
      · have hf := g_t cb hf
        refine lv_iconst (v := (0 : Int32)) C.x C.b dX2_binds_36 (by decide) ?_
        exact g_ezp C G hr hlocks hf rfl dX2_binds_37
      · have hf := g_f cb hf
        refine lv_iconst (v := (1 : Int32)) C.x C.b dX2_binds_32 (by decide) ?_
        refine lv_goto (tgt := 37) C.x C.b dX2_binds_33 (by decide) ?_
        exact g_ezp C G hr hlocks hf rfl dX2_binds_37
  · have hf := g_f cb hf
    refine lv_aload_n C.x C.b dX2_binds_8 rfl (lv_at hl 0 rfl) ?_
    refine g_geti C G 2 o 2 hT rfl ginX2 (by decide) tw456 dX2_binds_9 ?_
    refine lv_iload_n C.x C.b dX2_binds_12 rfl (lv_at hl 1 rfl) ?_
    refine lv_icmp_ne (tgt := 36) C.x C.b dX2_binds_13 (by decide) (fun cb => ?_) (fun cb => ?_)
    · have hf := g_f cb hf
      refine lv_iconst (v := (0 : Int32)) C.x C.b dX2_binds_36 (by decide) ?_
      exact g_ezp C G hr hlocks hf rfl dX2_binds_37
    · have hf := g_t cb hf
      refine lv_aload_n C.x C.b dX2_binds_16 rfl (lv_at hl 0 rfl) ?_
      refine g_geti C G 2 o 4 hT rfl ginX2 (by decide) tw458 dX2_binds_17 ?_
      refine lv_iload_n C.x C.b dX2_binds_20 rfl (lv_at hl 2 rfl) ?_
      refine lv_icmp_gt (tgt := 36) C.x C.b dX2_binds_21 (by decide) (fun cb => ?_) (fun cb => ?_)
      · have hf := g_t cb hf
        refine lv_iconst (v := (0 : Int32)) C.x C.b dX2_binds_36 (by decide) ?_
        exact g_ezp C G hr hlocks hf rfl dX2_binds_37
      · have hf := g_f cb hf
        refine lv_iload_n C.x C.b dX2_binds_24 rfl (lv_at hl 2 rfl) ?_
        refine lv_aload_n C.x C.b dX2_binds_25 rfl (lv_at hl 0 rfl) ?_
        refine g_geti C G 2 o 5 hT rfl ginX2 (by decide) tw460 dX2_binds_26 ?_
        refine lv_icmp_ge (tgt := 36) C.x C.b dX2_binds_29 (by decide) (fun cb => ?_) (fun cb => ?_)
        · have hf := g_t cb hf
          refine lv_iconst (v := (0 : Int32)) C.x C.b dX2_binds_36 (by decide) ?_
          exact g_ezp C G hr hlocks hf rfl dX2_binds_37
        · have hf := g_f cb hf
          refine lv_iconst (v := (1 : Int32)) C.x C.b dX2_binds_32 (by decide) ?_
          refine lv_goto (tgt := 37) C.x C.b dX2_binds_33 (by decide) ?_
          exact g_ezp C G hr hlocks hf rfl dX2_binds_37
def f_X2_bars (ad : gA) (σ : gS) (o : Nat) (a1 : Nat) (a2 : Int32) : Option Int32 := (if (σ 2 o 1) = (0 : Int32) then (if (σ 2 o 3) ≤ (a2 - (σ 5 a1 3)) then (some (0 : Int32)) else (some (1 : Int32))) else (if (σ 2 o 1) = (1 : Int32) then (if (((σ 4 0 0) >>> ((σ 2 o 3) &&& 31)) &&& (1 : Int32)) = 0 then (some (1 : Int32)) else (some (0 : Int32))) else (if (σ 2 o 1) = (2 : Int32) then (if (σ 4 0 1) = (-1 : Int32) then (some (0 : Int32)) else (if (σ 2 o 3) < (a2 - (σ 4 0 1)) then (some (0 : Int32)) else (some (1 : Int32)))) else (if (σ 2 o 1) = (3 : Int32) then (if (σ 4 0 2) = (-1 : Int32) then (some (0 : Int32)) else (if (σ 2 o 3) < (a2 - (σ 4 0 2)) then (some (0 : Int32)) else (some (1 : Int32)))) else (if (σ 2 o 1) = (4 : Int32) then (if (σ 5 a1 0) = (σ 2 o 3) then (some (1 : Int32)) else (some (0 : Int32))) else (if g_bo (σ 4 0 3) then (some (σ 4 0 3)) else none))))))
theorem hd_X2_bars : yX2_bars.cls ≠ "java/lang/invoke/MethodHandle" ∧ yX2_bars.cls ≠ "java/lang/invoke/VarHandle" ∧ (parseMethodDescriptor yX2_bars.desc).map (fun d => d.parameters.length) = some 3 := by decide +kernel
set_option maxHeartbeats 4000000 in
set_option maxRecDepth 100000 in
theorem c_X2_bars (l : Launch) (D : va_G) (cy : Nat → ClassId) (A : Nat → Prop) (ad : gA) (L : gL)  (σ : gS) (o : Nat) (hT : (2, o) ∈ L) (a1 : Nat) (ha1 : (5, a1) ∈ L) (a2 : Int32) (ha3 : (4, 0) ∈ L) (r0 : Int32) (hf : f_X2_bars ad σ o a1 a2 = some r0) : g_Mi l yX2_bars cX2_bars 4 (some .boolean) ({ frames := 0, cells := 0, slots := 0, locals := 0 } : Room) D cy A ad L σ [.ref (ad 2 o), .ref (ad 5 a1), .int a2, .ref (ad 4 0)] r0 σ := by
  refine g_met (by decide) (Nat.le_of_ble_eq_true rfl) (fun p e s m below meth c C hr hlocks hnm G ls hl => ?_)
  have hl : lv_has ls 4 [(0, .ref (ad 2 o)), (1, .ref (ad 5 a1)), (2, .int a2), (3, .ref (ad 4 0))] := hl
  unfold f_X2_bars at hf
  refine lv_aload_n C.x C.b dX2_bars_0 rfl (lv_at hl 0 rfl) ?_
  refine g_geti C G 2 o 1 hT rfl ginX2 (by decide) tw454 dX2_bars_1 ?_
  by_cases c0 : (σ 2 o 1) = (0 : Int32)
  · have hf := g_t c0 hf
    have e9 := g_swI c0 (show ((0 : Int32)).toInt = 0 from by decide)
    refine lv_tableIn (tgt := 40) C.x C.b dX2_bars_4 (by omega) (by omega) (by rw [e9]; rfl) (by decide) ?_
    refine lv_iload_n C.x C.b dX2_bars_40 rfl (lv_at hl 2 rfl) ?_
    refine lv_aload_n C.x C.b dX2_bars_41 rfl (lv_at hl 1 rfl) ?_
    refine g_geti C G 5 a1 3 ha1 rfl ginX5 (by decide) tw360 dX2_bars_42 ?_
    refine lv_isub C.x C.b dX2_bars_45 ?_
    refine lv_aload_n C.x C.b dX2_bars_46 rfl (lv_at hl 0 rfl) ?_
    refine g_geti C G 2 o 3 hT rfl ginX2 (by decide) tw457 dX2_bars_47 ?_
    refine lv_icmp_ge (tgt := 57) C.x C.b dX2_bars_50 (by decide) (fun cb => ?_) (fun cb => ?_)
    · have hf := g_t cb hf
      refine lv_iconst (v := (0 : Int32)) C.x C.b dX2_bars_57 (by decide) ?_
      exact g_ezp C G hr hlocks hf rfl dX2_bars_58
    · have hf := g_f cb hf
      refine lv_iconst (v := (1 : Int32)) C.x C.b dX2_bars_53 (by decide) ?_
      refine lv_goto (tgt := 58) C.x C.b dX2_bars_54 (by decide) ?_
      exact g_ezp C G hr hlocks hf rfl dX2_bars_58
  have hf := g_f c0 hf
  by_cases c1 : (σ 2 o 1) = (1 : Int32)
  · have hf := g_t c1 hf
    have e9 := g_swI c1 (show ((1 : Int32)).toInt = 1 from by decide)
    refine lv_tableIn (tgt := 59) C.x C.b dX2_bars_4 (by omega) (by omega) (by rw [e9]; rfl) (by decide) ?_
    refine lv_aload_n C.x C.b dX2_bars_59 rfl (lv_at hl 3 rfl) ?_
    refine g_geti C G 4 0 0 ha3 rfl ginX4 (by decide) tw99 dX2_bars_60 ?_
    refine lv_aload_n C.x C.b dX2_bars_63 rfl (lv_at hl 0 rfl) ?_
    refine g_geti C G 2 o 3 hT rfl ginX2 (by decide) tw457 dX2_bars_64 ?_
    refine lv_ishr C.x C.b dX2_bars_67 ?_
    refine lv_iconst (v := (1 : Int32)) C.x C.b dX2_bars_68 (by decide) ?_
    refine lv_iand C.x C.b dX2_bars_69 ?_
    refine lv_if_ne (tgt := 77) C.x C.b dX2_bars_70 (by decide) (fun cb => ?_) (fun cb => ?_)
    · have hf := g_f cb hf
      refine lv_iconst (v := (0 : Int32)) C.x C.b dX2_bars_77 (by decide) ?_
      exact g_ezp C G hr hlocks hf rfl dX2_bars_78
    · have hf := g_t cb hf
      refine lv_iconst (v := (1 : Int32)) C.x C.b dX2_bars_73 (by decide) ?_
      refine lv_goto (tgt := 78) C.x C.b dX2_bars_74 (by decide) ?_
      exact g_ezp C G hr hlocks hf rfl dX2_bars_78
  have hf := g_f c1 hf
  by_cases c2 : (σ 2 o 1) = (2 : Int32)
  · have hf := g_t c2 hf
    have e9 := g_swI c2 (show ((2 : Int32)).toInt = 2 from by decide)
    refine lv_tableIn (tgt := 79) C.x C.b dX2_bars_4 (by omega) (by omega) (by rw [e9]; rfl) (by decide) ?_
    refine lv_aload_n C.x C.b dX2_bars_79 rfl (lv_at hl 3 rfl) ?_
    refine g_geti C G 4 0 1 ha3 rfl ginX4 (by decide) tw101 dX2_bars_80 ?_
    refine lv_iconst (v := (-1 : Int32)) C.x C.b dX2_bars_83 (by decide) ?_
    refine lv_icmp_eq (tgt := 104) C.x C.b dX2_bars_84 (by decide) (fun cb => ?_) (fun cb => ?_)
    · have hf := g_t cb hf
      refine lv_iconst (v := (0 : Int32)) C.x C.b dX2_bars_104 (by decide) ?_
      exact g_ezp C G hr hlocks hf rfl dX2_bars_105
    · have hf := g_f cb hf
      refine lv_iload_n C.x C.b dX2_bars_87 rfl (lv_at hl 2 rfl) ?_
      refine lv_aload_n C.x C.b dX2_bars_88 rfl (lv_at hl 3 rfl) ?_
      refine g_geti C G 4 0 1 ha3 rfl ginX4 (by decide) tw101 dX2_bars_89 ?_
      refine lv_isub C.x C.b dX2_bars_92 ?_
      refine lv_aload_n C.x C.b dX2_bars_93 rfl (lv_at hl 0 rfl) ?_
      refine g_geti C G 2 o 3 hT rfl ginX2 (by decide) tw457 dX2_bars_94 ?_
      refine lv_icmp_gt (tgt := 104) C.x C.b dX2_bars_97 (by decide) (fun cb => ?_) (fun cb => ?_)
      · have hf := g_t cb hf
        refine lv_iconst (v := (0 : Int32)) C.x C.b dX2_bars_104 (by decide) ?_
        exact g_ezp C G hr hlocks hf rfl dX2_bars_105
      · have hf := g_f cb hf
        refine lv_iconst (v := (1 : Int32)) C.x C.b dX2_bars_100 (by decide) ?_
        refine lv_goto (tgt := 105) C.x C.b dX2_bars_101 (by decide) ?_
        exact g_ezp C G hr hlocks hf rfl dX2_bars_105
  have hf := g_f c2 hf
  by_cases c3 : (σ 2 o 1) = (3 : Int32)
  · have hf := g_t c3 hf
    have e9 := g_swI c3 (show ((3 : Int32)).toInt = 3 from by decide)
    refine lv_tableIn (tgt := 106) C.x C.b dX2_bars_4 (by omega) (by omega) (by rw [e9]; rfl) (by decide) ?_
    refine lv_aload_n C.x C.b dX2_bars_106 rfl (lv_at hl 3 rfl) ?_
    refine g_geti C G 4 0 2 ha3 rfl ginX4 (by decide) tw103 dX2_bars_107 ?_
    refine lv_iconst (v := (-1 : Int32)) C.x C.b dX2_bars_110 (by decide) ?_
    refine lv_icmp_eq (tgt := 131) C.x C.b dX2_bars_111 (by decide) (fun cb => ?_) (fun cb => ?_)
    · have hf := g_t cb hf
      refine lv_iconst (v := (0 : Int32)) C.x C.b dX2_bars_131 (by decide) ?_
      exact g_ezp C G hr hlocks hf rfl dX2_bars_132
    · have hf := g_f cb hf
      refine lv_iload_n C.x C.b dX2_bars_114 rfl (lv_at hl 2 rfl) ?_
      refine lv_aload_n C.x C.b dX2_bars_115 rfl (lv_at hl 3 rfl) ?_
      refine g_geti C G 4 0 2 ha3 rfl ginX4 (by decide) tw103 dX2_bars_116 ?_
      refine lv_isub C.x C.b dX2_bars_119 ?_
      refine lv_aload_n C.x C.b dX2_bars_120 rfl (lv_at hl 0 rfl) ?_
      refine g_geti C G 2 o 3 hT rfl ginX2 (by decide) tw457 dX2_bars_121 ?_
      refine lv_icmp_gt (tgt := 131) C.x C.b dX2_bars_124 (by decide) (fun cb => ?_) (fun cb => ?_)
      · have hf := g_t cb hf
        refine lv_iconst (v := (0 : Int32)) C.x C.b dX2_bars_131 (by decide) ?_
        exact g_ezp C G hr hlocks hf rfl dX2_bars_132
      · have hf := g_f cb hf
        refine lv_iconst (v := (1 : Int32)) C.x C.b dX2_bars_127 (by decide) ?_
        refine lv_goto (tgt := 132) C.x C.b dX2_bars_128 (by decide) ?_
        exact g_ezp C G hr hlocks hf rfl dX2_bars_132
  have hf := g_f c3 hf
  by_cases c4 : (σ 2 o 1) = (4 : Int32)
  · have hf := g_t c4 hf
    have e9 := g_swI c4 (show ((4 : Int32)).toInt = 4 from by decide)
    refine lv_tableIn (tgt := 133) C.x C.b dX2_bars_4 (by omega) (by omega) (by rw [e9]; rfl) (by decide) ?_
    refine lv_aload_n C.x C.b dX2_bars_133 rfl (lv_at hl 1 rfl) ?_
    refine g_geti C G 5 a1 0 ha1 rfl ginX5 (by decide) tw352 dX2_bars_134 ?_
    refine lv_aload_n C.x C.b dX2_bars_137 rfl (lv_at hl 0 rfl) ?_
    refine g_geti C G 2 o 3 hT rfl ginX2 (by decide) tw457 dX2_bars_138 ?_
    refine lv_icmp_ne (tgt := 148) C.x C.b dX2_bars_141 (by decide) (fun cb => ?_) (fun cb => ?_)
    · have hf := g_f cb hf
      refine lv_iconst (v := (0 : Int32)) C.x C.b dX2_bars_148 (by decide) ?_
      exact g_ezp C G hr hlocks hf rfl dX2_bars_149
    · have hf := g_t cb hf
      refine lv_iconst (v := (1 : Int32)) C.x C.b dX2_bars_144 (by decide) ?_
      refine lv_goto (tgt := 149) C.x C.b dX2_bars_145 (by decide) ?_
      exact g_ezp C G hr hlocks hf rfl dX2_bars_149
  have hf := g_f c4 hf
  have n0 := lv_neT c0 (show ((0 : Int32)).toInt = 0 from by decide)
  have n1 := lv_neT c1 (show ((1 : Int32)).toInt = 1 from by decide)
  have n2 := lv_neT c2 (show ((2 : Int32)).toInt = 2 from by decide)
  have n3 := lv_neT c3 (show ((3 : Int32)).toInt = 3 from by decide)
  have n4 := lv_neT c4 (show ((4 : Int32)).toInt = 4 from by decide)
  refine lv_tableOut (tgt := 150) C.x C.b dX2_bars_4 (by omega) (by decide) ?_
  refine lv_aload_n C.x C.b dX2_bars_150 rfl (lv_at hl 3 rfl) ?_
  refine g_geti C G 4 0 3 ha3 rfl ginX4 (by decide) tw105 dX2_bars_151 ?_
  obtain ⟨hbo, hf⟩ := g_ok hf
  exact g_ezp C G hr hlocks hf (g_bo_fit hbo).1 dX2_bars_154
def f_X2_leavesDoubt (ad : gA) (σ : gS) (o : Nat) (a1 : Nat) (a2 : Int32) : Option Int32 := (if (σ 2 o 1) = 0 then (if (σ 2 o 3) ≤ (a2 - (σ 5 a1 4)) then (some (0 : Int32)) else (some (1 : Int32))) else (some (0 : Int32)))
theorem hd_X2_leavesDoubt : yX2_leavesDoubt.cls ≠ "java/lang/invoke/MethodHandle" ∧ yX2_leavesDoubt.cls ≠ "java/lang/invoke/VarHandle" ∧ (parseMethodDescriptor yX2_leavesDoubt.desc).map (fun d => d.parameters.length) = some 2 := by decide +kernel
set_option maxHeartbeats 4000000 in
set_option maxRecDepth 100000 in
theorem c_X2_leavesDoubt (l : Launch) (D : va_G) (cy : Nat → ClassId) (A : Nat → Prop) (ad : gA) (L : gL)  (σ : gS) (o : Nat) (hT : (2, o) ∈ L) (a1 : Nat) (ha1 : (5, a1) ∈ L) (a2 : Int32) (r0 : Int32) (hf : f_X2_leavesDoubt ad σ o a1 a2 = some r0) : g_Mi l yX2_leavesDoubt cX2_leavesDoubt 3 (some .boolean) ({ frames := 0, cells := 0, slots := 0, locals := 0 } : Room) D cy A ad L σ [.ref (ad 2 o), .ref (ad 5 a1), .int a2] r0 σ := by
  refine g_met (by decide) (Nat.le_of_ble_eq_true rfl) (fun p e s m below meth c C hr hlocks hnm G ls hl => ?_)
  have hl : lv_has ls 3 [(0, .ref (ad 2 o)), (1, .ref (ad 5 a1)), (2, .int a2)] := hl
  unfold f_X2_leavesDoubt at hf
  refine lv_aload_n C.x C.b dX2_leavesDoubt_0 rfl (lv_at hl 0 rfl) ?_
  refine g_geti C G 2 o 1 hT rfl ginX2 (by decide) tw454 dX2_leavesDoubt_1 ?_
  refine lv_if_ne (tgt := 24) C.x C.b dX2_leavesDoubt_4 (by decide) (fun cb => ?_) (fun cb => ?_)
  · have hf := g_f cb hf
    refine lv_iconst (v := (0 : Int32)) C.x C.b dX2_leavesDoubt_24 (by decide) ?_
    exact g_ezp C G hr hlocks hf rfl dX2_leavesDoubt_25
  · have hf := g_t cb hf
    refine lv_iload_n C.x C.b dX2_leavesDoubt_7 rfl (lv_at hl 2 rfl) ?_
    refine lv_aload_n C.x C.b dX2_leavesDoubt_8 rfl (lv_at hl 1 rfl) ?_
    refine g_geti C G 5 a1 4 ha1 rfl ginX5 (by decide) tw365 dX2_leavesDoubt_9 ?_
    refine lv_isub C.x C.b dX2_leavesDoubt_12 ?_
    refine lv_aload_n C.x C.b dX2_leavesDoubt_13 rfl (lv_at hl 0 rfl) ?_
    refine g_geti C G 2 o 3 hT rfl ginX2 (by decide) tw457 dX2_leavesDoubt_14 ?_
    refine lv_icmp_ge (tgt := 24) C.x C.b dX2_leavesDoubt_17 (by decide) (fun cb => ?_) (fun cb => ?_)
    · have hf := g_t cb hf
      refine lv_iconst (v := (0 : Int32)) C.x C.b dX2_leavesDoubt_24 (by decide) ?_
      exact g_ezp C G hr hlocks hf rfl dX2_leavesDoubt_25
    · have hf := g_f cb hf
      refine lv_iconst (v := (1 : Int32)) C.x C.b dX2_leavesDoubt_20 (by decide) ?_
      refine lv_goto (tgt := 25) C.x C.b dX2_leavesDoubt_21 (by decide) ?_
      exact g_ezp C G hr hlocks hf rfl dX2_leavesDoubt_25
def f_X2_looksAtLists (ad : gA) (σ : gS) (o : Nat) : Option Int32 := (if (σ 2 o 1) = 0 then (some (0 : Int32)) else (if (σ 2 o 1) = (4 : Int32) then (some (0 : Int32)) else (some (1 : Int32))))
theorem hd_X2_looksAtLists : yX2_looksAtLists.cls ≠ "java/lang/invoke/MethodHandle" ∧ yX2_looksAtLists.cls ≠ "java/lang/invoke/VarHandle" ∧ (parseMethodDescriptor yX2_looksAtLists.desc).map (fun d => d.parameters.length) = some 0 := by decide +kernel
set_option maxHeartbeats 4000000 in
set_option maxRecDepth 100000 in
theorem c_X2_looksAtLists (l : Launch) (D : va_G) (cy : Nat → ClassId) (A : Nat → Prop) (ad : gA) (L : gL)  (σ : gS) (o : Nat) (hT : (2, o) ∈ L) (r0 : Int32) (hf : f_X2_looksAtLists ad σ o = some r0) : g_Mi l yX2_looksAtLists cX2_looksAtLists 1 (some .boolean) ({ frames := 0, cells := 0, slots := 0, locals := 0 } : Room) D cy A ad L σ [.ref (ad 2 o)] r0 σ := by
  refine g_met (by decide) (Nat.le_of_ble_eq_true rfl) (fun p e s m below meth c C hr hlocks hnm G ls hl => ?_)
  have hl : lv_has ls 1 [(0, .ref (ad 2 o))] := hl
  unfold f_X2_looksAtLists at hf
  refine lv_aload_n C.x C.b dX2_looksAtLists_0 rfl (lv_at hl 0 rfl) ?_
  refine g_geti C G 2 o 1 hT rfl ginX2 (by decide) tw454 dX2_looksAtLists_1 ?_
  refine lv_if_eq (tgt := 19) C.x C.b dX2_looksAtLists_4 (by decide) (fun cb => ?_) (fun cb => ?_)
  · have hf := g_t cb hf
    refine lv_iconst (v := (0 : Int32)) C.x C.b dX2_looksAtLists_19 (by decide) ?_
    exact g_ezp C G hr hlocks hf rfl dX2_looksAtLists_20
  · have hf := g_f cb hf
    refine lv_aload_n C.x C.b dX2_looksAtLists_7 rfl (lv_at hl 0 rfl) ?_
    refine g_geti C G 2 o 1 hT rfl ginX2 (by decide) tw454 dX2_looksAtLists_8 ?_
    refine lv_iconst (v := (4 : Int32)) C.x C.b dX2_looksAtLists_11 (by decide) ?_
    refine lv_icmp_eq (tgt := 19) C.x C.b dX2_looksAtLists_12 (by decide) (fun cb => ?_) (fun cb => ?_)
    · have hf := g_t cb hf
      refine lv_iconst (v := (0 : Int32)) C.x C.b dX2_looksAtLists_19 (by decide) ?_
      exact g_ezp C G hr hlocks hf rfl dX2_looksAtLists_20
    · have hf := g_f cb hf
      refine lv_iconst (v := (1 : Int32)) C.x C.b dX2_looksAtLists_15 (by decide) ?_
      refine lv_goto (tgt := 20) C.x C.b dX2_looksAtLists_16 (by decide) ?_
      exact g_ezp C G hr hlocks hf rfl dX2_looksAtLists_20
def f_X2_heft (ad : gA) (σ : gS) (o : Nat) : Option Int32 := (if (σ 2 o 1) = (5 : Int32) then ((f_X2_looksAtLists ad σ o).bind fun q1 => (if q1 = 0 then (if (σ 2 o 1) = (2 : Int32) then (some ((2 : Int32) * ((10 : Int32) + (σ 2 o 1)))) else (if (σ 2 o 1) = (3 : Int32) then (some ((2 : Int32) * ((10 : Int32) + (σ 2 o 1)))) else (some ((10 : Int32) + (σ 2 o 1))))) else (if (σ 2 o 1) = (2 : Int32) then (some ((2 : Int32) * (((10 : Int32) + (σ 2 o 1)) + (1000 : Int32)))) else (if (σ 2 o 1) = (3 : Int32) then (some ((2 : Int32) * (((10 : Int32) + (σ 2 o 1)) + (1000 : Int32)))) else (some (((10 : Int32) + (σ 2 o 1)) + (1000 : Int32))))))) else ((f_X2_looksAtLists ad σ o).bind fun q2 => (if q2 = 0 then (if (σ 2 o 1) = (2 : Int32) then (some ((2 : Int32) * (((10 : Int32) + (σ 2 o 1)) + ((100 : Int32) + (σ 2 o 3))))) else (if (σ 2 o 1) = (3 : Int32) then (some ((2 : Int32) * (((10 : Int32) + (σ 2 o 1)) + ((100 : Int32) + (σ 2 o 3))))) else (some (((10 : Int32) + (σ 2 o 1)) + ((100 : Int32) + (σ 2 o 3)))))) else (if (σ 2 o 1) = (2 : Int32) then (some ((2 : Int32) * ((((10 : Int32) + (σ 2 o 1)) + ((100 : Int32) + (σ 2 o 3))) + (1000 : Int32)))) else (if (σ 2 o 1) = (3 : Int32) then (some ((2 : Int32) * ((((10 : Int32) + (σ 2 o 1)) + ((100 : Int32) + (σ 2 o 3))) + (1000 : Int32)))) else (some ((((10 : Int32) + (σ 2 o 1)) + ((100 : Int32) + (σ 2 o 3))) + (1000 : Int32))))))))
theorem hd_X2_heft : yX2_heft.cls ≠ "java/lang/invoke/MethodHandle" ∧ yX2_heft.cls ≠ "java/lang/invoke/VarHandle" ∧ (parseMethodDescriptor yX2_heft.desc).map (fun d => d.parameters.length) = some 0 := by decide +kernel
set_option maxHeartbeats 4000000 in
set_option maxRecDepth 100000 in
theorem c_X2_heft (l : Launch) (D : va_G) (cy : Nat → ClassId) (A : Nat → Prop) (ad : gA) (L : gL)  (σ : gS) (o : Nat) (hT : (2, o) ∈ L) (r0 : Int32) (hf : f_X2_heft ad σ o = some r0) : g_Mi l yX2_heft cX2_heft 2 (some .int) ({ frames := 1, cells := 0, slots := 0, locals := 20 } : Room) D cy A ad L σ [.ref (ad 2 o)] r0 σ := by
  refine g_met (by decide) (Nat.le_of_ble_eq_true rfl) (fun p e s m below meth c C hr hlocks hnm G ls hl => ?_)
  have hl : lv_has ls 2 [(0, .ref (ad 2 o))] := hl
  unfold f_X2_heft at hf
  refine lv_bipush (v := (10 : Int32)) C.x C.b dX2_heft_0 (by decide) ?_
  refine lv_aload_n C.x C.b dX2_heft_2 rfl (lv_at hl 0 rfl) ?_
  refine g_geti C G 2 o 1 hT rfl ginX2 (by decide) tw454 dX2_heft_3 ?_
  refine lv_iadd C.x C.b dX2_heft_6 ?_
  refine lv_istore_n (lv' := [(1, .int ((10 : Int32) + (σ 2 o 1))), (0, .ref (ad 2 o))]) C.x C.b dX2_heft_7 rfl hl (by decide) rfl (fun ls hl => ?_)
  refine lv_aload_n C.x C.b dX2_heft_8 rfl (lv_at hl 1 rfl) ?_
  refine g_geti C G 2 o 1 hT rfl ginX2 (by decide) tw454 dX2_heft_9 ?_
  refine lv_iconst (v := (5 : Int32)) C.x C.b dX2_heft_12 (by decide) ?_
  refine lv_icmp_eq (tgt := 26) C.x C.b dX2_heft_13 (by decide) (fun cb => ?_) (fun cb => ?_)
  · have hf := g_t cb hf
    refine lv_aload_n C.x C.b dX2_heft_26 rfl (lv_at hl 1 rfl) ?_
    obtain ⟨q1, eq1, hf⟩ := g_b hf
    refine g_calli G (g_runV (As := []) (rest := []) C G 2 o (c_X2_looksAtLists l D cy A ad L σ o hT q1 eq1) ⟨tw832, tw64, tw829, ⟨tw830, tw831⟩, hd_X2_looksAtLists⟩ (by decide) hT rfl ⟨rfl, by decide⟩ hl.1 rfl (Nat.le_of_ble_eq_true rfl) dX2_heft_27 ⟨Nat.le_of_ble_eq_true rfl, Nat.le_of_ble_eq_true rfl⟩) (fun H locs G => ?_)
    refine lv_if_eq (tgt := 39) C.x C.b dX2_heft_30 (by decide) (fun cb => ?_) (fun cb => ?_)
    · have hf := g_t cb hf
      refine lv_aload_n C.x C.b dX2_heft_39 rfl (lv_at hl 1 rfl) ?_
      refine g_geti C G 2 o 1 hT rfl ginX2 (by decide) tw454 dX2_heft_40 ?_
      refine lv_iconst (v := (2 : Int32)) C.x C.b dX2_heft_43 (by decide) ?_
      refine lv_icmp_eq (tgt := 55) C.x C.b dX2_heft_44 (by decide) (fun cb => ?_) (fun cb => ?_)
      · have hf := g_t cb hf
        refine lv_iconst (v := (2 : Int32)) C.x C.b dX2_heft_55 (by decide) ?_
        refine lv_iload_n C.x C.b dX2_heft_56 rfl (lv_at hl 0 rfl) ?_
        refine lv_imul C.x C.b dX2_heft_57 ?_
        refine lv_goto (tgt := 62) C.x C.b dX2_heft_58 (by decide) ?_
        exact g_eip C G hr hlocks hf dX2_heft_62
      · have hf := g_f cb hf
        refine lv_aload_n C.x C.b dX2_heft_47 rfl (lv_at hl 1 rfl) ?_
        refine g_geti C G 2 o 1 hT rfl ginX2 (by decide) tw454 dX2_heft_48 ?_
        refine lv_iconst (v := (3 : Int32)) C.x C.b dX2_heft_51 (by decide) ?_
        refine lv_icmp_ne (tgt := 61) C.x C.b dX2_heft_52 (by decide) (fun cb => ?_) (fun cb => ?_)
        · have hf := g_f cb hf
          refine lv_iload_n C.x C.b dX2_heft_61 rfl (lv_at hl 0 rfl) ?_
          exact g_eip C G hr hlocks hf dX2_heft_62
        · have hf := g_t cb hf
          refine lv_iconst (v := (2 : Int32)) C.x C.b dX2_heft_55 (by decide) ?_
          refine lv_iload_n C.x C.b dX2_heft_56 rfl (lv_at hl 0 rfl) ?_
          refine lv_imul C.x C.b dX2_heft_57 ?_
          refine lv_goto (tgt := 62) C.x C.b dX2_heft_58 (by decide) ?_
          exact g_eip C G hr hlocks hf dX2_heft_62
    · have hf := g_f cb hf
      refine lv_iincW (v := (((10 : Int32) + (σ 2 o 1)) + (1000 : Int32))) (lv' := [(1, .int (((10 : Int32) + (σ 2 o 1)) + (1000 : Int32))), (0, .ref (ad 2 o))]) C.x C.b dX2_heft_33 hl (k := 0) rfl rfl (by decide) rfl (fun ls hl => ?_)
      refine lv_aload_n C.x C.b dX2_heft_39 rfl (lv_at hl 1 rfl) ?_
      refine g_geti C G 2 o 1 hT rfl ginX2 (by decide) tw454 dX2_heft_40 ?_
      refine lv_iconst (v := (2 : Int32)) C.x C.b dX2_heft_43 (by decide) ?_
      refine lv_icmp_eq (tgt := 55) C.x C.b dX2_heft_44 (by decide) (fun cb => ?_) (fun cb => ?_)
      · have hf := g_t cb hf
        refine lv_iconst (v := (2 : Int32)) C.x C.b dX2_heft_55 (by decide) ?_
        refine lv_iload_n C.x C.b dX2_heft_56 rfl (lv_at hl 0 rfl) ?_
        refine lv_imul C.x C.b dX2_heft_57 ?_
        refine lv_goto (tgt := 62) C.x C.b dX2_heft_58 (by decide) ?_
        exact g_eip C G hr hlocks hf dX2_heft_62
      · have hf := g_f cb hf
        refine lv_aload_n C.x C.b dX2_heft_47 rfl (lv_at hl 1 rfl) ?_
        refine g_geti C G 2 o 1 hT rfl ginX2 (by decide) tw454 dX2_heft_48 ?_
        refine lv_iconst (v := (3 : Int32)) C.x C.b dX2_heft_51 (by decide) ?_
        refine lv_icmp_ne (tgt := 61) C.x C.b dX2_heft_52 (by decide) (fun cb => ?_) (fun cb => ?_)
        · have hf := g_f cb hf
          refine lv_iload_n C.x C.b dX2_heft_61 rfl (lv_at hl 0 rfl) ?_
          exact g_eip C G hr hlocks hf dX2_heft_62
        · have hf := g_t cb hf
          refine lv_iconst (v := (2 : Int32)) C.x C.b dX2_heft_55 (by decide) ?_
          refine lv_iload_n C.x C.b dX2_heft_56 rfl (lv_at hl 0 rfl) ?_
          refine lv_imul C.x C.b dX2_heft_57 ?_
          refine lv_goto (tgt := 62) C.x C.b dX2_heft_58 (by decide) ?_
          exact g_eip C G hr hlocks hf dX2_heft_62
  · have hf := g_f cb hf
    refine lv_iload_n C.x C.b dX2_heft_16 rfl (lv_at hl 0 rfl) ?_
    refine lv_bipush (v := (100 : Int32)) C.x C.b dX2_heft_17 (by decide) ?_
    refine lv_aload_n C.x C.b dX2_heft_19 rfl (lv_at hl 1 rfl) ?_
    refine g_geti C G 2 o 3 hT rfl ginX2 (by decide) tw457 dX2_heft_20 ?_
    refine lv_iadd C.x C.b dX2_heft_23 ?_
    refine lv_iadd C.x C.b dX2_heft_24 ?_
    refine lv_istore_n (lv' := [(1, .int (((10 : Int32) + (σ 2 o 1)) + ((100 : Int32) + (σ 2 o 3)))), (0, .ref (ad 2 o))]) C.x C.b dX2_heft_25 rfl hl (by decide) rfl (fun ls hl => ?_)
    refine lv_aload_n C.x C.b dX2_heft_26 rfl (lv_at hl 1 rfl) ?_
    obtain ⟨q2, eq2, hf⟩ := g_b hf
    refine g_calli G (g_runV (As := []) (rest := []) C G 2 o (c_X2_looksAtLists l D cy A ad L σ o hT q2 eq2) ⟨tw832, tw64, tw829, ⟨tw830, tw831⟩, hd_X2_looksAtLists⟩ (by decide) hT rfl ⟨rfl, by decide⟩ hl.1 rfl (Nat.le_of_ble_eq_true rfl) dX2_heft_27 ⟨Nat.le_of_ble_eq_true rfl, Nat.le_of_ble_eq_true rfl⟩) (fun H locs G => ?_)
    refine lv_if_eq (tgt := 39) C.x C.b dX2_heft_30 (by decide) (fun cb => ?_) (fun cb => ?_)
    · have hf := g_t cb hf
      refine lv_aload_n C.x C.b dX2_heft_39 rfl (lv_at hl 1 rfl) ?_
      refine g_geti C G 2 o 1 hT rfl ginX2 (by decide) tw454 dX2_heft_40 ?_
      refine lv_iconst (v := (2 : Int32)) C.x C.b dX2_heft_43 (by decide) ?_
      refine lv_icmp_eq (tgt := 55) C.x C.b dX2_heft_44 (by decide) (fun cb => ?_) (fun cb => ?_)
      · have hf := g_t cb hf
        refine lv_iconst (v := (2 : Int32)) C.x C.b dX2_heft_55 (by decide) ?_
        refine lv_iload_n C.x C.b dX2_heft_56 rfl (lv_at hl 0 rfl) ?_
        refine lv_imul C.x C.b dX2_heft_57 ?_
        refine lv_goto (tgt := 62) C.x C.b dX2_heft_58 (by decide) ?_
        exact g_eip C G hr hlocks hf dX2_heft_62
      · have hf := g_f cb hf
        refine lv_aload_n C.x C.b dX2_heft_47 rfl (lv_at hl 1 rfl) ?_
        refine g_geti C G 2 o 1 hT rfl ginX2 (by decide) tw454 dX2_heft_48 ?_
        refine lv_iconst (v := (3 : Int32)) C.x C.b dX2_heft_51 (by decide) ?_
        refine lv_icmp_ne (tgt := 61) C.x C.b dX2_heft_52 (by decide) (fun cb => ?_) (fun cb => ?_)
        · have hf := g_f cb hf
          refine lv_iload_n C.x C.b dX2_heft_61 rfl (lv_at hl 0 rfl) ?_
          exact g_eip C G hr hlocks hf dX2_heft_62
        · have hf := g_t cb hf
          refine lv_iconst (v := (2 : Int32)) C.x C.b dX2_heft_55 (by decide) ?_
          refine lv_iload_n C.x C.b dX2_heft_56 rfl (lv_at hl 0 rfl) ?_
          refine lv_imul C.x C.b dX2_heft_57 ?_
          refine lv_goto (tgt := 62) C.x C.b dX2_heft_58 (by decide) ?_
          exact g_eip C G hr hlocks hf dX2_heft_62
    · have hf := g_f cb hf
      refine lv_iincW (v := ((((10 : Int32) + (σ 2 o 1)) + ((100 : Int32) + (σ 2 o 3))) + (1000 : Int32))) (lv' := [(1, .int ((((10 : Int32) + (σ 2 o 1)) + ((100 : Int32) + (σ 2 o 3))) + (1000 : Int32))), (0, .ref (ad 2 o))]) C.x C.b dX2_heft_33 hl (k := 0) rfl rfl (by decide) rfl (fun ls hl => ?_)
      refine lv_aload_n C.x C.b dX2_heft_39 rfl (lv_at hl 1 rfl) ?_
      refine g_geti C G 2 o 1 hT rfl ginX2 (by decide) tw454 dX2_heft_40 ?_
      refine lv_iconst (v := (2 : Int32)) C.x C.b dX2_heft_43 (by decide) ?_
      refine lv_icmp_eq (tgt := 55) C.x C.b dX2_heft_44 (by decide) (fun cb => ?_) (fun cb => ?_)
      · have hf := g_t cb hf
        refine lv_iconst (v := (2 : Int32)) C.x C.b dX2_heft_55 (by decide) ?_
        refine lv_iload_n C.x C.b dX2_heft_56 rfl (lv_at hl 0 rfl) ?_
        refine lv_imul C.x C.b dX2_heft_57 ?_
        refine lv_goto (tgt := 62) C.x C.b dX2_heft_58 (by decide) ?_
        exact g_eip C G hr hlocks hf dX2_heft_62
      · have hf := g_f cb hf
        refine lv_aload_n C.x C.b dX2_heft_47 rfl (lv_at hl 1 rfl) ?_
        refine g_geti C G 2 o 1 hT rfl ginX2 (by decide) tw454 dX2_heft_48 ?_
        refine lv_iconst (v := (3 : Int32)) C.x C.b dX2_heft_51 (by decide) ?_
        refine lv_icmp_ne (tgt := 61) C.x C.b dX2_heft_52 (by decide) (fun cb => ?_) (fun cb => ?_)
        · have hf := g_f cb hf
          refine lv_iload_n C.x C.b dX2_heft_61 rfl (lv_at hl 0 rfl) ?_
          exact g_eip C G hr hlocks hf dX2_heft_62
        · have hf := g_t cb hf
          refine lv_iconst (v := (2 : Int32)) C.x C.b dX2_heft_55 (by decide) ?_
          refine lv_iload_n C.x C.b dX2_heft_56 rfl (lv_at hl 0 rfl) ?_
          refine lv_imul C.x C.b dX2_heft_57 ?_
          refine lv_goto (tgt := 62) C.x C.b dX2_heft_58 (by decide) ?_
          exact g_eip C G hr hlocks hf dX2_heft_62
