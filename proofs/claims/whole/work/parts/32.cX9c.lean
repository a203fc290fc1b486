def f_X9_draw_P114 (σ : gS) : Option gS := (some σ)
def f_X9_draw_P108 (rec30 : gS → Int64 → Int32 → Option gS) (σ : gS) (v4 : Int64) (v6 : Int32) : Option gS := (rec30 σ v4 (v6 + (1 : Int32)))
def f_X9_draw_L77 (K77 : gS → Int64 → Int32 → Option gS) : Nat → gS → Int64 → Int32 → Int32 → Int32 → Option gS
  | 0, _, _, _, _, _ => none
  | n + 1, σ, v4, v6, v7, v9 => (if (v7 - (1 : Int32)) ≤ v9 then (K77 σ v4 v6) else (if g_ix (v9 + (1 : Int32)) 35 then (if g_ix v9 35 then (g_let (g_up σ 73 0 v9.toNatClampNeg (σ 73 0 ((v9 + (1 : Int32)).toNatClampNeg))) fun σ13 => (f_X9_draw_L77 K77 n σ13 v4 v6 v7 (v9 + (1 : Int32)))) else none) else none))
def f_X9_draw_L30 (a1 : Int32) (K30 : gS → Option gS) : Nat → gS → Int64 → Int32 → Option gS
  | 0, _, _, _ => none
  | n + 1, σ, v4, v6 => (if a1 ≤ v6 then (K30 σ) else (if ((a1 - v6)).toInt64 = 0 then none else (if ((a1 - v6)).toInt64 = 0 then none else (if g_ix (((v4 - v4 / ((a1 - v6)).toInt64 * ((a1 - v6)).toInt64)).toInt32) 35 then (if g_ix v6 35 then (g_let (g_up σ 72 0 v6.toNatClampNeg (σ 73 0 ((((v4 - v4 / ((a1 - v6)).toInt64 * ((a1 - v6)).toInt64)).toInt32).toNatClampNeg))) fun σ8 => (f_X9_draw_L77 (f_X9_draw_P108 (f_X9_draw_L30 a1 K30 n)) g_fuel σ8 (v4 / ((a1 - v6)).toInt64) v6 (a1 - v6) (((v4 - v4 / ((a1 - v6)).toInt64 * ((a1 - v6)).toInt64)).toInt32))) else none) else none))))
def f_X9_draw_P27 (a1 : Int32) (σ : gS) (v4 : Int64) : Option gS := (f_X9_draw_L30 a1 (f_X9_draw_P114) g_fuel σ v4 (0 : Int32))
def f_X9_draw_L6 (a1 : Int32) (K6 : gS → Int64 → Option gS) : Nat → gS → Int64 → Int32 → Option gS
  | 0, _, _, _ => none
  | n + 1, σ, v4, v6 => (if a1 ≤ v6 then (K6 σ v4) else (if g_ix v6 35 then (g_let (g_up σ 73 0 v6.toNatClampNeg v6) fun σ3 => (f_X9_draw_L6 a1 K6 n σ3 v4 (v6 + (1 : Int32)))) else none))
def f_X9_draw (ad : gA) (σ : gS) (a1 : Int32) (a2 : Int64) : Option gS := (f_X9_draw_L6 a1 (f_X9_draw_P27 a1) g_fuel σ a2 (0 : Int32))
theorem hd_X9_draw : yX9_draw.cls ≠ "java/lang/invoke/MethodHandle" ∧ yX9_draw.cls ≠ "java/lang/invoke/VarHandle" ∧ (parseMethodDescriptor yX9_draw.desc).map (fun d => d.parameters.length) = some 2 := by decide +kernel
set_option maxHeartbeats 4000000 in
set_option maxRecDepth 100000 in
theorem c_X9_draw (l : Launch) (D : va_G) (cy : Nat → ClassId) (A : Nat → Prop) (ad : gA) (L : gL)  (σ : gS) (hT : (9, 0) ∈ L) (a1 : Int32) (a2 : Int64) (σ0 : gS) (hf : f_X9_draw ad σ a1 a2 = some σ0) : g_Mv l yX9_draw cX9_draw 10 none ({ frames := 0, cells := 0, slots := 0, locals := 0 } : Room) D cy A ad L σ [.ref (ad 9 0), .int a1, .long a2] σ0 := by
  refine g_met (by decide) (Nat.le_of_ble_eq_true rfl) (fun p e s m below meth c C hr hlocks hnm G ls hl => ?_)
  have hl : lv_has ls 10 [(0, .ref (ad 9 0)), (1, .int a1), (2, .long a2)] := hl
  have pt114 : ∀ (σ : gS) (H : Heap) (locs : List Loc) (ls : Array Slot), g_H D cy A ad L σ s.heap H locs → lv_has ls 10 [] → f_X9_draw_P114 σ = some σ0 → g_Wv p l e ({ frames := 0, cells := 0, slots := 0, locals := 0 } : Room) s m below meth c H locs 0 0 D cy A ad L [.ref (ad 9 0), .int a1, .long a2] σ0 (F0 m 114 ls []) := by
    intro σ H locs ls G hl hf
    unfold f_X9_draw_P114 at hf
    exact g_evi C G hr hlocks hf dX9_draw_114
  have lp30 : ∀ n30 : Nat, ∀ (σ : gS) (v4 : Int64) (v6 : Int32) (H : Heap) (locs : List Loc) (ls : Array Slot), g_H D cy A ad L σ s.heap H locs → lv_has ls 10 [(0, .ref (ad 9 0)), (1, .int a1), (4, .long v4), (6, .int v6)] → f_X9_draw_L30 a1 (f_X9_draw_P114) n30 σ v4 v6 = some σ0 → g_Wv p l e ({ frames := 0, cells := 0, slots := 0, locals := 0 } : Room) s m below meth c H locs 0 0 D cy A ad L [.ref (ad 9 0), .int a1, .long a2] σ0 (F0 m 30 ls []) := by
    intro n30
    induction n30 with
    | zero =>
      intro σ v4 v6 H locs ls G hl hf
      rw [f_X9_draw_L30] at hf
      cases hf
    | succ n30 ih30 =>
      have pt108 : ∀ (σ : gS) (v4 : Int64) (v6 : Int32) (H : Heap) (locs : List Loc) (ls : Array Slot), g_H D cy A ad L σ s.heap H locs → lv_has ls 10 [(0, .ref (ad 9 0)), (1, .int a1), (4, .long v4), (6, .int v6)] → f_X9_draw_P108 (f_X9_draw_L30 a1 (f_X9_draw_P114) n30) σ v4 v6 = some σ0 → g_Wv p l e ({ frames := 0, cells := 0, slots := 0, locals := 0 } : Room) s m below meth c H locs 0 0 D cy A ad L [.ref (ad 9 0), .int a1, .long a2] σ0 (F0 m 108 ls []) := by
        intro σ v4 v6 H locs ls G hl hf
        unfold f_X9_draw_P108 at hf
        refine lv_iinc (v := (v6 + (1 : Int32))) (lv' := [(6, .int (v6 + (1 : Int32))), (0, .ref (ad 9 0)), (1, .int a1), (4, .long v4)]) C.x C.b dX9_draw_108 hl (k := 3) rfl rfl (by decide) rfl (fun ls hl => ?_)
        refine lv_goto (tgt := 30) C.x C.b dX9_draw_111 (by decide) ?_
        exact ih30 σ v4 (v6 + (1 : Int32)) _ _ ls G (lv_sub hl [1, 2, 3, 0] rfl) hf
      have lp77 : ∀ n77 : Nat, ∀ (σ : gS) (v4 : Int64) (v6 : Int32) (v7 : Int32) (v9 : Int32) (H : Heap) (locs : List Loc) (ls : Array Slot), g_H D cy A ad L σ s.heap H locs → lv_has ls 10 [(0, .ref (ad 9 0)), (1, .int a1), (4, .long v4), (6, .int v6), (7, .int v7), (9, .int v9)] → f_X9_draw_L77 (f_X9_draw_P108 (f_X9_draw_L30 a1 (f_X9_draw_P114) n30)) n77 σ v4 v6 v7 v9 = some σ0 → g_Wv p l e ({ frames := 0, cells := 0, slots := 0, locals := 0 } : Room) s m below meth c H locs 0 0 D cy A ad L [.ref (ad 9 0), .int a1, .long a2] σ0 (F0 m 77 ls []) := by
        intro n77
        induction n77 with
        | zero =>
          intro σ v4 v6 v7 v9 H locs ls G hl hf
          rw [f_X9_draw_L77] at hf
          cases hf
        | succ n77 ih77 =>
          intro σ v4 v6 v7 v9 H locs ls G hl hf
          rw [f_X9_draw_L77] at hf
          refine lv_iload C.x C.b dX9_draw_77 (lv_at hl 5 rfl) ?_
          refine lv_iload C.x C.b dX9_draw_79 (lv_at hl 4 rfl) ?_
          refine lv_iconst (v := (1 : Int32)) C.x C.b dX9_draw_81 (by decide) ?_
          refine lv_isub C.x C.b dX9_draw_82 ?_
          refine lv_icmp_ge (tgt := 108) C.x C.b dX9_draw_83 (by decide) (fun cb => ?_) (fun cb => ?_)
          · have hf := g_t cb hf
            exact pt108 σ v4 v6 _ _ ls G (lv_sub hl [0, 1, 2, 3] rfl) hf
          · have hf := g_f cb hf
            refine lv_aload_n C.x C.b dX9_draw_86 rfl (lv_at hl 0 rfl) ?_
            refine g_getr C G 9 0 33 73 hT rfl ginX9 (by decide) tw983 dX9_draw_87 (fun hL9 => ?_)
            refine lv_iload C.x C.b dX9_draw_90 (lv_at hl 5 rfl) ?_
            refine lv_aload_n C.x C.b dX9_draw_92 rfl (lv_at hl 0 rfl) ?_
            refine g_getr C G 9 0 33 73 hT rfl ginX9 (by decide) tw983 dX9_draw_93 (fun hL10 => ?_)
            refine lv_iload C.x C.b dX9_draw_96 (lv_at hl 5 rfl) ?_
            refine lv_iconst (v := (1 : Int32)) C.x C.b dX9_draw_98 (by decide) ?_
            refine lv_iadd C.x C.b dX9_draw_99 ?_
            obtain ⟨hi11, hf⟩ := g_ok hf
            refine g_iald (n := 35) C G 73 0 hL10 (by decide) rfl hi11 dX9_draw_100 ?_
            obtain ⟨hi12, hf⟩ := g_ok hf
            refine g_iast (n := 35) C G 73 0 hL9 (by decide) rfl hi12 dX9_draw_101 (fun H locs G => ?_)
            obtain ⟨σ13, eσ13, hf⟩ := g_lt hf
            rw [← eσ13] at G
            refine lv_iinc (v := (v9 + (1 : Int32))) (lv' := [(9, .int (v9 + (1 : Int32))), (0, .ref (ad 9 0)), (1, .int a1), (4, .long v4), (6, .int v6), (7, .int v7)]) C.x C.b dX9_draw_102 hl (k := 5) rfl rfl (by decide) rfl (fun ls hl => ?_)
            refine lv_goto (tgt := 77) C.x C.b dX9_draw_105 (by decide) ?_
            exact ih77 σ13 v4 v6 v7 (v9 + (1 : Int32)) _ _ ls G (lv_sub hl [1, 2, 3, 4, 5, 0] rfl) hf
      intro σ v4 v6 H locs ls G hl hf
      rw [f_X9_draw_L30] at hf
      refine lv_iload C.x C.b dX9_draw_30 (lv_at hl 3 rfl) ?_
      refine lv_iload_n C.x C.b dX9_draw_32 rfl (lv_at hl 1 rfl) ?_
      refine lv_icmp_ge (tgt := 114) C.x C.b dX9_draw_33 (by decide) (fun cb => ?_) (fun cb => ?_)
      · have hf := g_t cb hf
        exact pt114 σ _ _ ls G (lv_sub hl [] rfl) hf
      · have hf := g_f cb hf
        refine lv_iload_n C.x C.b dX9_draw_36 rfl (lv_at hl 1 rfl) ?_
        refine lv_iload C.x C.b dX9_draw_37 (lv_at hl 3 rfl) ?_
        refine lv_isub C.x C.b dX9_draw_39 ?_
        refine lv_istore (lv' := [(7, .int (a1 - v6)), (0, .ref (ad 9 0)), (1, .int a1), (4, .long v4), (6, .int v6)]) C.x C.b dX9_draw_40 hl (by decide) rfl (fun ls hl => ?_)
        refine lv_lload C.x C.b dX9_draw_42 (lv_at hl 3 rfl) ?_
        refine lv_iload C.x C.b dX9_draw_44 (lv_at hl 0 rfl) ?_
        refine lv_i2l C.x C.b dX9_draw_46 rfl ?_
        obtain ⟨hz, hf⟩ := g_okn hf
        refine lv_lrem C.x C.b dX9_draw_47 hz ?_
        refine lv_l2i C.x C.b dX9_draw_48 rfl ?_
        refine lv_istore (lv' := [(8, .int (((v4 - v4 / ((a1 - v6)).toInt64 * ((a1 - v6)).toInt64)).toInt32)), (7, .int (a1 - v6)), (0, .ref (ad 9 0)), (1, .int a1), (4, .long v4), (6, .int v6)]) C.x C.b dX9_draw_49 hl (by decide) rfl (fun ls hl => ?_)
        refine lv_lload C.x C.b dX9_draw_51 (lv_at hl 4 rfl) ?_
        refine lv_iload C.x C.b dX9_draw_53 (lv_at hl 1 rfl) ?_
        refine lv_i2l C.x C.b dX9_draw_55 rfl ?_
        obtain ⟨hz, hf⟩ := g_okn hf
        refine lv_ldiv C.x C.b dX9_draw_56 hz ?_
        refine lv_lstore (lv' := [(4, .long (v4 / ((a1 - v6)).toInt64)), (8, .int (((v4 - v4 / ((a1 - v6)).toInt64 * ((a1 - v6)).toInt64)).toInt32)), (7, .int (a1 - v6)), (0, .ref (ad 9 0)), (1, .int a1), (6, .int v6)]) C.x C.b dX9_draw_57 hl (by decide) rfl (fun ls hl => ?_)
        refine lv_aload_n C.x C.b dX9_draw_59 rfl (lv_at hl 3 rfl) ?_
        refine g_getr C G 9 0 32 72 hT rfl ginX9 (by decide) tw982 dX9_draw_60 (fun hL4 => ?_)
        refine lv_iload C.x C.b dX9_draw_63 (lv_at hl 5 rfl) ?_
        refine lv_aload_n C.x C.b dX9_draw_65 rfl (lv_at hl 3 rfl) ?_
        refine g_getr C G 9 0 33 73 hT rfl ginX9 (by decide) tw983 dX9_draw_66 (fun hL5 => ?_)
        refine lv_iload C.x C.b dX9_draw_69 (lv_at hl 1 rfl) ?_
        obtain ⟨hi6, hf⟩ := g_ok hf
        refine g_iald (n := 35) C G 73 0 hL5 (by decide) rfl hi6 dX9_draw_71 ?_
        obtain ⟨hi7, hf⟩ := g_ok hf
        refine g_iast (n := 35) C G 72 0 hL4 (by decide) rfl hi7 dX9_draw_72 (fun H locs G => ?_)
        obtain ⟨σ8, eσ8, hf⟩ := g_lt hf
        rw [← eσ8] at G
        refine lv_iload C.x C.b dX9_draw_73 (lv_at hl 1 rfl) ?_
        refine lv_istore (lv' := [(9, .int (((v4 - v4 / ((a1 - v6)).toInt64 * ((a1 - v6)).toInt64)).toInt32)), (4, .long (v4 / ((a1 - v6)).toInt64)), (8, .int (((v4 - v4 / ((a1 - v6)).toInt64 * ((a1 - v6)).toInt64)).toInt32)), (7, .int (a1 - v6)), (0, .ref (ad 9 0)), (1, .int a1), (6, .int v6)]) C.x C.b dX9_draw_75 hl (by decide) rfl (fun ls hl => ?_)
        exact lp77 g_fuel σ8 (v4 / ((a1 - v6)).toInt64) v6 (a1 - v6) (((v4 - v4 / ((a1 - v6)).toInt64 * ((a1 - v6)).toInt64)).toInt32) _ _ ls G (lv_sub hl [4, 5, 1, 6, 3, 0] rfl) hf
  have pt27 : ∀ (σ : gS) (v4 : Int64) (H : Heap) (locs : List Loc) (ls : Array Slot), g_H D cy A ad L σ s.heap H locs → lv_has ls 10 [(0, .ref (ad 9 0)), (1, .int a1), (4, .long v4)] → f_X9_draw_P27 a1 σ v4 = some σ0 → g_Wv p l e ({ frames := 0, cells := 0, slots := 0, locals := 0 } : Room) s m below meth c H locs 0 0 D cy A ad L [.ref (ad 9 0), .int a1, .long a2] σ0 (F0 m 27 ls []) := by
    intro σ v4 H locs ls G hl hf
    unfold f_X9_draw_P27 at hf
    refine lv_iconst (v := (0 : Int32)) C.x C.b dX9_draw_27 (by decide) ?_
    refine lv_istore (lv' := [(6, .int (0 : Int32)), (0, .ref (ad 9 0)), (1, .int a1), (4, .long v4)]) C.x C.b dX9_draw_28 hl (by decide) rfl (fun ls hl => ?_)
    exact lp30 g_fuel σ v4 (0 : Int32) _ _ ls G (lv_sub hl [1, 2, 3, 0] rfl) hf
  have lp6 : ∀ n6 : Nat, ∀ (σ : gS) (v4 : Int64) (v6 : Int32) (H : Heap) (locs : List Loc) (ls : Array Slot), g_H D cy A ad L σ s.heap H locs → lv_has ls 10 [(0, .ref (ad 9 0)), (1, .int a1), (4, .long v4), (6, .int v6)] → f_X9_draw_L6 a1 (f_X9_draw_P27 a1) n6 σ v4 v6 = some σ0 → g_Wv p l e ({ frames := 0, cells := 0, slots := 0, locals := 0 } : Room) s m below meth c H locs 0 0 D cy A ad L [.ref (ad 9 0), .int a1, .long a2] σ0 (F0 m 6 ls []) := by
    intro n6
    induction n6 with
    | zero =>
      intro σ v4 v6 H locs ls G hl hf
      rw [f_X9_draw_L6] at hf
      cases hf
    | succ n6 ih6 =>
      intro σ v4 v6 H locs ls G hl hf
      rw [f_X9_draw_L6] at hf
      refine lv_iload C.x C.b dX9_draw_6 (lv_at hl 3 rfl) ?_
      refine lv_iload_n C.x C.b dX9_draw_8 rfl (lv_at hl 1 rfl) ?_
      refine lv_icmp_ge (tgt := 27) C.x C.b dX9_draw_9 (by decide) (fun cb => ?_) (fun cb => ?_)
      · have hf := g_t cb hf
        exact pt27 σ v4 _ _ ls G (lv_sub hl [0, 1, 2] rfl) hf
      · have hf := g_f cb hf
        refine lv_aload_n C.x C.b dX9_draw_12 rfl (lv_at hl 0 rfl) ?_
        refine g_getr C G 9 0 33 73 hT rfl ginX9 (by decide) tw983 dX9_draw_13 (fun hL1 => ?_)
        refine lv_iload C.x C.b dX9_draw_16 (lv_at hl 3 rfl) ?_
        refine lv_iload C.x C.b dX9_draw_18 (lv_at hl 3 rfl) ?_
        obtain ⟨hi2, hf⟩ := g_ok hf
        refine g_iast (n := 35) C G 73 0 hL1 (by decide) rfl hi2 dX9_draw_20 (fun H locs G => ?_)
        obtain ⟨σ3, eσ3, hf⟩ := g_lt hf
        rw [← eσ3] at G
        refine lv_iinc (v := (v6 + (1 : Int32))) (lv' := [(6, .int (v6 + (1 : Int32))), (0, .ref (ad 9 0)), (1, .int a1), (4, .long v4)]) C.x C.b dX9_draw_21 hl (k := 3) rfl rfl (by decide) rfl (fun ls hl => ?_)
        refine lv_goto (tgt := 6) C.x C.b dX9_draw_24 (by decide) ?_
        exact ih6 σ3 v4 (v6 + (1 : Int32)) _ _ ls G (lv_sub hl [1, 2, 3, 0] rfl) hf
  unfold f_X9_draw at hf
  refine lv_lload_n C.x C.b dX9_draw_0 rfl (lv_at hl 2 rfl) ?_
  refine lv_lstore (lv' := [(4, .long a2), (0, .ref (ad 9 0)), (1, .int a1), (2, .long a2)]) C.x C.b dX9_draw_1 hl (by decide) rfl (fun ls hl => ?_)
  refine lv_iconst (v := (0 : Int32)) C.x C.b dX9_draw_3 (by decide) ?_
  refine lv_istore (lv' := [(6, .int (0 : Int32)), (4, .long a2), (0, .ref (ad 9 0)), (1, .int a1), (2, .long a2)]) C.x C.b dX9_draw_4 hl (by decide) rfl (fun ls hl => ?_)
  exact lp6 g_fuel σ a2 (0 : Int32) _ _ ls G (lv_sub hl [2, 3, 1, 0] rfl) hf
def f_X9_voted_P33 (v1 : Int32) : Option Int32 := (some v1)
def f_X9_voted_L4 (σ : gS) (K4 : Int32 → Option Int32) : Nat → Int32 → Int32 → Option Int32
  | 0, _, _ => none
  | n + 1, v1, v2 => (if (35 : Int32) ≤ v2 then (K4 v1) else (if g_ix v2 35 then (if (σ 71 0 v2.toNatClampNeg) = 0 then (f_X9_voted_L4 σ K4 n (v1 + (0 : Int32)) (v2 + (1 : Int32))) else (f_X9_voted_L4 σ K4 n (v1 + (1 : Int32)) (v2 + (1 : Int32)))) else none))
def f_X9_voted (ad : gA) (σ : gS) : Option Int32 := (f_X9_voted_L4 σ (f_X9_voted_P33) g_fuel (0 : Int32) (0 : Int32))
theorem hd_X9_voted : yX9_voted.cls ≠ "java/lang/invoke/MethodHandle" ∧ yX9_voted.cls ≠ "java/lang/invoke/VarHandle" ∧ (parseMethodDescriptor yX9_voted.desc).map (fun d => d.parameters.length) = some 0 := by decide +kernel
set_option maxHeartbeats 4000000 in
set_option maxRecDepth 100000 in
theorem c_X9_voted (l : Launch) (D : va_G) (cy : Nat → ClassId) (A : Nat → Prop) (ad : gA) (L : gL)  (σ : gS) (hT : (9, 0) ∈ L) (r0 : Int32) (hf : f_X9_voted ad σ = some r0) : g_Mi l yX9_voted cX9_voted 3 (some .int) ({ frames := 0, cells := 0, slots := 0, locals := 0 } : Room) D cy A ad L σ [.ref (ad 9 0)] r0 σ := by
  refine g_met (by decide) (Nat.le_of_ble_eq_true rfl) (fun p e s m below meth c C hr hlocks hnm G ls hl => ?_)
  have hl : lv_has ls 3 [(0, .ref (ad 9 0))] := hl
  have pt33 : ∀ (v1 : Int32) (H : Heap) (locs : List Loc) (ls : Array Slot), g_H D cy A ad L σ s.heap H locs → lv_has ls 3 [(1, .int v1)] → f_X9_voted_P33 v1 = some r0 → g_Wi p l e ({ frames := 0, cells := 0, slots := 0, locals := 0 } : Room) s m below meth c H locs 0 0 D cy A ad L [.ref (ad 9 0)] r0 σ (F0 m 33 ls []) := by
    intro v1 H locs ls G hl hf
    unfold f_X9_voted_P33 at hf
    refine lv_iload_n C.x C.b dX9_voted_33 rfl (lv_at hl 0 rfl) ?_
    exact g_eip C G hr hlocks hf dX9_voted_34
  have lp4 : ∀ n4 : Nat, ∀ (v1 : Int32) (v2 : Int32) (H : Heap) (locs : List Loc) (ls : Array Slot), g_H D cy A ad L σ s.heap H locs → lv_has ls 3 [(0, .ref (ad 9 0)), (1, .int v1), (2, .int v2)] → f_X9_voted_L4 σ (f_X9_voted_P33) n4 v1 v2 = some r0 → g_Wi p l e ({ frames := 0, cells := 0, slots := 0, locals := 0 } : Room) s m below meth c H locs 0 0 D cy A ad L [.ref (ad 9 0)] r0 σ (F0 m 4 ls []) := by
    intro n4
    induction n4 with
    | zero =>
      intro v1 v2 H locs ls G hl hf
      rw [f_X9_voted_L4] at hf
      cases hf
    | succ n4 ih4 =>
      intro v1 v2 H locs ls G hl hf
      rw [f_X9_voted_L4] at hf
      refine lv_iload_n C.x C.b dX9_voted_4 rfl (lv_at hl 2 rfl) ?_
      refine lv_bipush (v := (35 : Int32)) C.x C.b dX9_voted_5 (by decide) ?_
      refine lv_icmp_ge (tgt := 33) C.x C.b dX9_voted_7 (by decide) (fun cb => ?_) (fun cb => ?_)
      · have hf := g_t cb hf
        exact pt33 v1 _ _ ls G (lv_sub hl [1] rfl) hf
      · have hf := g_f cb hf
        refine lv_iload_n C.x C.b dX9_voted_10 rfl (lv_at hl 1 rfl) ?_
        refine lv_aload_n C.x C.b dX9_voted_11 rfl (lv_at hl 0 rfl) ?_
        refine g_getr C G 9 0 31 71 hT rfl ginX9 (by decide) tw981 dX9_voted_12 (fun hL1 => ?_)
        refine lv_iload_n C.x C.b dX9_voted_15 rfl (lv_at hl 2 rfl) ?_
        obtain ⟨hi2, hf⟩ := g_ok hf
        refine g_iald (n := 35) C G 71 0 hL1 (by decide) rfl hi2 dX9_voted_16 ?_
        refine lv_if_ne (tgt := 24) C.x C.b dX9_voted_17 (by decide) (fun cb => ?_) (fun cb => ?_)
        · have hf := g_f cb hf
          refine lv_iconst (v := (1 : Int32)) C.x C.b dX9_voted_24 (by decide) ?_
          refine lv_iadd C.x C.b dX9_voted_25 ?_
          refine lv_istore_n (lv' := [(1, .int (v1 + (1 : Int32))), (0, .ref (ad 9 0)), (2, .int v2)]) C.x C.b dX9_voted_26 rfl hl (by decide) rfl (fun ls hl => ?_)
          refine lv_iinc (v := (v2 + (1 : Int32))) (lv' := [(2, .int (v2 + (1 : Int32))), (1, .int (v1 + (1 : Int32))), (0, .ref (ad 9 0))]) C.x C.b dX9_voted_27 hl (k := 2) rfl rfl (by decide) rfl (fun ls hl => ?_)
          refine lv_goto (tgt := 4) C.x C.b dX9_voted_30 (by decide) ?_
          exact ih4 (v1 + (1 : Int32)) (v2 + (1 : Int32)) _ _ ls G (lv_sub hl [2, 1, 0] rfl) hf
        · have hf := g_t cb hf
          refine lv_iconst (v := (0 : Int32)) C.x C.b dX9_voted_20 (by decide) ?_
          refine lv_goto (tgt := 25) C.x C.b dX9_voted_21 (by decide) ?_
          refine lv_iadd C.x C.b dX9_voted_25 ?_
          refine lv_istore_n (lv' := [(1, .int (v1 + (0 : Int32))), (0, .ref (ad 9 0)), (2, .int v2)]) C.x C.b dX9_voted_26 rfl hl (by decide) rfl (fun ls hl => ?_)
          refine lv_iinc (v := (v2 + (1 : Int32))) (lv' := [(2, .int (v2 + (1 : Int32))), (1, .int (v1 + (0 : Int32))), (0, .ref (ad 9 0))]) C.x C.b dX9_voted_27 hl (k := 2) rfl rfl (by decide) rfl (fun ls hl => ?_)
          refine lv_goto (tgt := 4) C.x C.b dX9_voted_30 (by decide) ?_
          exact ih4 (v1 + (0 : Int32)) (v2 + (1 : Int32)) _ _ ls G (lv_sub hl [2, 1, 0] rfl) hf
  unfold f_X9_voted at hf
  refine lv_iconst (v := (0 : Int32)) C.x C.b dX9_voted_0 (by decide) ?_
  refine lv_istore_n (lv' := [(1, .int (0 : Int32)), (0, .ref (ad 9 0))]) C.x C.b dX9_voted_1 rfl hl (by decide) rfl (fun ls hl => ?_)
  refine lv_iconst (v := (0 : Int32)) C.x C.b dX9_voted_2 (by decide) ?_
  refine lv_istore_n (lv' := [(2, .int (0 : Int32)), (1, .int (0 : Int32)), (0, .ref (ad 9 0))]) C.x C.b dX9_voted_3 rfl hl (by decide) rfl (fun ls hl => ?_)
  exact lp4 g_fuel (0 : Int32) (0 : Int32) _ _ ls G (lv_sub hl [2, 1, 0] rfl) hf
def f_X9_election_P66 (σ : gS) (v3 : Int32) : Option (Int32 × gS) := (some (v3, σ))
def f_X9_election_L45 (K45 : gS → Int32 → Option (Int32 × gS)) : Nat → gS → Int32 → Int32 → Option (Int32 × gS)
  | 0, _, _, _ => none
  | n + 1, σ, v3, v4 => (if (35 : Int32) ≤ v4 then (K45 σ v3) else (if g_ix v4 35 then (g_let (g_up σ 71 0 v4.toNatClampNeg (0 : Int32)) fun σ8 => (f_X9_election_L45 K45 n σ8 v3 (v4 + (1 : Int32)))) else none))
def f_X9_election (ad : gA) (σ : gS) (a1 : Int32) (a2 : Int32) : Option (Int32 × gS) := ((f_X9_in ad σ a1 (2 : Int32) (4 : Int32)).bind fun q1 => (if q1 = 0 then (some ((-1 : Int32), σ)) else ((f_X9_in ad σ a2 (1 : Int32) (2 : Int32)).bind fun q2 => (if q2 = 0 then (some ((-1 : Int32), σ)) else (if a2 < a1 then ((f_X9_voted ad σ).bind fun q3 => (g_let (g_up σ 9 0 29 a1) fun σ4 => (g_let (g_up σ4 9 0 30 a2) fun σ5 => (f_X9_election_L45 (f_X9_election_P66) g_fuel σ5 q3 (0 : Int32))))) else (some ((-1 : Int32), σ)))))))
theorem hd_X9_election : yX9_election.cls ≠ "java/lang/invoke/MethodHandle" ∧ yX9_election.cls ≠ "java/lang/invoke/VarHandle" ∧ (parseMethodDescriptor yX9_election.desc).map (fun d => d.parameters.length) = some 2 := by decide +kernel
set_option maxHeartbeats 4000000 in
set_option maxRecDepth 100000 in
theorem c_X9_election (l : Launch) (D : va_G) (cy : Nat → ClassId) (A : Nat → Prop) (ad : gA) (L : gL)  (σ : gS) (hT : (9, 0) ∈ L) (a1 : Int32) (a2 : Int32) (r0 : Int32) (σ0 : gS) (hf : f_X9_election ad σ a1 a2 = some (r0, σ0)) : g_Mi l yX9_election cX9_election 5 (some .int) ({ frames := 1, cells := 0, slots := 0, locals := 23 } : Room) D cy A ad L σ [.ref (ad 9 0), .int a1, .int a2] r0 σ0 := by
  refine g_met (by decide) (Nat.le_of_ble_eq_true rfl) (fun p e s m below meth c C hr hlocks hnm G ls hl => ?_)
  have hl : lv_has ls 5 [(0, .ref (ad 9 0)), (1, .int a1), (2, .int a2)] := hl
  have pt66 : ∀ (σ : gS) (v3 : Int32) (H : Heap) (locs : List Loc) (ls : Array Slot), g_H D cy A ad L σ s.heap H locs → lv_has ls 5 [(3, .int v3)] → f_X9_election_P66 σ v3 = some (r0, σ0) → g_Wi p l e ({ frames := 1, cells := 0, slots := 0, locals := 23 } : Room) s m below meth c H locs 0 0 D cy A ad L [.ref (ad 9 0), .int a1, .int a2] r0 σ0 (F0 m 66 ls []) := by
    intro σ v3 H locs ls G hl hf
    unfold f_X9_election_P66 at hf
    refine lv_iload_n C.x C.b dX9_election_66 rfl (lv_at hl 0 rfl) ?_
    exact g_eii C G hr hlocks hf dX9_election_67
  have lp45 : ∀ n45 : Nat, ∀ (σ : gS) (v3 : Int32) (v4 : Int32) (H : Heap) (locs : List Loc) (ls : Array Slot), g_H D cy A ad L σ s.heap H locs → lv_has ls 5 [(0, .ref (ad 9 0)), (3, .int v3), (4, .int v4)] → f_X9_election_L45 (f_X9_election_P66) n45 σ v3 v4 = some (r0, σ0) → g_Wi p l e ({ frames := 1, cells := 0, slots := 0, locals := 23 } : Room) s m below meth c H locs 0 0 D cy A ad L [.ref (ad 9 0), .int a1, .int a2] r0 σ0 (F0 m 45 ls []) := by
    intro n45
    induction n45 with
    | zero =>
      intro σ v3 v4 H locs ls G hl hf
      rw [f_X9_election_L45] at hf
      cases hf
    | succ n45 ih45 =>
      intro σ v3 v4 H locs ls G hl hf
      rw [f_X9_election_L45] at hf
      refine lv_iload C.x C.b dX9_election_45 (lv_at hl 2 rfl) ?_
      refine lv_bipush (v := (35 : Int32)) C.x C.b dX9_election_47 (by decide) ?_
      refine lv_icmp_ge (tgt := 66) C.x C.b dX9_election_49 (by decide) (fun cb => ?_) (fun cb => ?_)
      · have hf := g_t cb hf
        exact pt66 σ v3 _ _ ls G (lv_sub hl [1] rfl) hf
      · have hf := g_f cb hf
        refine lv_aload_n C.x C.b dX9_election_52 rfl (lv_at hl 0 rfl) ?_
        refine g_getr C G 9 0 31 71 hT rfl ginX9 (by decide) tw981 dX9_election_53 (fun hL6 => ?_)
        refine lv_iload C.x C.b dX9_election_56 (lv_at hl 2 rfl) ?_
        refine lv_iconst (v := (0 : Int32)) C.x C.b dX9_election_58 (by decide) ?_
        obtain ⟨hi7, hf⟩ := g_ok hf
        refine g_iast (n := 35) C G 71 0 hL6 (by decide) rfl hi7 dX9_election_59 (fun H locs G => ?_)
        obtain ⟨σ8, eσ8, hf⟩ := g_lt hf
        rw [← eσ8] at G
        refine lv_iinc (v := (v4 + (1 : Int32))) (lv' := [(4, .int (v4 + (1 : Int32))), (0, .ref (ad 9 0)), (3, .int v3)]) C.x C.b dX9_election_60 hl (k := 2) rfl rfl (by decide) rfl (fun ls hl => ?_)
        refine lv_goto (tgt := 45) C.x C.b dX9_election_63 (by decide) ?_
        exact ih45 σ8 v3 (v4 + (1 : Int32)) _ _ ls G (lv_sub hl [1, 2, 0] rfl) hf
  unfold f_X9_election at hf
  refine lv_aload_n C.x C.b dX9_election_0 rfl (lv_at hl 0 rfl) ?_
  refine lv_iload_n C.x C.b dX9_election_1 rfl (lv_at hl 1 rfl) ?_
  refine lv_iconst (v := (2 : Int32)) C.x C.b dX9_election_2 (by decide) ?_
  refine lv_iconst (v := (4 : Int32)) C.x C.b dX9_election_3 (by decide) ?_
  obtain ⟨q1, eq1, hf⟩ := g_b hf
  refine g_calli G (g_runV (As := [.int a1, .int (2 : Int32), .int (4 : Int32)]) (rest := []) C G 9 0 (c_X9_in l D cy A ad L σ hT a1 (2 : Int32) (4 : Int32) q1 eq1) ⟨tw1093, tw60, tw1090, ⟨tw1092, tw18⟩, hd_X9_in⟩ (by decide) hT rfl ⟨rfl, by decide⟩ hl.1 rfl (Nat.le_of_ble_eq_true rfl) dX9_election_4 ⟨Nat.le_of_ble_eq_true rfl, Nat.le_of_ble_eq_true rfl⟩) (fun H locs G => ?_)
  refine lv_if_eq (tgt := 25) C.x C.b dX9_election_7 (by decide) (fun cb => ?_) (fun cb => ?_)
  · have hf := g_t cb hf
    refine lv_iconst (v := (-1 : Int32)) C.x C.b dX9_election_25 (by decide) ?_
    exact g_eii C G hr hlocks hf dX9_election_26
  · have hf := g_f cb hf
    refine lv_aload_n C.x C.b dX9_election_10 rfl (lv_at hl 0 rfl) ?_
    refine lv_iload_n C.x C.b dX9_election_11 rfl (lv_at hl 2 rfl) ?_
    refine lv_iconst (v := (1 : Int32)) C.x C.b dX9_election_12 (by decide) ?_
    refine lv_iconst (v := (2 : Int32)) C.x C.b dX9_election_13 (by decide) ?_
    obtain ⟨q2, eq2, hf⟩ := g_b hf
    refine g_calli G (g_runV (As := [.int a2, .int (1 : Int32), .int (2 : Int32)]) (rest := []) C G 9 0 (c_X9_in l D cy A ad L σ hT a2 (1 : Int32) (2 : Int32) q2 eq2) ⟨tw1093, tw60, tw1090, ⟨tw1092, tw18⟩, hd_X9_in⟩ (by decide) hT rfl ⟨rfl, by decide⟩ hl.1 rfl (Nat.le_of_ble_eq_true rfl) dX9_election_14 ⟨Nat.le_of_ble_eq_true rfl, Nat.le_of_ble_eq_true rfl⟩) (fun H locs G => ?_)
    refine lv_if_eq (tgt := 25) C.x C.b dX9_election_17 (by decide) (fun cb => ?_) (fun cb => ?_)
    · have hf := g_t cb hf
      refine lv_iconst (v := (-1 : Int32)) C.x C.b dX9_election_25 (by decide) ?_
      exact g_eii C G hr hlocks hf dX9_election_26
    · have hf := g_f cb hf
      refine lv_iload_n C.x C.b dX9_election_20 rfl (lv_at hl 2 rfl) ?_
      refine lv_iload_n C.x C.b dX9_election_21 rfl (lv_at hl 1 rfl) ?_
      refine lv_icmp_lt (tgt := 27) C.x C.b dX9_election_22 (by decide) (fun cb => ?_) (fun cb => ?_)
      · have hf := g_t cb hf
        refine lv_aload_n C.x C.b dX9_election_27 rfl (lv_at hl 0 rfl) ?_
        obtain ⟨q3, eq3, hf⟩ := g_b hf
        refine g_calli G (g_runV (As := []) (rest := []) C G 9 0 (c_X9_voted l D cy A ad L σ hT q3 eq3) ⟨tw1273, tw60, tw1270, ⟨tw1272, tw42⟩, hd_X9_voted⟩ (by decide) hT rfl ⟨rfl, by decide⟩ hl.1 rfl (Nat.le_of_ble_eq_true rfl) dX9_election_28 ⟨Nat.le_of_ble_eq_true rfl, Nat.le_of_ble_eq_true rfl⟩) (fun H locs G => ?_)
        refine lv_istore_n (lv' := [(3, .int q3), (0, .ref (ad 9 0)), (1, .int a1), (2, .int a2)]) C.x C.b dX9_election_31 rfl hl (by decide) rfl (fun ls hl => ?_)
        refine lv_aload_n C.x C.b dX9_election_32 rfl (lv_at hl 1 rfl) ?_
        refine lv_iload_n C.x C.b dX9_election_33 rfl (lv_at hl 2 rfl) ?_
        refine g_puti C G 9 0 29 hT (v := a1) rfl ginX9 tyX9_ok nmX9 (by decide) ⟨rfl, rfl⟩ tw979 dX9_election_34 (fun H locs G => ?_)
        obtain ⟨σ4, eσ4, hf⟩ := g_lt hf
        rw [← eσ4] at G
        refine lv_aload_n C.x C.b dX9_election_37 rfl (lv_at hl 1 rfl) ?_
        refine lv_iload_n C.x C.b dX9_election_38 rfl (lv_at hl 3 rfl) ?_
        refine g_puti C G 9 0 30 hT (v := a2) rfl ginX9 tyX9_ok nmX9 (by decide) ⟨rfl, rfl⟩ tw980 dX9_election_39 (fun H locs G => ?_)
        obtain ⟨σ5, eσ5, hf⟩ := g_lt hf
        rw [← eσ5] at G
        refine lv_iconst (v := (0 : Int32)) C.x C.b dX9_election_42 (by decide) ?_
        refine lv_istore (lv' := [(4, .int (0 : Int32)), (3, .int q3), (0, .ref (ad 9 0)), (1, .int a1), (2, .int a2)]) C.x C.b dX9_election_43 hl (by decide) rfl (fun ls hl => ?_)
        exact lp45 g_fuel σ5 q3 (0 : Int32) _ _ ls G (lv_sub hl [2, 1, 0] rfl) hf
      · have hf := g_f cb hf
        refine lv_iconst (v := (-1 : Int32)) C.x C.b dX9_election_25 (by decide) ?_
        exact g_eii C G hr hlocks hf dX9_election_26
def f_X9_ones (ad : gA) (σ : gS) (a1 : Int32) : Option Int32 := (some ((((a1 &&& (1 : Int32)) + ((a1 >>> ((1 : Int32) &&& 31)) &&& (1 : Int32))) + ((a1 >>> ((2 : Int32) &&& 31)) &&& (1 : Int32))) + ((a1 >>> ((3 : Int32) &&& 31)) &&& (1 : Int32))))
theorem hd_X9_ones : yX9_ones.cls ≠ "java/lang/invoke/MethodHandle" ∧ yX9_ones.cls ≠ "java/lang/invoke/VarHandle" ∧ (parseMethodDescriptor yX9_ones.desc).map (fun d => d.parameters.length) = some 1 := by decide +kernel
set_option maxHeartbeats 4000000 in
set_option maxRecDepth 100000 in
theorem c_X9_ones (l : Launch) (D : va_G) (cy : Nat → ClassId) (A : Nat → Prop) (ad : gA) (L : gL)  (σ : gS) (hT : (9, 0) ∈ L) (a1 : Int32) (r0 : Int32) (hf : f_X9_ones ad σ a1 = some r0) : g_Mi l yX9_ones cX9_ones 2 (some .int) ({ frames := 0, cells := 0, slots := 0, locals := 0 } : Room) D cy A ad L σ [.ref (ad 9 0), .int a1] r0 σ := by
  refine g_met (by decide) (Nat.le_of_ble_eq_true rfl) (fun p e s m below meth c C hr hlocks hnm G ls hl => ?_)
  have hl : lv_has ls 2 [(0, .ref (ad 9 0)), (1, .int a1)] := hl
  unfold f_X9_ones at hf
  refine lv_iload_n C.x C.b dX9_ones_0 rfl (lv_at hl 1 rfl) ?_
  refine lv_iconst (v := (1 : Int32)) C.x C.b dX9_ones_1 (by decide) ?_
  refine lv_iand C.x C.b dX9_ones_2 ?_
  refine lv_iload_n C.x C.b dX9_ones_3 rfl (lv_at hl 1 rfl) ?_
  refine lv_iconst (v := (1 : Int32)) C.x C.b dX9_ones_4 (by decide) ?_
  refine lv_ishr C.x C.b dX9_ones_5 ?_
  refine lv_iconst (v := (1 : Int32)) C.x C.b dX9_ones_6 (by decide) ?_
  refine lv_iand C.x C.b dX9_ones_7 ?_
  refine lv_iadd C.x C.b dX9_ones_8 ?_
  refine lv_iload_n C.x C.b dX9_ones_9 rfl (lv_at hl 1 rfl) ?_
  refine lv_iconst (v := (2 : Int32)) C.x C.b dX9_ones_10 (by decide) ?_
  refine lv_ishr C.x C.b dX9_ones_11 ?_
  refine lv_iconst (v := (1 : Int32)) C.x C.b dX9_ones_12 (by decide) ?_
  refine lv_iand C.x C.b dX9_ones_13 ?_
  refine lv_iadd C.x C.b dX9_ones_14 ?_
  refine lv_iload_n C.x C.b dX9_ones_15 rfl (lv_at hl 1 rfl) ?_
  refine lv_iconst (v := (3 : Int32)) C.x C.b dX9_ones_16 (by decide) ?_
  refine lv_ishr C.x C.b dX9_ones_17 ?_
  refine lv_iconst (v := (1 : Int32)) C.x C.b dX9_ones_18 (by decide) ?_
  refine lv_iand C.x C.b dX9_ones_19 ?_
  refine lv_iadd C.x C.b dX9_ones_20 ?_
  exact g_eip C G hr hlocks hf dX9_ones_21
def f_X9_vote (ad : gA) (σ : gS) (a1 : Int32) (a2 : Int32) : Option (Int32 × gS) := ((f_X9_in ad σ a1 (0 : Int32) (34 : Int32)).bind fun q1 => (if q1 = 0 then (some ((-1 : Int32), σ)) else ((f_X9_in ad σ a2 (0 : Int32) (((1 : Int32) <<< ((σ 9 0 29) &&& 31)) - (1 : Int32))).bind fun q2 => (if q2 = 0 then (some ((-1 : Int32), σ)) else ((f_X9_ones ad σ a2).bind fun q3 => (if q3 = (σ 9 0 30) then (if g_ix a1 35 then (if (σ 71 0 a1.toNatClampNeg) = a2 then (if g_ix a1 35 then (g_let (g_up σ 71 0 a1.toNatClampNeg a2) fun σ11 => (some ((0 : Int32), σ11))) else none) else (if g_ix a1 35 then (g_let (g_up σ 71 0 a1.toNatClampNeg a2) fun σ8 => (some ((1 : Int32), σ8))) else none)) else none) else (some ((-1 : Int32), σ))))))))
theorem hd_X9_vote : yX9_vote.cls ≠ "java/lang/invoke/MethodHandle" ∧ yX9_vote.cls ≠ "java/lang/invoke/VarHandle" ∧ (parseMethodDescriptor yX9_vote.desc).map (fun d => d.parameters.length) = some 2 := by decide +kernel
set_option maxHeartbeats 4000000 in
set_option maxRecDepth 100000 in
theorem c_X9_vote (l : Launch) (D : va_G) (cy : Nat → ClassId) (A : Nat → Prop) (ad : gA) (L : gL)  (σ : gS) (hT : (9, 0) ∈ L) (a1 : Int32) (a2 : Int32) (r0 : Int32) (σ0 : gS) (hf : f_X9_vote ad σ a1 a2 = some (r0, σ0)) : g_Mi l yX9_vote cX9_vote 4 (some .int) ({ frames := 1, cells := 0, slots := 0, locals := 23 } : Room) D cy A ad L σ [.ref (ad 9 0), .int a1, .int a2] r0 σ0 := by
  refine g_met (by decide) (Nat.le_of_ble_eq_true rfl) (fun p e s m below meth c C hr hlocks hnm G ls hl => ?_)
  have hl : lv_has ls 4 [(0, .ref (ad 9 0)), (1, .int a1), (2, .int a2)] := hl
  unfold f_X9_vote at hf
  refine lv_aload_n C.x C.b dX9_vote_0 rfl (lv_at hl 0 rfl) ?_
  refine lv_iload_n C.x C.b dX9_vote_1 rfl (lv_at hl 1 rfl) ?_
  refine lv_iconst (v := (0 : Int32)) C.x C.b dX9_vote_2 (by decide) ?_
  refine lv_bipush (v := (34 : Int32)) C.x C.b dX9_vote_3 (by decide) ?_
  obtain ⟨q1, eq1, hf⟩ := g_b hf
  refine g_calli G (g_runV (As := [.int a1, .int (0 : Int32), .int (34 : Int32)]) (rest := []) C G 9 0 (c_X9_in l D cy A ad L σ hT a1 (0 : Int32) (34 : Int32) q1 eq1) ⟨tw1093, tw60, tw1090, ⟨tw1092, tw18⟩, hd_X9_in⟩ (by decide) hT rfl ⟨rfl, by decide⟩ hl.1 rfl (Nat.le_of_ble_eq_true rfl) dX9_vote_5 ⟨Nat.le_of_ble_eq_true rfl, Nat.le_of_ble_eq_true rfl⟩) (fun H locs G => ?_)
  refine lv_if_eq (tgt := 40) C.x C.b dX9_vote_8 (by decide) (fun cb => ?_) (fun cb => ?_)
  · have hf := g_t cb hf
    refine lv_iconst (v := (-1 : Int32)) C.x C.b dX9_vote_40 (by decide) ?_
    exact g_eii C G hr hlocks hf dX9_vote_41
  · have hf := g_f cb hf
    refine lv_aload_n C.x C.b dX9_vote_11 rfl (lv_at hl 0 rfl) ?_
    refine lv_iload_n C.x C.b dX9_vote_12 rfl (lv_at hl 2 rfl) ?_
    refine lv_iconst (v := (0 : Int32)) C.x C.b dX9_vote_13 (by decide) ?_
    refine lv_iconst (v := (1 : Int32)) C.x C.b dX9_vote_14 (by decide) ?_
    refine lv_aload_n C.x C.b dX9_vote_15 rfl (lv_at hl 0 rfl) ?_
    refine g_geti C G 9 0 29 hT rfl ginX9 (by decide) tw979 dX9_vote_16 ?_
    refine lv_ishl C.x C.b dX9_vote_19 ?_
    refine lv_iconst (v := (1 : Int32)) C.x C.b dX9_vote_20 (by decide) ?_
    refine lv_isub C.x C.b dX9_vote_21 ?_
    obtain ⟨q2, eq2, hf⟩ := g_b hf
    refine g_calli G (g_runV (As := [.int a2, .int (0 : Int32), .int (((1 : Int32) <<< ((σ 9 0 29) &&& 31)) - (1 : Int32))]) (rest := []) C G 9 0 (c_X9_in l D cy A ad L σ hT a2 (0 : Int32) (((1 : Int32) <<< ((σ 9 0 29) &&& 31)) - (1 : Int32)) q2 eq2) ⟨tw1093, tw60, tw1090, ⟨tw1092, tw18⟩, hd_X9_in⟩ (by decide) hT rfl ⟨rfl, by decide⟩ hl.1 rfl (Nat.le_of_ble_eq_true rfl) dX9_vote_22 ⟨Nat.le_of_ble_eq_true rfl, Nat.le_of_ble_eq_true rfl⟩) (fun H locs G => ?_)
    refine lv_if_eq (tgt := 40) C.x C.b dX9_vote_25 (by decide) (fun cb => ?_) (fun cb => ?_)
    · have hf := g_t cb hf
      refine lv_iconst (v := (-1 : Int32)) C.x C.b dX9_vote_40 (by decide) ?_
      exact g_eii C G hr hlocks hf dX9_vote_41
    · have hf := g_f cb hf
      refine lv_aload_n C.x C.b dX9_vote_28 rfl (lv_at hl 0 rfl) ?_
      refine lv_iload_n C.x C.b dX9_vote_29 rfl (lv_at hl 2 rfl) ?_
      obtain ⟨q3, eq3, hf⟩ := g_b hf
      refine g_calli G (g_runV (As := [.int a2]) (rest := []) C G 9 0 (c_X9_ones l D cy A ad L σ hT a2 q3 eq3) ⟨tw1281, tw60, tw1278, ⟨tw1280, tw43⟩, hd_X9_ones⟩ (by decide) hT rfl ⟨rfl, by decide⟩ hl.1 rfl (Nat.le_of_ble_eq_true rfl) dX9_vote_30 ⟨Nat.le_of_ble_eq_true rfl, Nat.le_of_ble_eq_true rfl⟩) (fun H locs G => ?_)
      refine lv_aload_n C.x C.b dX9_vote_33 rfl (lv_at hl 0 rfl) ?_
      refine g_geti C G 9 0 30 hT rfl ginX9 (by decide) tw980 dX9_vote_34 ?_
      refine lv_icmp_eq (tgt := 42) C.x C.b dX9_vote_37 (by decide) (fun cb => ?_) (fun cb => ?_)
      · have hf := g_t cb hf
        refine lv_aload_n C.x C.b dX9_vote_42 rfl (lv_at hl 0 rfl) ?_
        refine g_getr C G 9 0 31 71 hT rfl ginX9 (by decide) tw981 dX9_vote_43 (fun hL4 => ?_)
        refine lv_iload_n C.x C.b dX9_vote_46 rfl (lv_at hl 1 rfl) ?_
        obtain ⟨hi5, hf⟩ := g_ok hf
        refine g_iald (n := 35) C G 71 0 hL4 (by decide) rfl hi5 dX9_vote_47 ?_
        refine lv_iload_n C.x C.b dX9_vote_48 rfl (lv_at hl 2 rfl) ?_
        refine lv_icmp_ne (tgt := 56) C.x C.b dX9_vote_49 (by decide) (fun cb => ?_) (fun cb => ?_)
        · have hf := g_f cb hf
          refine lv_iconst (v := (1 : Int32)) C.x C.b dX9_vote_56 (by decide) ?_
          refine lv_istore_n (lv' := [(3, .int (1 : Int32)), (0, .ref (ad 9 0)), (1, .int a1), (2, .int a2)]) C.x C.b dX9_vote_57 rfl hl (by decide) rfl (fun ls hl => ?_)
          refine lv_aload_n C.x C.b dX9_vote_58 rfl (lv_at hl 1 rfl) ?_
          refine g_getr C G 9 0 31 71 hT rfl ginX9 (by decide) tw981 dX9_vote_59 (fun hL6 => ?_)
          refine lv_iload_n C.x C.b dX9_vote_62 rfl (lv_at hl 2 rfl) ?_
          refine lv_iload_n C.x C.b dX9_vote_63 rfl (lv_at hl 3 rfl) ?_
          obtain ⟨hi7, hf⟩ := g_ok hf
          refine g_iast (n := 35) C G 71 0 hL6 (by decide) rfl hi7 dX9_vote_64 (fun H locs G => ?_)
          obtain ⟨σ8, eσ8, hf⟩ := g_lt hf
          rw [← eσ8] at G
          refine lv_iload_n C.x C.b dX9_vote_65 rfl (lv_at hl 0 rfl) ?_
          exact g_eii C G hr hlocks hf dX9_vote_66
        · have hf := g_t cb hf
          refine lv_iconst (v := (0 : Int32)) C.x C.b dX9_vote_52 (by decide) ?_
          refine lv_goto (tgt := 57) C.x C.b dX9_vote_53 (by decide) ?_
          refine lv_istore_n (lv' := [(3, .int (0 : Int32)), (0, .ref (ad 9 0)), (1, .int a1), (2, .int a2)]) C.x C.b dX9_vote_57 rfl hl (by decide) rfl (fun ls hl => ?_)
          refine lv_aload_n C.x C.b dX9_vote_58 rfl (lv_at hl 1 rfl) ?_
          refine g_getr C G 9 0 31 71 hT rfl ginX9 (by decide) tw981 dX9_vote_59 (fun hL9 => ?_)
          refine lv_iload_n C.x C.b dX9_vote_62 rfl (lv_at hl 2 rfl) ?_
          refine lv_iload_n C.x C.b dX9_vote_63 rfl (lv_at hl 3 rfl) ?_
          obtain ⟨hi10, hf⟩ := g_ok hf
          refine g_iast (n := 35) C G 71 0 hL9 (by decide) rfl hi10 dX9_vote_64 (fun H locs G => ?_)
          obtain ⟨σ11, eσ11, hf⟩ := g_lt hf
          rw [← eσ11] at G
          refine lv_iload_n C.x C.b dX9_vote_65 rfl (lv_at hl 0 rfl) ?_
          exact g_eii C G hr hlocks hf dX9_vote_66
      · have hf := g_f cb hf
        refine lv_iconst (v := (-1 : Int32)) C.x C.b dX9_vote_40 (by decide) ?_
        exact g_eii C G hr hlocks hf dX9_vote_41
def f_X9_choose (ad : gA) (σ : gS) (a1 : Int32) (a2 : Int32) : Option gS := (if g_ix (σ 9 0 38) 2 then (g_let (g_up σ 76 0 ((σ 9 0 38).toNatClampNeg) a1) fun σ3 => (if g_ix (σ3 9 0 38) 2 then (g_let (g_up σ3 77 0 ((σ3 9 0 38).toNatClampNeg) a2) fun σ6 => (if g_ix a1 4 then (g_let (g_up σ6 79 0 a1.toNatClampNeg (vp_nar .boolean (1 : Int32))) fun σ9 => (g_let (g_up σ9 9 0 38 ((σ9 9 0 38) + (1 : Int32))) fun σ10 => (some σ10))) else none)) else none)) else none)
theorem hd_X9_choose : yX9_choose.cls ≠ "java/lang/invoke/MethodHandle" ∧ yX9_choose.cls ≠ "java/lang/invoke/VarHandle" ∧ (parseMethodDescriptor yX9_choose.desc).map (fun d => d.parameters.length) = some 2 := by decide +kernel
set_option maxHeartbeats 4000000 in
set_option maxRecDepth 100000 in
theorem c_X9_choose (l : Launch) (D : va_G) (cy : Nat → ClassId) (A : Nat → Prop) (ad : gA) (L : gL)  (σ : gS) (hT : (9, 0) ∈ L) (a1 : Int32) (a2 : Int32) (σ0 : gS) (hf : f_X9_choose ad σ a1 a2 = some σ0) : g_Mv l yX9_choose cX9_choose 3 none ({ frames := 0, cells := 0, slots := 0, locals := 0 } : Room) D cy A ad L σ [.ref (ad 9 0), .int a1, .int a2] σ0 := by
  refine g_met (by decide) (Nat.le_of_ble_eq_true rfl) (fun p e s m below meth c C hr hlocks hnm G ls hl => ?_)
  have hl : lv_has ls 3 [(0, .ref (ad 9 0)), (1, .int a1), (2, .int a2)] := hl
  unfold f_X9_choose at hf
  refine lv_aload_n C.x C.b dX9_choose_0 rfl (lv_at hl 0 rfl) ?_
  refine g_getr C G 9 0 36 76 hT rfl ginX9 (by decide) tw986 dX9_choose_1 (fun hL1 => ?_)
  refine lv_aload_n C.x C.b dX9_choose_4 rfl (lv_at hl 0 rfl) ?_
  refine g_geti C G 9 0 38 hT rfl ginX9 (by decide) tw988 dX9_choose_5 ?_
  refine lv_iload_n C.x C.b dX9_choose_8 rfl (lv_at hl 1 rfl) ?_
  obtain ⟨hi2, hf⟩ := g_ok hf
  refine g_iast (n := 2) C G 76 0 hL1 (by decide) rfl hi2 dX9_choose_9 (fun H locs G => ?_)
  obtain ⟨σ3, eσ3, hf⟩ := g_lt hf
  rw [← eσ3] at G
  refine lv_aload_n C.x C.b dX9_choose_10 rfl (lv_at hl 0 rfl) ?_
  refine g_getr C G 9 0 37 77 hT rfl ginX9 (by decide) tw987 dX9_choose_11 (fun hL4 => ?_)
  refine lv_aload_n C.x C.b dX9_choose_14 rfl (lv_at hl 0 rfl) ?_
  refine g_geti C G 9 0 38 hT rfl ginX9 (by decide) tw988 dX9_choose_15 ?_
  refine lv_iload_n C.x C.b dX9_choose_18 rfl (lv_at hl 2 rfl) ?_
  obtain ⟨hi5, hf⟩ := g_ok hf
  refine g_iast (n := 2) C G 77 0 hL4 (by decide) rfl hi5 dX9_choose_19 (fun H locs G => ?_)
  obtain ⟨σ6, eσ6, hf⟩ := g_lt hf
  rw [← eσ6] at G
  refine lv_aload_n C.x C.b dX9_choose_20 rfl (lv_at hl 0 rfl) ?_
  refine g_getr C G 9 0 39 79 hT rfl ginX9 (by decide) tw989 dX9_choose_21 (fun hL7 => ?_)
  refine lv_iload_n C.x C.b dX9_choose_24 rfl (lv_at hl 1 rfl) ?_
  refine lv_iconst (v := (1 : Int32)) C.x C.b dX9_choose_25 (by decide) ?_
  obtain ⟨hi8, hf⟩ := g_ok hf
  refine g_zast (n := 4) C G 79 0 hL7 (by decide) rfl hi8 dX9_choose_26 (fun H locs G => ?_)
  obtain ⟨σ9, eσ9, hf⟩ := g_lt hf
  rw [← eσ9] at G
  refine lv_aload_n C.x C.b dX9_choose_27 rfl (lv_at hl 0 rfl) ?_
  refine lv_dup C.x C.b dX9_choose_28 rfl ?_
  refine g_geti C G 9 0 38 hT rfl ginX9 (by decide) tw988 dX9_choose_29 ?_
  refine lv_iconst (v := (1 : Int32)) C.x C.b dX9_choose_32 (by decide) ?_
  refine lv_iadd C.x C.b dX9_choose_33 ?_
  refine g_puti C G 9 0 38 hT (v := ((σ9 9 0 38) + (1 : Int32))) rfl ginX9 tyX9_ok nmX9 (by decide) ⟨rfl, rfl⟩ tw988 dX9_choose_34 (fun H locs G => ?_)
  obtain ⟨σ10, eσ10, hf⟩ := g_lt hf
  rw [← eσ10] at G
  exact g_evi C G hr hlocks hf dX9_choose_37
def f_X9_beginVotes_P39 (σ : gS) : Option gS := (some σ)
def f_X9_beginVotes_L7 (K7 : gS → Option gS) : Nat → gS → Int32 → Option gS
  | 0, _, _ => none
  | n + 1, σ, v1 => (if (4 : Int32) ≤ v1 then (K7 σ) else (if g_ix v1 4 then (g_let (g_up σ 74 0 v1.toNatClampNeg (0 : Int32)) fun σ4 => (if g_ix v1 4 then (g_let (g_up σ4 75 0 v1.toNatClampNeg (0 : Int32)) fun σ7 => (if g_ix v1 4 then (g_let (g_up σ7 79 0 v1.toNatClampNeg (vp_nar .boolean (0 : Int32))) fun σ10 => (f_X9_beginVotes_L7 K7 n σ10 (v1 + (1 : Int32)))) else none)) else none)) else none))
def f_X9_beginVotes (ad : gA) (σ : gS) : Option gS := (g_let (g_up σ 9 0 38 (0 : Int32)) fun σ1 => (f_X9_beginVotes_L7 (f_X9_beginVotes_P39) g_fuel σ1 (0 : Int32)))
theorem hd_X9_beginVotes : yX9_beginVotes.cls ≠ "java/lang/invoke/MethodHandle" ∧ yX9_beginVotes.cls ≠ "java/lang/invoke/VarHandle" ∧ (parseMethodDescriptor yX9_beginVotes.desc).map (fun d => d.parameters.length) = some 0 := by decide +kernel
set_option maxHeartbeats 4000000 in
set_option maxRecDepth 100000 in
theorem c_X9_beginVotes (l : Launch) (D : va_G) (cy : Nat → ClassId) (A : Nat → Prop) (ad : gA) (L : gL)  (σ : gS) (hT : (9, 0) ∈ L) (σ0 : gS) (hf : f_X9_beginVotes ad σ = some σ0) : g_Mv l yX9_beginVotes cX9_beginVotes 2 none ({ frames := 0, cells := 0, slots := 0, locals := 0 } : Room) D cy A ad L σ [.ref (ad 9 0)] σ0 := by
  refine g_met (by decide) (Nat.le_of_ble_eq_true rfl) (fun p e s m below meth c C hr hlocks hnm G ls hl => ?_)
  have hl : lv_has ls 2 [(0, .ref (ad 9 0))] := hl
  have pt39 : ∀ (σ : gS) (H : Heap) (locs : List Loc) (ls : Array Slot), g_H D cy A ad L σ s.heap H locs → lv_has ls 2 [] → f_X9_beginVotes_P39 σ = some σ0 → g_Wv p l e ({ frames := 0, cells := 0, slots := 0, locals := 0 } : Room) s m below meth c H locs 0 0 D cy A ad L [.ref (ad 9 0)] σ0 (F0 m 39 ls []) := by
    intro σ H locs ls G hl hf
    unfold f_X9_beginVotes_P39 at hf
    exact g_evi C G hr hlocks hf dX9_beginVotes_39
  have lp7 : ∀ n7 : Nat, ∀ (σ : gS) (v1 : Int32) (H : Heap) (locs : List Loc) (ls : Array Slot), g_H D cy A ad L σ s.heap H locs → lv_has ls 2 [(0, .ref (ad 9 0)), (1, .int v1)] → f_X9_beginVotes_L7 (f_X9_beginVotes_P39) n7 σ v1 = some σ0 → g_Wv p l e ({ frames := 0, cells := 0, slots := 0, locals := 0 } : Room) s m below meth c H locs 0 0 D cy A ad L [.ref (ad 9 0)] σ0 (F0 m 7 ls []) := by
    intro n7
    induction n7 with
    | zero =>
      intro σ v1 H locs ls G hl hf
      rw [f_X9_beginVotes_L7] at hf
      cases hf
    | succ n7 ih7 =>
      intro σ v1 H locs ls G hl hf
      rw [f_X9_beginVotes_L7] at hf
      refine lv_iload_n C.x C.b dX9_beginVotes_7 rfl (lv_at hl 1 rfl) ?_
      refine lv_iconst (v := (4 : Int32)) C.x C.b dX9_beginVotes_8 (by decide) ?_
      refine lv_icmp_ge (tgt := 39) C.x C.b dX9_beginVotes_9 (by decide) (fun cb => ?_) (fun cb => ?_)
      · have hf := g_t cb hf
        exact pt39 σ _ _ ls G (lv_sub hl [] rfl) hf
      · have hf := g_f cb hf
        refine lv_aload_n C.x C.b dX9_beginVotes_12 rfl (lv_at hl 0 rfl) ?_
        refine g_getr C G 9 0 34 74 hT rfl ginX9 (by decide) tw984 dX9_beginVotes_13 (fun hL2 => ?_)
        refine lv_iload_n C.x C.b dX9_beginVotes_16 rfl (lv_at hl 1 rfl) ?_
        refine lv_iconst (v := (0 : Int32)) C.x C.b dX9_beginVotes_17 (by decide) ?_
        obtain ⟨hi3, hf⟩ := g_ok hf
        refine g_iast (n := 4) C G 74 0 hL2 (by decide) rfl hi3 dX9_beginVotes_18 (fun H locs G => ?_)
        obtain ⟨σ4, eσ4, hf⟩ := g_lt hf
        rw [← eσ4] at G
        refine lv_aload_n C.x C.b dX9_beginVotes_19 rfl (lv_at hl 0 rfl) ?_
        refine g_getr C G 9 0 35 75 hT rfl ginX9 (by decide) tw985 dX9_beginVotes_20 (fun hL5 => ?_)
        refine lv_iload_n C.x C.b dX9_beginVotes_23 rfl (lv_at hl 1 rfl) ?_
        refine lv_iconst (v := (0 : Int32)) C.x C.b dX9_beginVotes_24 (by decide) ?_
        obtain ⟨hi6, hf⟩ := g_ok hf
        refine g_iast (n := 4) C G 75 0 hL5 (by decide) rfl hi6 dX9_beginVotes_25 (fun H locs G => ?_)
        obtain ⟨σ7, eσ7, hf⟩ := g_lt hf
        rw [← eσ7] at G
        refine lv_aload_n C.x C.b dX9_beginVotes_26 rfl (lv_at hl 0 rfl) ?_
        refine g_getr C G 9 0 39 79 hT rfl ginX9 (by decide) tw989 dX9_beginVotes_27 (fun hL8 => ?_)
        refine lv_iload_n C.x C.b dX9_beginVotes_30 rfl (lv_at hl 1 rfl) ?_
        refine lv_iconst (v := (0 : Int32)) C.x C.b dX9_beginVotes_31 (by decide) ?_
        obtain ⟨hi9, hf⟩ := g_ok hf
        refine g_zast (n := 4) C G 79 0 hL8 (by decide) rfl hi9 dX9_beginVotes_32 (fun H locs G => ?_)
        obtain ⟨σ10, eσ10, hf⟩ := g_lt hf
        rw [← eσ10] at G
        refine lv_iinc (v := (v1 + (1 : Int32))) (lv' := [(1, .int (v1 + (1 : Int32))), (0, .ref (ad 9 0))]) C.x C.b dX9_beginVotes_33 hl (k := 1) rfl rfl (by decide) rfl (fun ls hl => ?_)
        refine lv_goto (tgt := 7) C.x C.b dX9_beginVotes_36 (by decide) ?_
        exact ih7 σ10 (v1 + (1 : Int32)) _ _ ls G (lv_sub hl [1, 0] rfl) hf
  unfold f_X9_beginVotes at hf
  refine lv_aload_n C.x C.b dX9_beginVotes_0 rfl (lv_at hl 0 rfl) ?_
  refine lv_iconst (v := (0 : Int32)) C.x C.b dX9_beginVotes_1 (by decide) ?_
  refine g_puti C G 9 0 38 hT (v := (0 : Int32)) rfl ginX9 tyX9_ok nmX9 (by decide) ⟨rfl, rfl⟩ tw988 dX9_beginVotes_2 (fun H locs G => ?_)
  obtain ⟨σ1, eσ1, hf⟩ := g_lt hf
  rw [← eσ1] at G
  refine lv_iconst (v := (0 : Int32)) C.x C.b dX9_beginVotes_5 (by decide) ?_
  refine lv_istore_n (lv' := [(1, .int (0 : Int32)), (0, .ref (ad 9 0))]) C.x C.b dX9_beginVotes_6 rfl hl (by decide) rfl (fun ls hl => ?_)
  exact lp7 g_fuel σ1 (0 : Int32) _ _ ls G (lv_sub hl [1, 0] rfl) hf
def f_X9_unitVotes_P86 (σ : gS) : Option gS := (some σ)
def f_X9_unitVotes_L2 (ad : gA) (a1 : Int32) (K2 : gS → Option gS) : Nat → gS → Int32 → Option gS
  | 0, _, _ => none
  | n + 1, σ, v2 => (if (σ 9 0 29) ≤ v2 then (K2 σ) else (if g_ix a1 35 then (if g_ix (σ 72 0 a1.toNatClampNeg) 35 then (if (((σ 71 0 ((σ 72 0 a1.toNatClampNeg).toNatClampNeg)) >>> (v2 &&& 31)) &&& (1 : Int32)) = 0 then (f_X9_unitVotes_L2 ad a1 K2 n σ (v2 + (1 : Int32))) else (if g_ix v2 4 then (if g_ix v2 4 then (g_let (g_up σ 74 0 v2.toNatClampNeg ((σ 74 0 v2.toNatClampNeg) + (1 : Int32))) fun σ8 => (if g_ix v2 4 then (g_let (g_up σ8 75 0 v2.toNatClampNeg (a1 + (1 : Int32))) fun σ11 => (if g_ix v2 4 then (if (σ11 74 0 v2.toNatClampNeg) = (18 : Int32) then (if (σ11 9 0 30) ≤ (σ11 9 0 38) then (f_X9_unitVotes_L2 ad a1 K2 n σ11 (v2 + (1 : Int32))) else ((f_X9_choose ad σ11 v2 (a1 + (1 : Int32))).bind fun σ14 => (f_X9_unitVotes_L2 ad a1 K2 n σ14 (v2 + (1 : Int32))))) else (f_X9_unitVotes_L2 ad a1 K2 n σ11 (v2 + (1 : Int32)))) else none)) else none)) else none) else none)) else none) else none))
def f_X9_unitVotes (ad : gA) (σ : gS) (a1 : Int32) : Option gS := (f_X9_unitVotes_L2 ad a1 (f_X9_unitVotes_P86) g_fuel σ (0 : Int32))
theorem hd_X9_unitVotes : yX9_unitVotes.cls ≠ "java/lang/invoke/MethodHandle" ∧ yX9_unitVotes.cls ≠ "java/lang/invoke/VarHandle" ∧ (parseMethodDescriptor yX9_unitVotes.desc).map (fun d => d.parameters.length) = some 1 := by decide +kernel
set_option maxHeartbeats 4000000 in
set_option maxRecDepth 100000 in
theorem c_X9_unitVotes (l : Launch) (D : va_G) (cy : Nat → ClassId) (A : Nat → Prop) (ad : gA) (L : gL)  (σ : gS) (hT : (9, 0) ∈ L) (a1 : Int32) (σ0 : gS) (hf : f_X9_unitVotes ad σ a1 = some σ0) : g_Mv l yX9_unitVotes cX9_unitVotes 3 none ({ frames := 1, cells := 0, slots := 0, locals := 22 } : Room) D cy A ad L σ [.ref (ad 9 0), .int a1] σ0 := by
  refine g_met (by decide) (Nat.le_of_ble_eq_true rfl) (fun p e s m below meth c C hr hlocks hnm G ls hl => ?_)
  have hl : lv_has ls 3 [(0, .ref (ad 9 0)), (1, .int a1)] := hl
  have pt86 : ∀ (σ : gS) (H : Heap) (locs : List Loc) (ls : Array Slot), g_H D cy A ad L σ s.heap H locs → lv_has ls 3 [] → f_X9_unitVotes_P86 σ = some σ0 → g_Wv p l e ({ frames := 1, cells := 0, slots := 0, locals := 22 } : Room) s m below meth c H locs 0 0 D cy A ad L [.ref (ad 9 0), .int a1] σ0 (F0 m 86 ls []) := by
    intro σ H locs ls G hl hf
    unfold f_X9_unitVotes_P86 at hf
    exact g_evi C G hr hlocks hf dX9_unitVotes_86
  have lp2 : ∀ n2 : Nat, ∀ (σ : gS) (v2 : Int32) (H : Heap) (locs : List Loc) (ls : Array Slot), g_H D cy A ad L σ s.heap H locs → lv_has ls 3 [(0, .ref (ad 9 0)), (1, .int a1), (2, .int v2)] → f_X9_unitVotes_L2 ad a1 (f_X9_unitVotes_P86) n2 σ v2 = some σ0 → g_Wv p l e ({ frames := 1, cells := 0, slots := 0, locals := 22 } : Room) s m below meth c H locs 0 0 D cy A ad L [.ref (ad 9 0), .int a1] σ0 (F0 m 2 ls []) := by
    intro n2
    induction n2 with
    | zero =>
      intro σ v2 H locs ls G hl hf
      rw [f_X9_unitVotes_L2] at hf
      cases hf
    | succ n2 ih2 =>
      intro σ v2 H locs ls G hl hf
      rw [f_X9_unitVotes_L2] at hf
      refine lv_iload_n C.x C.b dX9_unitVotes_2 rfl (lv_at hl 2 rfl) ?_
      refine lv_aload_n C.x C.b dX9_unitVotes_3 rfl (lv_at hl 0 rfl) ?_
      refine g_geti C G 9 0 29 hT rfl ginX9 (by decide) tw979 dX9_unitVotes_4 ?_
      refine lv_icmp_ge (tgt := 86) C.x C.b dX9_unitVotes_7 (by decide) (fun cb => ?_) (fun cb => ?_)
      · have hf := g_t cb hf
        exact pt86 σ _ _ ls G (lv_sub hl [] rfl) hf
      · have hf := g_f cb hf
        refine lv_aload_n C.x C.b dX9_unitVotes_10 rfl (lv_at hl 0 rfl) ?_
        refine g_getr C G 9 0 31 71 hT rfl ginX9 (by decide) tw981 dX9_unitVotes_11 (fun hL1 => ?_)
        refine lv_aload_n C.x C.b dX9_unitVotes_14 rfl (lv_at hl 0 rfl) ?_
        refine g_getr C G 9 0 32 72 hT rfl ginX9 (by decide) tw982 dX9_unitVotes_15 (fun hL2 => ?_)
        refine lv_iload_n C.x C.b dX9_unitVotes_18 rfl (lv_at hl 1 rfl) ?_
        obtain ⟨hi3, hf⟩ := g_ok hf
        refine g_iald (n := 35) C G 72 0 hL2 (by decide) rfl hi3 dX9_unitVotes_19 ?_
        obtain ⟨hi4, hf⟩ := g_ok hf
        refine g_iald (n := 35) C G 71 0 hL1 (by decide) rfl hi4 dX9_unitVotes_20 ?_
        refine lv_iload_n C.x C.b dX9_unitVotes_21 rfl (lv_at hl 2 rfl) ?_
        refine lv_ishr C.x C.b dX9_unitVotes_22 ?_
        refine lv_iconst (v := (1 : Int32)) C.x C.b dX9_unitVotes_23 (by decide) ?_
        refine lv_iand C.x C.b dX9_unitVotes_24 ?_
        refine lv_if_ne (tgt := 31) C.x C.b dX9_unitVotes_25 (by decide) (fun cb => ?_) (fun cb => ?_)
        · have hf := g_f cb hf
          refine lv_aload_n C.x C.b dX9_unitVotes_31 rfl (lv_at hl 0 rfl) ?_
          refine g_getr C G 9 0 34 74 hT rfl ginX9 (by decide) tw984 dX9_unitVotes_32 (fun hL5 => ?_)
          refine lv_iload_n C.x C.b dX9_unitVotes_35 rfl (lv_at hl 2 rfl) ?_
          refine lv_dup2_11 C.x C.b dX9_unitVotes_36 rfl rfl ?_
          obtain ⟨hi6, hf⟩ := g_ok hf
          refine g_iald (n := 4) C G 74 0 hL5 (by decide) rfl hi6 dX9_unitVotes_37 ?_
          refine lv_iconst (v := (1 : Int32)) C.x C.b dX9_unitVotes_38 (by decide) ?_
          refine lv_iadd C.x C.b dX9_unitVotes_39 ?_
          obtain ⟨hi7, hf⟩ := g_ok hf
          refine g_iast (n := 4) C G 74 0 hL5 (by decide) rfl hi7 dX9_unitVotes_40 (fun H locs G => ?_)
          obtain ⟨σ8, eσ8, hf⟩ := g_lt hf
          rw [← eσ8] at G
          refine lv_aload_n C.x C.b dX9_unitVotes_41 rfl (lv_at hl 0 rfl) ?_
          refine g_getr C G 9 0 35 75 hT rfl ginX9 (by decide) tw985 dX9_unitVotes_42 (fun hL9 => ?_)
          refine lv_iload_n C.x C.b dX9_unitVotes_45 rfl (lv_at hl 2 rfl) ?_
          refine lv_iload_n C.x C.b dX9_unitVotes_46 rfl (lv_at hl 1 rfl) ?_
          refine lv_iconst (v := (1 : Int32)) C.x C.b dX9_unitVotes_47 (by decide) ?_
          refine lv_iadd C.x C.b dX9_unitVotes_48 ?_
          obtain ⟨hi10, hf⟩ := g_ok hf
          refine g_iast (n := 4) C G 75 0 hL9 (by decide) rfl hi10 dX9_unitVotes_49 (fun H locs G => ?_)
          obtain ⟨σ11, eσ11, hf⟩ := g_lt hf
          rw [← eσ11] at G
          refine lv_aload_n C.x C.b dX9_unitVotes_50 rfl (lv_at hl 0 rfl) ?_
          refine g_getr C G 9 0 34 74 hT rfl ginX9 (by decide) tw984 dX9_unitVotes_51 (fun hL12 => ?_)
          refine lv_iload_n C.x C.b dX9_unitVotes_54 rfl (lv_at hl 2 rfl) ?_
          obtain ⟨hi13, hf⟩ := g_ok hf
          refine g_iald (n := 4) C G 74 0 hL12 (by decide) rfl hi13 dX9_unitVotes_55 ?_
          refine lv_bipush (v := (18 : Int32)) C.x C.b dX9_unitVotes_56 (by decide) ?_
          refine lv_icmp_ne (tgt := 80) C.x C.b dX9_unitVotes_58 (by decide) (fun cb => ?_) (fun cb => ?_)
          · have hf := g_f cb hf
            refine lv_iinc (v := (v2 + (1 : Int32))) (lv' := [(2, .int (v2 + (1 : Int32))), (0, .ref (ad 9 0)), (1, .int a1)]) C.x C.b dX9_unitVotes_80 hl (k := 2) rfl rfl (by decide) rfl (fun ls hl => ?_)
            refine lv_goto (tgt := 2) C.x C.b dX9_unitVotes_83 (by decide) ?_
            exact ih2 σ11 (v2 + (1 : Int32)) _ _ ls G (lv_sub hl [1, 2, 0] rfl) hf
          · have hf := g_t cb hf
            refine lv_aload_n C.x C.b dX9_unitVotes_61 rfl (lv_at hl 0 rfl) ?_
            refine g_geti C G 9 0 38 hT rfl ginX9 (by decide) tw988 dX9_unitVotes_62 ?_
            refine lv_aload_n C.x C.b dX9_unitVotes_65 rfl (lv_at hl 0 rfl) ?_
            refine g_geti C G 9 0 30 hT rfl ginX9 (by decide) tw980 dX9_unitVotes_66 ?_
            refine lv_icmp_ge (tgt := 80) C.x C.b dX9_unitVotes_69 (by decide) (fun cb => ?_) (fun cb => ?_)
            · have hf := g_t cb hf
              refine lv_iinc (v := (v2 + (1 : Int32))) (lv' := [(2, .int (v2 + (1 : Int32))), (0, .ref (ad 9 0)), (1, .int a1)]) C.x C.b dX9_unitVotes_80 hl (k := 2) rfl rfl (by decide) rfl (fun ls hl => ?_)
              refine lv_goto (tgt := 2) C.x C.b dX9_unitVotes_83 (by decide) ?_
              exact ih2 σ11 (v2 + (1 : Int32)) _ _ ls G (lv_sub hl [1, 2, 0] rfl) hf
            · have hf := g_f cb hf
              refine lv_aload_n C.x C.b dX9_unitVotes_72 rfl (lv_at hl 0 rfl) ?_
              refine lv_iload_n C.x C.b dX9_unitVotes_73 rfl (lv_at hl 2 rfl) ?_
              refine lv_iload_n C.x C.b dX9_unitVotes_74 rfl (lv_at hl 1 rfl) ?_
              refine lv_iconst (v := (1 : Int32)) C.x C.b dX9_unitVotes_75 (by decide) ?_
              refine lv_iadd C.x C.b dX9_unitVotes_76 ?_
              obtain ⟨σ14, eσ14, hf⟩ := g_b hf
              refine g_callv G (g_runV (As := [.int v2, .int (a1 + (1 : Int32))]) (rest := []) C G 9 0 (c_X9_choose l D cy A ad L σ11 hT v2 (a1 + (1 : Int32)) σ14 eσ14) ⟨tw1305, tw60, tw1302, ⟨tw1304, tw48⟩, hd_X9_choose⟩ (by decide) hT rfl ⟨rfl, by decide⟩ hl.1 rfl (Nat.le_of_ble_eq_true rfl) dX9_unitVotes_77 ⟨Nat.le_of_ble_eq_true rfl, Nat.le_of_ble_eq_true rfl⟩) (fun H locs G => ?_)
              refine lv_iinc (v := (v2 + (1 : Int32))) (lv' := [(2, .int (v2 + (1 : Int32))), (0, .ref (ad 9 0)), (1, .int a1)]) C.x C.b dX9_unitVotes_80 hl (k := 2) rfl rfl (by decide) rfl (fun ls hl => ?_)
              refine lv_goto (tgt := 2) C.x C.b dX9_unitVotes_83 (by decide) ?_
              exact ih2 σ14 (v2 + (1 : Int32)) _ _ ls G (lv_sub hl [1, 2, 0] rfl) hf
        · have hf := g_t cb hf
          refine lv_goto (tgt := 80) C.x C.b dX9_unitVotes_28 (by decide) ?_
          refine lv_iinc (v := (v2 + (1 : Int32))) (lv' := [(2, .int (v2 + (1 : Int32))), (0, .ref (ad 9 0)), (1, .int a1)]) C.x C.b dX9_unitVotes_80 hl (k := 2) rfl rfl (by decide) rfl (fun ls hl => ?_)
          refine lv_goto (tgt := 2) C.x C.b dX9_unitVotes_83 (by decide) ?_
          exact ih2 σ (v2 + (1 : Int32)) _ _ ls G (lv_sub hl [1, 2, 0] rfl) hf
  unfold f_X9_unitVotes at hf
  refine lv_iconst (v := (0 : Int32)) C.x C.b dX9_unitVotes_0 (by decide) ?_
  refine lv_istore_n (lv' := [(2, .int (0 : Int32)), (0, .ref (ad 9 0)), (1, .int a1)]) C.x C.b dX9_unitVotes_1 rfl hl (by decide) rfl (fun ls hl => ?_)
  exact lp2 g_fuel σ (0 : Int32) _ _ ls G (lv_sub hl [1, 2, 0] rfl) hf
def f_X9_elect_P139 (σ : gS) : Option gS := (some σ)
def f_X9_elect_P129 (ad : gA) (rec30 : gS → Option gS) (σ : gS) (v3 : Int32) : Option gS := ((f_X9_choose ad σ v3 (35 : Int32)).bind fun σ18 => (rec30 σ18))
def f_X9_elect_L46 (K46 : gS → Int32 → Option gS) : Nat → gS → Int32 → Int32 → Option gS
  | 0, _, _, _ => none
  | n + 1, σ, v3, v4 => (if (σ 9 0 29) ≤ v4 then (K46 σ v3) else (if g_ix v4 4 then (if (σ 79 0 v4.toNatClampNeg) = 0 then (if v3 < 0 then (f_X9_elect_L46 K46 n σ v4 (v4 + (1 : Int32))) else (if g_ix v4 4 then (if g_ix v3 4 then (if (σ 74 0 v3.toNatClampNeg) < (σ 74 0 v4.toNatClampNeg) then (f_X9_elect_L46 K46 n σ v4 (v4 + (1 : Int32))) else (if g_ix v4 4 then (if g_ix v3 4 then (if (σ 74 0 v4.toNatClampNeg) = (σ 74 0 v3.toNatClampNeg) then (if g_ix v4 4 then (if g_ix v3 4 then (if (σ 75 0 v3.toNatClampNeg) ≤ (σ 75 0 v4.toNatClampNeg) then (f_X9_elect_L46 K46 n σ v3 (v4 + (1 : Int32))) else (f_X9_elect_L46 K46 n σ v4 (v4 + (1 : Int32)))) else none) else none) else (f_X9_elect_L46 K46 n σ v3 (v4 + (1 : Int32)))) else none) else none)) else none) else none)) else (f_X9_elect_L46 K46 n σ v3 (v4 + (1 : Int32)))) else none))
def f_X9_elect_L30 (ad : gA) (K30 : gS → Option gS) : Nat → gS → Option gS
  | 0, _ => none
  | n + 1, σ => (if (σ 9 0 30) ≤ (σ 9 0 38) then (K30 σ) else (f_X9_elect_L46 (f_X9_elect_P129 ad (f_X9_elect_L30 ad K30 n)) g_fuel σ (-1 : Int32) (0 : Int32)))
def f_X9_elect_L13 (ad : gA) : Nat → gS → Int32 → Option gS
  | 0, _, _ => none
  | n + 1, σ, v3 => (if (35 : Int32) ≤ v3 then (f_X9_elect_L30 ad (f_X9_elect_P139) g_fuel σ) else ((f_X9_unitVotes ad σ v3).bind fun σ3 => (f_X9_elect_L13 ad n σ3 (v3 + (1 : Int32)))))
def f_X9_elect (ad : gA) (σ : gS) (a1 : Int64) : Option gS := ((f_X9_draw ad σ (35 : Int32) a1).bind fun σ1 => ((f_X9_beginVotes ad σ1).bind fun σ2 => (f_X9_elect_L13 ad g_fuel σ2 (0 : Int32))))
theorem hd_X9_elect : yX9_elect.cls ≠ "java/lang/invoke/MethodHandle" ∧ yX9_elect.cls ≠ "java/lang/invoke/VarHandle" ∧ (parseMethodDescriptor yX9_elect.desc).map (fun d => d.parameters.length) = some 1 := by decide +kernel
set_option maxHeartbeats 4000000 in
set_option maxRecDepth 100000 in
theorem c_X9_elect (l : Launch) (D : va_G) (cy : Nat → ClassId) (A : Nat → Prop) (ad : gA) (L : gL)  (σ : gS) (hT : (9, 0) ∈ L) (a1 : Int64) (σ0 : gS) (hf : f_X9_elect ad σ a1 = some σ0) : g_Mv l yX9_elect cX9_elect 5 none ({ frames := 2, cells := 0, slots := 0, locals := 44 } : Room) D cy A ad L σ [.ref (ad 9 0), .long a1] σ0 := by
  refine g_met (by decide) (Nat.le_of_ble_eq_true rfl) (fun p e s m below meth c C hr hlocks hnm G ls hl => ?_)
  have hl : lv_has ls 5 [(0, .ref (ad 9 0)), (1, .long a1)] := hl
  have pt139 : ∀ (σ : gS) (H : Heap) (locs : List Loc) (ls : Array Slot), g_H D cy A ad L σ s.heap H locs → lv_has ls 5 [] → f_X9_elect_P139 σ = some σ0 → g_Wv p l e ({ frames := 2, cells := 0, slots := 0, locals := 44 } : Room) s m below meth c H locs 0 0 D cy A ad L [.ref (ad 9 0), .long a1] σ0 (F0 m 139 ls []) := by
    intro σ H locs ls G hl hf
    unfold f_X9_elect_P139 at hf
    exact g_evi C G hr hlocks hf dX9_elect_139
  have lp30 : ∀ n30 : Nat, ∀ (σ : gS) (H : Heap) (locs : List Loc) (ls : Array Slot), g_H D cy A ad L σ s.heap H locs → lv_has ls 5 [(0, .ref (ad 9 0))] → f_X9_elect_L30 ad (f_X9_elect_P139) n30 σ = some σ0 → g_Wv p l e ({ frames := 2, cells := 0, slots := 0, locals := 44 } : Room) s m below meth c H locs 0 0 D cy A ad L [.ref (ad 9 0), .long a1] σ0 (F0 m 30 ls []) := by
    intro n30
    induction n30 with
    | zero =>
      intro σ H locs ls G hl hf
      rw [f_X9_elect_L30] at hf
      cases hf
    | succ n30 ih30 =>
      have pt129 : ∀ (σ : gS) (v3 : Int32) (H : Heap) (locs : List Loc) (ls : Array Slot), g_H D cy A ad L σ s.heap H locs → lv_has ls 5 [(0, .ref (ad 9 0)), (3, .int v3)] → f_X9_elect_P129 ad (f_X9_elect_L30 ad (f_X9_elect_P139) n30) σ v3 = some σ0 → g_Wv p l e ({ frames := 2, cells := 0, slots := 0, locals := 44 } : Room) s m below meth c H locs 0 0 D cy A ad L [.ref (ad 9 0), .long a1] σ0 (F0 m 129 ls []) := by
        intro σ v3 H locs ls G hl hf
        unfold f_X9_elect_P129 at hf
        refine lv_aload_n C.x C.b dX9_elect_129 rfl (lv_at hl 0 rfl) ?_
        refine lv_iload_n C.x C.b dX9_elect_130 rfl (lv_at hl 1 rfl) ?_
        refine lv_bipush (v := (35 : Int32)) C.x C.b dX9_elect_131 (by decide) ?_
        obtain ⟨σ18, eσ18, hf⟩ := g_b hf
        refine g_callv G (g_runV (As := [.int v3, .int (35 : Int32)]) (rest := []) C G 9 0 (c_X9_choose l D cy A ad L σ hT v3 (35 : Int32) σ18 eσ18) ⟨tw1305, tw60, tw1302, ⟨tw1304, tw48⟩, hd_X9_choose⟩ (by decide) hT rfl ⟨rfl, by decide⟩ hl.1 rfl (Nat.le_of_ble_eq_true rfl) dX9_elect_133 ⟨Nat.le_of_ble_eq_true rfl, Nat.le_of_ble_eq_true rfl⟩) (fun H locs G => ?_)
        refine lv_goto (tgt := 30) C.x C.b dX9_elect_136 (by decide) ?_
        exact ih30 σ18 _ _ ls G (lv_sub hl [0] rfl) hf
      have lp46 : ∀ n46 : Nat, ∀ (σ : gS) (v3 : Int32) (v4 : Int32) (H : Heap) (locs : List Loc) (ls : Array Slot), g_H D cy A ad L σ s.heap H locs → lv_has ls 5 [(0, .ref (ad 9 0)), (3, .int v3), (4, .int v4)] → f_X9_elect_L46 (f_X9_elect_P129 ad (f_X9_elect_L30 ad (f_X9_elect_P139) n30)) n46 σ v3 v4 = some σ0 → g_Wv p l e ({ frames := 2, cells := 0, slots := 0, locals := 44 } : Room) s m below meth c H locs 0 0 D cy A ad L [.ref (ad 9 0), .long a1] σ0 (F0 m 46 ls []) := by
        intro n46
        induction n46 with
        | zero =>
          intro σ v3 v4 H locs ls G hl hf
          rw [f_X9_elect_L46] at hf
          cases hf
        | succ n46 ih46 =>
          intro σ v3 v4 H locs ls G hl hf
          rw [f_X9_elect_L46] at hf
          refine lv_iload C.x C.b dX9_elect_46 (lv_at hl 2 rfl) ?_
          refine lv_aload_n C.x C.b dX9_elect_48 rfl (lv_at hl 0 rfl) ?_
          refine g_geti C G 9 0 29 hT rfl ginX9 (by decide) tw979 dX9_elect_49 ?_
          refine lv_icmp_ge (tgt := 129) C.x C.b dX9_elect_52 (by decide) (fun cb => ?_) (fun cb => ?_)
          · have hf := g_t cb hf
            exact pt129 σ v3 _ _ ls G (lv_sub hl [0, 1] rfl) hf
          · have hf := g_f cb hf
            refine lv_aload_n C.x C.b dX9_elect_55 rfl (lv_at hl 0 rfl) ?_
            refine g_getr C G 9 0 39 79 hT rfl ginX9 (by decide) tw989 dX9_elect_56 (fun hL4 => ?_)
            refine lv_iload C.x C.b dX9_elect_59 (lv_at hl 2 rfl) ?_
            obtain ⟨hi5, hf⟩ := g_ok hf
            refine g_zald (n := 4) C G 79 0 hL4 (by decide) rfl hi5 dX9_elect_61 ?_
            refine lv_if_eq (tgt := 68) C.x C.b dX9_elect_62 (by decide) (fun cb => ?_) (fun cb => ?_)
            · have hf := g_t cb hf
              refine lv_iload_n C.x C.b dX9_elect_68 rfl (lv_at hl 1 rfl) ?_
              refine lv_if_lt (tgt := 120) C.x C.b dX9_elect_69 (by decide) (fun cb => ?_) (fun cb => ?_)
              · have hf := g_t cb hf
                refine lv_iload C.x C.b dX9_elect_120 (lv_at hl 2 rfl) ?_
                refine lv_istore_n (lv' := [(3, .int v4), (0, .ref (ad 9 0)), (4, .int v4)]) C.x C.b dX9_elect_122 rfl hl (by decide) rfl (fun ls hl => ?_)
                refine lv_iinc (v := (v4 + (1 : Int32))) (lv' := [(4, .int (v4 + (1 : Int32))), (3, .int v4), (0, .ref (ad 9 0))]) C.x C.b dX9_elect_123 hl (k := 2) rfl rfl (by decide) rfl (fun ls hl => ?_)
                refine lv_goto (tgt := 46) C.x C.b dX9_elect_126 (by decide) ?_
                exact ih46 σ v4 (v4 + (1 : Int32)) _ _ ls G (lv_sub hl [2, 1, 0] rfl) hf
              · have hf := g_f cb hf
                refine lv_aload_n C.x C.b dX9_elect_72 rfl (lv_at hl 0 rfl) ?_
                refine g_getr C G 9 0 34 74 hT rfl ginX9 (by decide) tw984 dX9_elect_73 (fun hL6 => ?_)
                refine lv_iload C.x C.b dX9_elect_76 (lv_at hl 2 rfl) ?_
                obtain ⟨hi7, hf⟩ := g_ok hf
                refine g_iald (n := 4) C G 74 0 hL6 (by decide) rfl hi7 dX9_elect_78 ?_
                refine lv_aload_n C.x C.b dX9_elect_79 rfl (lv_at hl 0 rfl) ?_
                refine g_getr C G 9 0 34 74 hT rfl ginX9 (by decide) tw984 dX9_elect_80 (fun hL8 => ?_)
                refine lv_iload_n C.x C.b dX9_elect_83 rfl (lv_at hl 1 rfl) ?_
                obtain ⟨hi9, hf⟩ := g_ok hf
                refine g_iald (n := 4) C G 74 0 hL8 (by decide) rfl hi9 dX9_elect_84 ?_
                refine lv_icmp_gt (tgt := 120) C.x C.b dX9_elect_85 (by decide) (fun cb => ?_) (fun cb => ?_)
                · have hf := g_t cb hf
                  refine lv_iload C.x C.b dX9_elect_120 (lv_at hl 2 rfl) ?_
                  refine lv_istore_n (lv' := [(3, .int v4), (0, .ref (ad 9 0)), (4, .int v4)]) C.x C.b dX9_elect_122 rfl hl (by decide) rfl (fun ls hl => ?_)
                  refine lv_iinc (v := (v4 + (1 : Int32))) (lv' := [(4, .int (v4 + (1 : Int32))), (3, .int v4), (0, .ref (ad 9 0))]) C.x C.b dX9_elect_123 hl (k := 2) rfl rfl (by decide) rfl (fun ls hl => ?_)
                  refine lv_goto (tgt := 46) C.x C.b dX9_elect_126 (by decide) ?_
                  exact ih46 σ v4 (v4 + (1 : Int32)) _ _ ls G (lv_sub hl [2, 1, 0] rfl) hf
                · have hf := g_f cb hf
                  refine lv_aload_n C.x C.b dX9_elect_88 rfl (lv_at hl 0 rfl) ?_
                  refine g_getr C G 9 0 34 74 hT rfl ginX9 (by decide) tw984 dX9_elect_89 (fun hL10 => ?_)
                  refine lv_iload C.x C.b dX9_elect_92 (lv_at hl 2 rfl) ?_
                  obtain ⟨hi11, hf⟩ := g_ok hf
                  refine g_iald (n := 4) C G 74 0 hL10 (by decide) rfl hi11 dX9_elect_94 ?_
                  refine lv_aload_n C.x C.b dX9_elect_95 rfl (lv_at hl 0 rfl) ?_
                  refine g_getr C G 9 0 34 74 hT rfl ginX9 (by decide) tw984 dX9_elect_96 (fun hL12 => ?_)
                  refine lv_iload_n C.x C.b dX9_elect_99 rfl (lv_at hl 1 rfl) ?_
                  obtain ⟨hi13, hf⟩ := g_ok hf
                  refine g_iald (n := 4) C G 74 0 hL12 (by decide) rfl hi13 dX9_elect_100 ?_
                  refine lv_icmp_ne (tgt := 123) C.x C.b dX9_elect_101 (by decide) (fun cb => ?_) (fun cb => ?_)
                  · have hf := g_f cb hf
                    refine lv_iinc (v := (v4 + (1 : Int32))) (lv' := [(4, .int (v4 + (1 : Int32))), (0, .ref (ad 9 0)), (3, .int v3)]) C.x C.b dX9_elect_123 hl (k := 2) rfl rfl (by decide) rfl (fun ls hl => ?_)
                    refine lv_goto (tgt := 46) C.x C.b dX9_elect_126 (by decide) ?_
                    exact ih46 σ v3 (v4 + (1 : Int32)) _ _ ls G (lv_sub hl [1, 2, 0] rfl) hf
                  · have hf := g_t cb hf
                    refine lv_aload_n C.x C.b dX9_elect_104 rfl (lv_at hl 0 rfl) ?_
                    refine g_getr C G 9 0 35 75 hT rfl ginX9 (by decide) tw985 dX9_elect_105 (fun hL14 => ?_)
                    refine lv_iload C.x C.b dX9_elect_108 (lv_at hl 2 rfl) ?_
                    obtain ⟨hi15, hf⟩ := g_ok hf
                    refine g_iald (n := 4) C G 75 0 hL14 (by decide) rfl hi15 dX9_elect_110 ?_
                    refine lv_aload_n C.x C.b dX9_elect_111 rfl (lv_at hl 0 rfl) ?_
                    refine g_getr C G 9 0 35 75 hT rfl ginX9 (by decide) tw985 dX9_elect_112 (fun hL16 => ?_)
                    refine lv_iload_n C.x C.b dX9_elect_115 rfl (lv_at hl 1 rfl) ?_
                    obtain ⟨hi17, hf⟩ := g_ok hf
                    refine g_iald (n := 4) C G 75 0 hL16 (by decide) rfl hi17 dX9_elect_116 ?_
                    refine lv_icmp_ge (tgt := 123) C.x C.b dX9_elect_117 (by decide) (fun cb => ?_) (fun cb => ?_)
                    · have hf := g_t cb hf
                      refine lv_iinc (v := (v4 + (1 : Int32))) (lv' := [(4, .int (v4 + (1 : Int32))), (0, .ref (ad 9 0)), (3, .int v3)]) C.x C.b dX9_elect_123 hl (k := 2) rfl rfl (by decide) rfl (fun ls hl => ?_)
                      refine lv_goto (tgt := 46) C.x C.b dX9_elect_126 (by decide) ?_
                      exact ih46 σ v3 (v4 + (1 : Int32)) _ _ ls G (lv_sub hl [1, 2, 0] rfl) hf
                    · have hf := g_f cb hf
                      refine lv_iload C.x C.b dX9_elect_120 (lv_at hl 2 rfl) ?_
                      refine lv_istore_n (lv' := [(3, .int v4), (0, .ref (ad 9 0)), (4, .int v4)]) C.x C.b dX9_elect_122 rfl hl (by decide) rfl (fun ls hl => ?_)
                      refine lv_iinc (v := (v4 + (1 : Int32))) (lv' := [(4, .int (v4 + (1 : Int32))), (3, .int v4), (0, .ref (ad 9 0))]) C.x C.b dX9_elect_123 hl (k := 2) rfl rfl (by decide) rfl (fun ls hl => ?_)
                      refine lv_goto (tgt := 46) C.x C.b dX9_elect_126 (by decide) ?_
                      exact ih46 σ v4 (v4 + (1 : Int32)) _ _ ls G (lv_sub hl [2, 1, 0] rfl) hf
            · have hf := g_f cb hf
              refine lv_goto (tgt := 123) C.x C.b dX9_elect_65 (by decide) ?_
              refine lv_iinc (v := (v4 + (1 : Int32))) (lv' := [(4, .int (v4 + (1 : Int32))), (0, .ref (ad 9 0)), (3, .int v3)]) C.x C.b dX9_elect_123 hl (k := 2) rfl rfl (by decide) rfl (fun ls hl => ?_)
              refine lv_goto (tgt := 46) C.x C.b dX9_elect_126 (by decide) ?_
              exact ih46 σ v3 (v4 + (1 : Int32)) _ _ ls G (lv_sub hl [1, 2, 0] rfl) hf
      intro σ H locs ls G hl hf
      rw [f_X9_elect_L30] at hf
      refine lv_aload_n C.x C.b dX9_elect_30 rfl (lv_at hl 0 rfl) ?_
      refine g_geti C G 9 0 38 hT rfl ginX9 (by decide) tw988 dX9_elect_31 ?_
      refine lv_aload_n C.x C.b dX9_elect_34 rfl (lv_at hl 0 rfl) ?_
      refine g_geti C G 9 0 30 hT rfl ginX9 (by decide) tw980 dX9_elect_35 ?_
      refine lv_icmp_ge (tgt := 139) C.x C.b dX9_elect_38 (by decide) (fun cb => ?_) (fun cb => ?_)
      · have hf := g_t cb hf
        exact pt139 σ _ _ ls G (lv_sub hl [] rfl) hf
      · have hf := g_f cb hf
        refine lv_iconst (v := (-1 : Int32)) C.x C.b dX9_elect_41 (by decide) ?_
        refine lv_istore_n (lv' := [(3, .int (-1 : Int32)), (0, .ref (ad 9 0))]) C.x C.b dX9_elect_42 rfl hl (by decide) rfl (fun ls hl => ?_)
        refine lv_iconst (v := (0 : Int32)) C.x C.b dX9_elect_43 (by decide) ?_
        refine lv_istore (lv' := [(4, .int (0 : Int32)), (3, .int (-1 : Int32)), (0, .ref (ad 9 0))]) C.x C.b dX9_elect_44 hl (by decide) rfl (fun ls hl => ?_)
        exact lp46 g_fuel σ (-1 : Int32) (0 : Int32) _ _ ls G (lv_sub hl [2, 1, 0] rfl) hf
  have lp13 : ∀ n13 : Nat, ∀ (σ : gS) (v3 : Int32) (H : Heap) (locs : List Loc) (ls : Array Slot), g_H D cy A ad L σ s.heap H locs → lv_has ls 5 [(0, .ref (ad 9 0)), (3, .int v3)] → f_X9_elect_L13 ad n13 σ v3 = some σ0 → g_Wv p l e ({ frames := 2, cells := 0, slots := 0, locals := 44 } : Room) s m below meth c H locs 0 0 D cy A ad L [.ref (ad 9 0), .long a1] σ0 (F0 m 13 ls []) := by
    intro n13
    induction n13 with
    | zero =>
      intro σ v3 H locs ls G hl hf
      rw [f_X9_elect_L13] at hf
      cases hf
    | succ n13 ih13 =>
      intro σ v3 H locs ls G hl hf
      rw [f_X9_elect_L13] at hf
      refine lv_iload_n C.x C.b dX9_elect_13 rfl (lv_at hl 1 rfl) ?_
      refine lv_bipush (v := (35 : Int32)) C.x C.b dX9_elect_14 (by decide) ?_
      refine lv_icmp_ge (tgt := 30) C.x C.b dX9_elect_16 (by decide) (fun cb => ?_) (fun cb => ?_)
      · have hf := g_t cb hf
        exact lp30 g_fuel σ _ _ ls G (lv_sub hl [0] rfl) hf
      · have hf := g_f cb hf
        refine lv_aload_n C.x C.b dX9_elect_19 rfl (lv_at hl 0 rfl) ?_
        refine lv_iload_n C.x C.b dX9_elect_20 rfl (lv_at hl 1 rfl) ?_
        obtain ⟨σ3, eσ3, hf⟩ := g_b hf
        refine g_callv G (g_runV (As := [.int v3]) (rest := []) C G 9 0 (c_X9_unitVotes l D cy A ad L σ hT v3 σ3 eσ3) ⟨tw1301, tw60, tw1298, ⟨tw1300, tw47⟩, hd_X9_unitVotes⟩ (by decide) hT rfl ⟨rfl, by decide⟩ hl.1 rfl (Nat.le_of_ble_eq_true rfl) dX9_elect_21 ⟨Nat.le_of_ble_eq_true rfl, Nat.le_of_ble_eq_true rfl⟩) (fun H locs G => ?_)
        refine lv_iinc (v := (v3 + (1 : Int32))) (lv' := [(3, .int (v3 + (1 : Int32))), (0, .ref (ad 9 0))]) C.x C.b dX9_elect_24 hl (k := 1) rfl rfl (by decide) rfl (fun ls hl => ?_)
        refine lv_goto (tgt := 13) C.x C.b dX9_elect_27 (by decide) ?_
        exact ih13 σ3 (v3 + (1 : Int32)) _ _ ls G (lv_sub hl [1, 0] rfl) hf
  unfold f_X9_elect at hf
  refine lv_aload_n C.x C.b dX9_elect_0 rfl (lv_at hl 0 rfl) ?_
  refine lv_bipush (v := (35 : Int32)) C.x C.b dX9_elect_1 (by decide) ?_
  refine lv_lload_n C.x C.b dX9_elect_3 rfl (lv_at hl 1 rfl) ?_
  obtain ⟨σ1, eσ1, hf⟩ := g_b hf
  refine g_callv G (g_runV (As := [.int (35 : Int32), .long a1]) (rest := []) C G 9 0 (c_X9_draw l D cy A ad L σ hT (35 : Int32) a1 σ1 eσ1) ⟨tw1293, tw60, tw1290, ⟨tw1292, tw45⟩, hd_X9_draw⟩ (by decide) hT rfl ⟨rfl, by decide⟩ hl.1 rfl (Nat.le_of_ble_eq_true rfl) dX9_elect_4 ⟨Nat.le_of_ble_eq_true rfl, Nat.le_of_ble_eq_true rfl⟩) (fun H locs G => ?_)
  refine lv_aload_n C.x C.b dX9_elect_7 rfl (lv_at hl 0 rfl) ?_
  obtain ⟨σ2, eσ2, hf⟩ := g_b hf
  refine g_callv G (g_runV (As := []) (rest := []) C G 9 0 (c_X9_beginVotes l D cy A ad L σ1 hT σ2 eσ2) ⟨tw1297, tw60, tw1294, ⟨tw1296, tw46⟩, hd_X9_beginVotes⟩ (by decide) hT rfl ⟨rfl, by decide⟩ hl.1 rfl (Nat.le_of_ble_eq_true rfl) dX9_elect_8 ⟨Nat.le_of_ble_eq_true rfl, Nat.le_of_ble_eq_true rfl⟩) (fun H locs G => ?_)
  refine lv_iconst (v := (0 : Int32)) C.x C.b dX9_elect_11 (by decide) ?_
  refine lv_istore_n (lv' := [(3, .int (0 : Int32)), (0, .ref (ad 9 0)), (1, .long a1)]) C.x C.b dX9_elect_12 rfl hl (by decide) rfl (fun ls hl => ?_)
  exact lp13 g_fuel σ2 (0 : Int32) _ _ ls G (lv_sub hl [1, 0] rfl) hf
def f_X9_elected (ad : gA) (σ : gS) (a1 : Int64) (a3 : Int32) (a4 : Int32) : Option (Int32 × gS) := (if (lg_cmp a1 (0 : Int64)) < 0 then (some ((-1 : Int32), σ)) else ((f_X9_in ad σ a3 (0 : Int32) ((σ 9 0 30) - (1 : Int32))).bind fun q1 => (if q1 = 0 then (some ((-1 : Int32), σ)) else ((f_X9_in ad σ a4 (0 : Int32) (1 : Int32)).bind fun q2 => (if q2 = 0 then (some ((-1 : Int32), σ)) else ((f_X9_elect ad σ a1).bind fun σ3 => (if a4 = 0 then (if g_ix a3 2 then (some ((σ3 76 0 a3.toNatClampNeg), σ3)) else none) else (if g_ix a3 2 then (some ((σ3 77 0 a3.toNatClampNeg), σ3)) else none))))))))
theorem hd_X9_elected : yX9_elected.cls ≠ "java/lang/invoke/MethodHandle" ∧ yX9_elected.cls ≠ "java/lang/invoke/VarHandle" ∧ (parseMethodDescriptor yX9_elected.desc).map (fun d => d.parameters.length) = some 3 := by decide +kernel
set_option maxHeartbeats 4000000 in
set_option maxRecDepth 100000 in
theorem c_X9_elected (l : Launch) (D : va_G) (cy : Nat → ClassId) (A : Nat → Prop) (ad : gA) (L : gL)  (σ : gS) (hT : (9, 0) ∈ L) (a1 : Int64) (a3 : Int32) (a4 : Int32) (r0 : Int32) (σ0 : gS) (hf : f_X9_elected ad σ a1 a3 a4 = some (r0, σ0)) : g_Mi l yX9_elected cX9_elected 5 (some .int) ({ frames := 3, cells := 0, slots := 0, locals := 68 } : Room) D cy A ad L σ [.ref (ad 9 0), .long a1, .int a3, .int a4] r0 σ0 := by
  refine g_met (by decide) (Nat.le_of_ble_eq_true rfl) (fun p e s m below meth c C hr hlocks hnm G ls hl => ?_)
  have hl : lv_has ls 5 [(0, .ref (ad 9 0)), (1, .long a1), (3, .int a3), (4, .int a4)] := hl
  unfold f_X9_elected at hf
  refine lv_lload_n C.x C.b dX9_elected_0 rfl (lv_at hl 1 rfl) ?_
  refine lv_lconst (v := (0 : Int64)) C.x C.b dX9_elected_1 (by decide) ?_
  refine W.lcmp C.x C.b dX9_elected_2 ?_
  refine lv_if_lt (tgt := 32) C.x C.b dX9_elected_3 (by decide) (fun cb => ?_) (fun cb => ?_)
  · have hf := g_t cb hf
    refine lv_iconst (v := (-1 : Int32)) C.x C.b dX9_elected_32 (by decide) ?_
    exact g_eii C G hr hlocks hf dX9_elected_33
  · have hf := g_f cb hf
    refine lv_aload_n C.x C.b dX9_elected_6 rfl (lv_at hl 0 rfl) ?_
    refine lv_iload_n C.x C.b dX9_elected_7 rfl (lv_at hl 2 rfl) ?_
    refine lv_iconst (v := (0 : Int32)) C.x C.b dX9_elected_8 (by decide) ?_
    refine lv_aload_n C.x C.b dX9_elected_9 rfl (lv_at hl 0 rfl) ?_
    refine g_geti C G 9 0 30 hT rfl ginX9 (by decide) tw980 dX9_elected_10 ?_
    refine lv_iconst (v := (1 : Int32)) C.x C.b dX9_elected_13 (by decide) ?_
    refine lv_isub C.x C.b dX9_elected_14 ?_
    obtain ⟨q1, eq1, hf⟩ := g_b hf
    refine g_calli G (g_runV (As := [.int a3, .int (0 : Int32), .int ((σ 9 0 30) - (1 : Int32))]) (rest := []) C G 9 0 (c_X9_in l D cy A ad L σ hT a3 (0 : Int32) ((σ 9 0 30) - (1 : Int32)) q1 eq1) ⟨tw1093, tw60, tw1090, ⟨tw1092, tw18⟩, hd_X9_in⟩ (by decide) hT rfl ⟨rfl, by decide⟩ hl.1 rfl (Nat.le_of_ble_eq_true rfl) dX9_elected_15 ⟨Nat.le_of_ble_eq_true rfl, Nat.le_of_ble_eq_true rfl⟩) (fun H locs G => ?_)
    refine lv_if_eq (tgt := 32) C.x C.b dX9_elected_18 (by decide) (fun cb => ?_) (fun cb => ?_)
    · have hf := g_t cb hf
      refine lv_iconst (v := (-1 : Int32)) C.x C.b dX9_elected_32 (by decide) ?_
      exact g_eii C G hr hlocks hf dX9_elected_33
    · have hf := g_f cb hf
      refine lv_aload_n C.x C.b dX9_elected_21 rfl (lv_at hl 0 rfl) ?_
      refine lv_iload C.x C.b dX9_elected_22 (lv_at hl 3 rfl) ?_
      refine lv_iconst (v := (0 : Int32)) C.x C.b dX9_elected_24 (by decide) ?_
      refine lv_iconst (v := (1 : Int32)) C.x C.b dX9_elected_25 (by decide) ?_
      obtain ⟨q2, eq2, hf⟩ := g_b hf
      refine g_calli G (g_runV (As := [.int a4, .int (0 : Int32), .int (1 : Int32)]) (rest := []) C G 9 0 (c_X9_in l D cy A ad L σ hT a4 (0 : Int32) (1 : Int32) q2 eq2) ⟨tw1093, tw60, tw1090, ⟨tw1092, tw18⟩, hd_X9_in⟩ (by decide) hT rfl ⟨rfl, by decide⟩ hl.1 rfl (Nat.le_of_ble_eq_true rfl) dX9_elected_26 ⟨Nat.le_of_ble_eq_true rfl, Nat.le_of_ble_eq_true rfl⟩) (fun H locs G => ?_)
      refine lv_if_ne (tgt := 34) C.x C.b dX9_elected_29 (by decide) (fun cb => ?_) (fun cb => ?_)
      · have hf := g_f cb hf
        refine lv_aload_n C.x C.b dX9_elected_34 rfl (lv_at hl 0 rfl) ?_
        refine lv_lload_n C.x C.b dX9_elected_35 rfl (lv_at hl 1 rfl) ?_
        obtain ⟨σ3, eσ3, hf⟩ := g_b hf
        refine g_callv G (g_runV (As := [.long a1]) (rest := []) C G 9 0 (c_X9_elect l D cy A ad L σ hT a1 σ3 eσ3) ⟨tw1289, tw60, tw1286, ⟨tw1288, tw44⟩, hd_X9_elect⟩ (by decide) hT rfl ⟨rfl, by decide⟩ hl.1 rfl (Nat.le_of_ble_eq_true rfl) dX9_elected_36 ⟨Nat.le_of_ble_eq_true rfl, Nat.le_of_ble_eq_true rfl⟩) (fun H locs G => ?_)
        refine lv_iload C.x C.b dX9_elected_39 (lv_at hl 3 rfl) ?_
        refine lv_if_ne (tgt := 53) C.x C.b dX9_elected_41 (by decide) (fun cb => ?_) (fun cb => ?_)
        · have hf := g_f cb hf
          refine lv_aload_n C.x C.b dX9_elected_53 rfl (lv_at hl 0 rfl) ?_
          refine g_getr C G 9 0 37 77 hT rfl ginX9 (by decide) tw987 dX9_elected_54 (fun hL4 => ?_)
          refine lv_iload_n C.x C.b dX9_elected_57 rfl (lv_at hl 2 rfl) ?_
          obtain ⟨hi5, hf⟩ := g_ok hf
          refine g_iald (n := 2) C G 77 0 hL4 (by decide) rfl hi5 dX9_elected_58 ?_
          exact g_eii C G hr hlocks hf dX9_elected_59
        · have hf := g_t cb hf
          refine lv_aload_n C.x C.b dX9_elected_44 rfl (lv_at hl 0 rfl) ?_
          refine g_getr C G 9 0 36 76 hT rfl ginX9 (by decide) tw986 dX9_elected_45 (fun hL6 => ?_)
          refine lv_iload_n C.x C.b dX9_elected_48 rfl (lv_at hl 2 rfl) ?_
          obtain ⟨hi7, hf⟩ := g_ok hf
          refine g_iald (n := 2) C G 76 0 hL6 (by decide) rfl hi7 dX9_elected_49 ?_
          refine lv_goto (tgt := 59) C.x C.b dX9_elected_50 (by decide) ?_
          exact g_eii C G hr hlocks hf dX9_elected_59
      · have hf := g_t cb hf
        refine lv_iconst (v := (-1 : Int32)) C.x C.b dX9_elected_32 (by decide) ?_
        exact g_eii C G hr hlocks hf dX9_elected_33
def f_X9_ahead_P123 (v1 : Int32) (v2 : Int32) : Option Int32 := (some (v1 - v2))
def f_X9_ahead_P83 (σ : gS) (rec6 : Int32 → Int32 → Int32 → Option Int32) (v1 : Int32) (v2 : Int32) (v3 : Int32) (v4 : Int32) : Option Int32 := (if v4 = ((σ 9 0 30) - (1 : Int32)) then (if g_ix v3 4 then (if v4 = (σ 9 0 30) then (if g_ix v3 4 then (rec6 (σ 74 0 v3.toNatClampNeg) (σ 74 0 v3.toNatClampNeg) (v3 + (1 : Int32))) else none) else (rec6 (σ 74 0 v3.toNatClampNeg) v2 (v3 + (1 : Int32)))) else none) else (if v4 = (σ 9 0 30) then (if g_ix v3 4 then (rec6 v1 (σ 74 0 v3.toNatClampNeg) (v3 + (1 : Int32))) else none) else (rec6 v1 v2 (v3 + (1 : Int32)))))
def f_X9_ahead_L20 (σ : gS) (K20 : Int32 → Int32 → Int32 → Int32 → Option Int32) : Nat → Int32 → Int32 → Int32 → Int32 → Int32 → Option Int32
  | 0, _, _, _, _, _ => none
  | n + 1, v1, v2, v3, v4, v5 => (if (σ 9 0 29) ≤ v5 then (K20 v1 v2 v3 v4) else (if g_ix v5 4 then (if g_ix v3 4 then (if (σ 74 0 v3.toNatClampNeg) < (σ 74 0 v5.toNatClampNeg) then (f_X9_ahead_L20 σ K20 n v1 v2 v3 (v4 + (1 : Int32)) (v5 + (1 : Int32))) else (if g_ix v5 4 then (if g_ix v3 4 then (if (σ 74 0 v5.toNatClampNeg) = (σ 74 0 v3.toNatClampNeg) then (if v3 ≤ v5 then (f_X9_ahead_L20 σ K20 n v1 v2 v3 (v4 + (0 : Int32)) (v5 + (1 : Int32))) else (f_X9_ahead_L20 σ K20 n v1 v2 v3 (v4 + (1 : Int32)) (v5 + (1 : Int32)))) else (f_X9_ahead_L20 σ K20 n v1 v2 v3 (v4 + (0 : Int32)) (v5 + (1 : Int32)))) else none) else none)) else none) else none))
def f_X9_ahead_L6 (σ : gS) (K6 : Int32 → Int32 → Option Int32) : Nat → Int32 → Int32 → Int32 → Option Int32
  | 0, _, _, _ => none
  | n + 1, v1, v2, v3 => (if (σ 9 0 29) ≤ v3 then (K6 v1 v2) else (f_X9_ahead_L20 σ (f_X9_ahead_P83 σ (f_X9_ahead_L6 σ K6 n)) g_fuel v1 v2 v3 (0 : Int32) (0 : Int32)))
def f_X9_ahead (ad : gA) (σ : gS) : Option Int32 := (f_X9_ahead_L6 σ (f_X9_ahead_P123) g_fuel (0 : Int32) (0 : Int32) (0 : Int32))
theorem hd_X9_ahead : yX9_ahead.cls ≠ "java/lang/invoke/MethodHandle" ∧ yX9_ahead.cls ≠ "java/lang/invoke/VarHandle" ∧ (parseMethodDescriptor yX9_ahead.desc).map (fun d => d.parameters.length) = some 0 := by decide +kernel
set_option maxHeartbeats 4000000 in
set_option maxRecDepth 100000 in
theorem c_X9_ahead (l : Launch) (D : va_G) (cy : Nat → ClassId) (A : Nat → Prop) (ad : gA) (L : gL)  (σ : gS) (hT : (9, 0) ∈ L) (r0 : Int32) (hf : f_X9_ahead ad σ = some r0) : g_Mi l yX9_ahead cX9_ahead 6 (some .int) ({ frames := 0, cells := 0, slots := 0, locals := 0 } : Room) D cy A ad L σ [.ref (ad 9 0)] r0 σ := by
  refine g_met (by decide) (Nat.le_of_ble_eq_true rfl) (fun p e s m below meth c C hr hlocks hnm G ls hl => ?_)
  have hl : lv_has ls 6 [(0, .ref (ad 9 0))] := hl
  have pt123 : ∀ (v1 : Int32) (v2 : Int32) (H : Heap) (locs : List Loc) (ls : Array Slot), g_H D cy A ad L σ s.heap H locs → lv_has ls 6 [(1, .int v1), (2, .int v2)] → f_X9_ahead_P123 v1 v2 = some r0 → g_Wi p l e ({ frames := 0, cells := 0, slots := 0, locals := 0 } : Room) s m below meth c H locs 0 0 D cy A ad L [.ref (ad 9 0)] r0 σ (F0 m 123 ls []) := by
    intro v1 v2 H locs ls G hl hf
    unfold f_X9_ahead_P123 at hf
    refine lv_iload_n C.x C.b dX9_ahead_123 rfl (lv_at hl 0 rfl) ?_
    refine lv_iload_n C.x C.b dX9_ahead_124 rfl (lv_at hl 1 rfl) ?_
    refine lv_isub C.x C.b dX9_ahead_125 ?_
    exact g_eip C G hr hlocks hf dX9_ahead_126
  have lp6 : ∀ n6 : Nat, ∀ (v1 : Int32) (v2 : Int32) (v3 : Int32) (H : Heap) (locs : List Loc) (ls : Array Slot), g_H D cy A ad L σ s.heap H locs → lv_has ls 6 [(0, .ref (ad 9 0)), (1, .int v1), (2, .int v2), (3, .int v3)] → f_X9_ahead_L6 σ (f_X9_ahead_P123) n6 v1 v2 v3 = some r0 → g_Wi p l e ({ frames := 0, cells := 0, slots := 0, locals := 0 } : Room) s m below meth c H locs 0 0 D cy A ad L [.ref (ad 9 0)] r0 σ (F0 m 6 ls []) := by
    intro n6
    induction n6 with
    | zero =>
      intro v1 v2 v3 H locs ls G hl hf
      rw [f_X9_ahead_L6] at hf
      cases hf
    | succ n6 ih6 =>
      have pt83 : ∀ (v1 : Int32) (v2 : Int32) (v3 : Int32) (v4 : Int32) (H : Heap) (locs : List Loc) (ls : Array Slot), g_H D cy A ad L σ s.heap H locs → lv_has ls 6 [(0, .ref (ad 9 0)), (1, .int v1), (2, .int v2), (3, .int v3), (4, .int v4)] → f_X9_ahead_P83 σ (f_X9_ahead_L6 σ (f_X9_ahead_P123) n6) v1 v2 v3 v4 = some r0 → g_Wi p l e ({ frames := 0, cells := 0, slots := 0, locals := 0 } : Room) s m below meth c H locs 0 0 D cy A ad L [.ref (ad 9 0)] r0 σ (F0 m 83 ls []) := by
        intro v1 v2 v3 v4 H locs ls G hl hf
        unfold f_X9_ahead_P83 at hf
        refine lv_iload C.x C.b dX9_ahead_83 (lv_at hl 4 rfl) ?_
        refine lv_aload_n C.x C.b dX9_ahead_85 rfl (lv_at hl 0 rfl) ?_
        refine g_geti C G 9 0 30 hT rfl ginX9 (by decide) tw980 dX9_ahead_86 ?_
        refine lv_iconst (v := (1 : Int32)) C.x C.b dX9_ahead_89 (by decide) ?_
        refine lv_isub C.x C.b dX9_ahead_90 ?_
        refine lv_icmp_ne (tgt := 101) C.x C.b dX9_ahead_91 (by decide) (fun cb => ?_) (fun cb => ?_)
        · have hf := g_f cb hf
          refine lv_iload C.x C.b dX9_ahead_101 (lv_at hl 4 rfl) ?_
          refine lv_aload_n C.x C.b dX9_ahead_103 rfl (lv_at hl 0 rfl) ?_
          refine g_geti C G 9 0 30 hT rfl ginX9 (by decide) tw980 dX9_ahead_104 ?_
          refine lv_icmp_ne (tgt := 117) C.x C.b dX9_ahead_107 (by decide) (fun cb => ?_) (fun cb => ?_)
          · have hf := g_f cb hf
            refine lv_iinc (v := (v3 + (1 : Int32))) (lv' := [(3, .int (v3 + (1 : Int32))), (0, .ref (ad 9 0)), (1, .int v1), (2, .int v2), (4, .int v4)]) C.x C.b dX9_ahead_117 hl (k := 3) rfl rfl (by decide) rfl (fun ls hl => ?_)
            refine lv_goto (tgt := 6) C.x C.b dX9_ahead_120 (by decide) ?_
            exact ih6 v1 v2 (v3 + (1 : Int32)) _ _ ls G (lv_sub hl [1, 2, 3, 0] rfl) hf
          · have hf := g_t cb hf
            refine lv_aload_n C.x C.b dX9_ahead_110 rfl (lv_at hl 0 rfl) ?_
            refine g_getr C G 9 0 34 74 hT rfl ginX9 (by decide) tw984 dX9_ahead_111 (fun hL9 => ?_)
            refine lv_iload_n C.x C.b dX9_ahead_114 rfl (lv_at hl 3 rfl) ?_
            obtain ⟨hi10, hf⟩ := g_ok hf
            refine g_iald (n := 4) C G 74 0 hL9 (by decide) rfl hi10 dX9_ahead_115 ?_
            refine lv_istore_n (lv' := [(2, .int (σ 74 0 v3.toNatClampNeg)), (0, .ref (ad 9 0)), (1, .int v1), (3, .int v3), (4, .int v4)]) C.x C.b dX9_ahead_116 rfl hl (by decide) rfl (fun ls hl => ?_)
            refine lv_iinc (v := (v3 + (1 : Int32))) (lv' := [(3, .int (v3 + (1 : Int32))), (2, .int (σ 74 0 v3.toNatClampNeg)), (0, .ref (ad 9 0)), (1, .int v1), (4, .int v4)]) C.x C.b dX9_ahead_117 hl (k := 3) rfl rfl (by decide) rfl (fun ls hl => ?_)
            refine lv_goto (tgt := 6) C.x C.b dX9_ahead_120 (by decide) ?_
            exact ih6 v1 (σ 74 0 v3.toNatClampNeg) (v3 + (1 : Int32)) _ _ ls G (lv_sub hl [2, 3, 1, 0] rfl) hf
        · have hf := g_t cb hf
          refine lv_aload_n C.x C.b dX9_ahead_94 rfl (lv_at hl 0 rfl) ?_
          refine g_getr C G 9 0 34 74 hT rfl ginX9 (by decide) tw984 dX9_ahead_95 (fun hL11 => ?_)
          refine lv_iload_n C.x C.b dX9_ahead_98 rfl (lv_at hl 3 rfl) ?_
          obtain ⟨hi12, hf⟩ := g_ok hf
          refine g_iald (n := 4) C G 74 0 hL11 (by decide) rfl hi12 dX9_ahead_99 ?_
          refine lv_istore_n (lv' := [(1, .int (σ 74 0 v3.toNatClampNeg)), (0, .ref (ad 9 0)), (2, .int v2), (3, .int v3), (4, .int v4)]) C.x C.b dX9_ahead_100 rfl hl (by decide) rfl (fun ls hl => ?_)
          refine lv_iload C.x C.b dX9_ahead_101 (lv_at hl 4 rfl) ?_
          refine lv_aload_n C.x C.b dX9_ahead_103 rfl (lv_at hl 1 rfl) ?_
          refine g_geti C G 9 0 30 hT rfl ginX9 (by decide) tw980 dX9_ahead_104 ?_
          refine lv_icmp_ne (tgt := 117) C.x C.b dX9_ahead_107 (by decide) (fun cb => ?_) (fun cb => ?_)
          · have hf := g_f cb hf
            refine lv_iinc (v := (v3 + (1 : Int32))) (lv' := [(3, .int (v3 + (1 : Int32))), (1, .int (σ 74 0 v3.toNatClampNeg)), (0, .ref (ad 9 0)), (2, .int v2), (4, .int v4)]) C.x C.b dX9_ahead_117 hl (k := 3) rfl rfl (by decide) rfl (fun ls hl => ?_)
            refine lv_goto (tgt := 6) C.x C.b dX9_ahead_120 (by decide) ?_
            exact ih6 (σ 74 0 v3.toNatClampNeg) v2 (v3 + (1 : Int32)) _ _ ls G (lv_sub hl [2, 1, 3, 0] rfl) hf
          · have hf := g_t cb hf
            refine lv_aload_n C.x C.b dX9_ahead_110 rfl (lv_at hl 1 rfl) ?_
            refine g_getr C G 9 0 34 74 hT rfl ginX9 (by decide) tw984 dX9_ahead_111 (fun hL13 => ?_)
            refine lv_iload_n C.x C.b dX9_ahead_114 rfl (lv_at hl 3 rfl) ?_
            obtain ⟨hi14, hf⟩ := g_ok hf
            refine g_iald (n := 4) C G 74 0 hL13 (by decide) rfl hi14 dX9_ahead_115 ?_
            refine lv_istore_n (lv' := [(2, .int (σ 74 0 v3.toNatClampNeg)), (1, .int (σ 74 0 v3.toNatClampNeg)), (0, .ref (ad 9 0)), (3, .int v3), (4, .int v4)]) C.x C.b dX9_ahead_116 rfl hl (by decide) rfl (fun ls hl => ?_)
            refine lv_iinc (v := (v3 + (1 : Int32))) (lv' := [(3, .int (v3 + (1 : Int32))), (2, .int (σ 74 0 v3.toNatClampNeg)), (1, .int (σ 74 0 v3.toNatClampNeg)), (0, .ref (ad 9 0)), (4, .int v4)]) C.x C.b dX9_ahead_117 hl (k := 3) rfl rfl (by decide) rfl (fun ls hl => ?_)
            refine lv_goto (tgt := 6) C.x C.b dX9_ahead_120 (by decide) ?_
            exact ih6 (σ 74 0 v3.toNatClampNeg) (σ 74 0 v3.toNatClampNeg) (v3 + (1 : Int32)) _ _ ls G (lv_sub hl [3, 2, 1, 0] rfl) hf
      have lp20 : ∀ n20 : Nat, ∀ (v1 : Int32) (v2 : Int32) (v3 : Int32) (v4 : Int32) (v5 : Int32) (H : Heap) (locs : List Loc) (ls : Array Slot), g_H D cy A ad L σ s.heap H locs → lv_has ls 6 [(0, .ref (ad 9 0)), (1, .int v1), (2, .int v2), (3, .int v3), (4, .int v4), (5, .int v5)] → f_X9_ahead_L20 σ (f_X9_ahead_P83 σ (f_X9_ahead_L6 σ (f_X9_ahead_P123) n6)) n20 v1 v2 v3 v4 v5 = some r0 → g_Wi p l e ({ frames := 0, cells := 0, slots := 0, locals := 0 } : Room) s m below meth c H locs 0 0 D cy A ad L [.ref (ad 9 0)] r0 σ (F0 m 20 ls []) := by
        intro n20
        induction n20 with
        | zero =>
          intro v1 v2 v3 v4 v5 H locs ls G hl hf
          rw [f_X9_ahead_L20] at hf
          cases hf
        | succ n20 ih20 =>
          intro v1 v2 v3 v4 v5 H locs ls G hl hf
          rw [f_X9_ahead_L20] at hf
          refine lv_iload C.x C.b dX9_ahead_20 (lv_at hl 5 rfl) ?_
          refine lv_aload_n C.x C.b dX9_ahead_22 rfl (lv_at hl 0 rfl) ?_
          refine g_geti C G 9 0 29 hT rfl ginX9 (by decide) tw979 dX9_ahead_23 ?_
          refine lv_icmp_ge (tgt := 83) C.x C.b dX9_ahead_26 (by decide) (fun cb => ?_) (fun cb => ?_)
          · have hf := g_t cb hf
            exact pt83 v1 v2 v3 v4 _ _ ls G (lv_sub hl [0, 1, 2, 3, 4] rfl) hf
          · have hf := g_f cb hf
            refine lv_iload C.x C.b dX9_ahead_29 (lv_at hl 4 rfl) ?_
            refine lv_aload_n C.x C.b dX9_ahead_31 rfl (lv_at hl 0 rfl) ?_
            refine g_getr C G 9 0 34 74 hT rfl ginX9 (by decide) tw984 dX9_ahead_32 (fun hL1 => ?_)
            refine lv_iload C.x C.b dX9_ahead_35 (lv_at hl 5 rfl) ?_
            obtain ⟨hi2, hf⟩ := g_ok hf
            refine g_iald (n := 4) C G 74 0 hL1 (by decide) rfl hi2 dX9_ahead_37 ?_
            refine lv_aload_n C.x C.b dX9_ahead_38 rfl (lv_at hl 0 rfl) ?_
            refine g_getr C G 9 0 34 74 hT rfl ginX9 (by decide) tw984 dX9_ahead_39 (fun hL3 => ?_)
            refine lv_iload_n C.x C.b dX9_ahead_42 rfl (lv_at hl 3 rfl) ?_
            obtain ⟨hi4, hf⟩ := g_ok hf
            refine g_iald (n := 4) C G 74 0 hL3 (by decide) rfl hi4 dX9_ahead_43 ?_
            refine lv_icmp_gt (tgt := 69) C.x C.b dX9_ahead_44 (by decide) (fun cb => ?_) (fun cb => ?_)
            · have hf := g_t cb hf
              refine lv_iconst (v := (1 : Int32)) C.x C.b dX9_ahead_69 (by decide) ?_
              refine lv_goto (tgt := 74) C.x C.b dX9_ahead_70 (by decide) ?_
              refine lv_iadd C.x C.b dX9_ahead_74 ?_
              refine lv_istore (lv' := [(4, .int (v4 + (1 : Int32))), (0, .ref (ad 9 0)), (1, .int v1), (2, .int v2), (3, .int v3), (5, .int v5)]) C.x C.b dX9_ahead_75 hl (by decide) rfl (fun ls hl => ?_)
              refine lv_iinc (v := (v5 + (1 : Int32))) (lv' := [(5, .int (v5 + (1 : Int32))), (4, .int (v4 + (1 : Int32))), (0, .ref (ad 9 0)), (1, .int v1), (2, .int v2), (3, .int v3)]) C.x C.b dX9_ahead_77 hl (k := 5) rfl rfl (by decide) rfl (fun ls hl => ?_)
              refine lv_goto (tgt := 20) C.x C.b dX9_ahead_80 (by decide) ?_
              exact ih20 v1 v2 v3 (v4 + (1 : Int32)) (v5 + (1 : Int32)) _ _ ls G (lv_sub hl [2, 3, 4, 5, 1, 0] rfl) hf
            · have hf := g_f cb hf
              refine lv_aload_n C.x C.b dX9_ahead_47 rfl (lv_at hl 0 rfl) ?_
              refine g_getr C G 9 0 34 74 hT rfl ginX9 (by decide) tw984 dX9_ahead_48 (fun hL5 => ?_)
              refine lv_iload C.x C.b dX9_ahead_51 (lv_at hl 5 rfl) ?_
              obtain ⟨hi6, hf⟩ := g_ok hf
              refine g_iald (n := 4) C G 74 0 hL5 (by decide) rfl hi6 dX9_ahead_53 ?_
              refine lv_aload_n C.x C.b dX9_ahead_54 rfl (lv_at hl 0 rfl) ?_
              refine g_getr C G 9 0 34 74 hT rfl ginX9 (by decide) tw984 dX9_ahead_55 (fun hL7 => ?_)
              refine lv_iload_n C.x C.b dX9_ahead_58 rfl (lv_at hl 3 rfl) ?_
              obtain ⟨hi8, hf⟩ := g_ok hf
              refine g_iald (n := 4) C G 74 0 hL7 (by decide) rfl hi8 dX9_ahead_59 ?_
              refine lv_icmp_ne (tgt := 73) C.x C.b dX9_ahead_60 (by decide) (fun cb => ?_) (fun cb => ?_)
              · have hf := g_f cb hf
                refine lv_iconst (v := (0 : Int32)) C.x C.b dX9_ahead_73 (by decide) ?_
                refine lv_iadd C.x C.b dX9_ahead_74 ?_
                refine lv_istore (lv' := [(4, .int (v4 + (0 : Int32))), (0, .ref (ad 9 0)), (1, .int v1), (2, .int v2), (3, .int v3), (5, .int v5)]) C.x C.b dX9_ahead_75 hl (by decide) rfl (fun ls hl => ?_)
                refine lv_iinc (v := (v5 + (1 : Int32))) (lv' := [(5, .int (v5 + (1 : Int32))), (4, .int (v4 + (0 : Int32))), (0, .ref (ad 9 0)), (1, .int v1), (2, .int v2), (3, .int v3)]) C.x C.b dX9_ahead_77 hl (k := 5) rfl rfl (by decide) rfl (fun ls hl => ?_)
                refine lv_goto (tgt := 20) C.x C.b dX9_ahead_80 (by decide) ?_
                exact ih20 v1 v2 v3 (v4 + (0 : Int32)) (v5 + (1 : Int32)) _ _ ls G (lv_sub hl [2, 3, 4, 5, 1, 0] rfl) hf
              · have hf := g_t cb hf
                refine lv_iload C.x C.b dX9_ahead_63 (lv_at hl 5 rfl) ?_
                refine lv_iload_n C.x C.b dX9_ahead_65 rfl (lv_at hl 3 rfl) ?_
                refine lv_icmp_ge (tgt := 73) C.x C.b dX9_ahead_66 (by decide) (fun cb => ?_) (fun cb => ?_)
                · have hf := g_t cb hf
                  refine lv_iconst (v := (0 : Int32)) C.x C.b dX9_ahead_73 (by decide) ?_
                  refine lv_iadd C.x C.b dX9_ahead_74 ?_
                  refine lv_istore (lv' := [(4, .int (v4 + (0 : Int32))), (0, .ref (ad 9 0)), (1, .int v1), (2, .int v2), (3, .int v3), (5, .int v5)]) C.x C.b dX9_ahead_75 hl (by decide) rfl (fun ls hl => ?_)
                  refine lv_iinc (v := (v5 + (1 : Int32))) (lv' := [(5, .int (v5 + (1 : Int32))), (4, .int (v4 + (0 : Int32))), (0, .ref (ad 9 0)), (1, .int v1), (2, .int v2), (3, .int v3)]) C.x C.b dX9_ahead_77 hl (k := 5) rfl rfl (by decide) rfl (fun ls hl => ?_)
                  refine lv_goto (tgt := 20) C.x C.b dX9_ahead_80 (by decide) ?_
                  exact ih20 v1 v2 v3 (v4 + (0 : Int32)) (v5 + (1 : Int32)) _ _ ls G (lv_sub hl [2, 3, 4, 5, 1, 0] rfl) hf
                · have hf := g_f cb hf
                  refine lv_iconst (v := (1 : Int32)) C.x C.b dX9_ahead_69 (by decide) ?_
                  refine lv_goto (tgt := 74) C.x C.b dX9_ahead_70 (by decide) ?_
                  refine lv_iadd C.x C.b dX9_ahead_74 ?_
                  refine lv_istore (lv' := [(4, .int (v4 + (1 : Int32))), (0, .ref (ad 9 0)), (1, .int v1), (2, .int v2), (3, .int v3), (5, .int v5)]) C.x C.b dX9_ahead_75 hl (by decide) rfl (fun ls hl => ?_)
                  refine lv_iinc (v := (v5 + (1 : Int32))) (lv' := [(5, .int (v5 + (1 : Int32))), (4, .int (v4 + (1 : Int32))), (0, .ref (ad 9 0)), (1, .int v1), (2, .int v2), (3, .int v3)]) C.x C.b dX9_ahead_77 hl (k := 5) rfl rfl (by decide) rfl (fun ls hl => ?_)
                  refine lv_goto (tgt := 20) C.x C.b dX9_ahead_80 (by decide) ?_
                  exact ih20 v1 v2 v3 (v4 + (1 : Int32)) (v5 + (1 : Int32)) _ _ ls G (lv_sub hl [2, 3, 4, 5, 1, 0] rfl) hf
      intro v1 v2 v3 H locs ls G hl hf
      rw [f_X9_ahead_L6] at hf
      refine lv_iload_n C.x C.b dX9_ahead_6 rfl (lv_at hl 3 rfl) ?_
      refine lv_aload_n C.x C.b dX9_ahead_7 rfl (lv_at hl 0 rfl) ?_
      refine g_geti C G 9 0 29 hT rfl ginX9 (by decide) tw979 dX9_ahead_8 ?_
      refine lv_icmp_ge (tgt := 123) C.x C.b dX9_ahead_11 (by decide) (fun cb => ?_) (fun cb => ?_)
      · have hf := g_t cb hf
        exact pt123 v1 v2 _ _ ls G (lv_sub hl [1, 2] rfl) hf
      · have hf := g_f cb hf
        refine lv_iconst (v := (0 : Int32)) C.x C.b dX9_ahead_14 (by decide) ?_
        refine lv_istore (lv' := [(4, .int (0 : Int32)), (0, .ref (ad 9 0)), (1, .int v1), (2, .int v2), (3, .int v3)]) C.x C.b dX9_ahead_15 hl (by decide) rfl (fun ls hl => ?_)
        refine lv_iconst (v := (0 : Int32)) C.x C.b dX9_ahead_17 (by decide) ?_
        refine lv_istore (lv' := [(5, .int (0 : Int32)), (4, .int (0 : Int32)), (0, .ref (ad 9 0)), (1, .int v1), (2, .int v2), (3, .int v3)]) C.x C.b dX9_ahead_18 hl (by decide) rfl (fun ls hl => ?_)
        exact lp20 g_fuel v1 v2 v3 (0 : Int32) (0 : Int32) _ _ ls G (lv_sub hl [2, 3, 4, 5, 1, 0] rfl) hf
  unfold f_X9_ahead at hf
  refine lv_iconst (v := (0 : Int32)) C.x C.b dX9_ahead_0 (by decide) ?_
  refine lv_istore_n (lv' := [(1, .int (0 : Int32)), (0, .ref (ad 9 0))]) C.x C.b dX9_ahead_1 rfl hl (by decide) rfl (fun ls hl => ?_)
  refine lv_iconst (v := (0 : Int32)) C.x C.b dX9_ahead_2 (by decide) ?_
  refine lv_istore_n (lv' := [(2, .int (0 : Int32)), (1, .int (0 : Int32)), (0, .ref (ad 9 0))]) C.x C.b dX9_ahead_3 rfl hl (by decide) rfl (fun ls hl => ?_)
  refine lv_iconst (v := (0 : Int32)) C.x C.b dX9_ahead_4 (by decide) ?_
  refine lv_istore_n (lv' := [(3, .int (0 : Int32)), (2, .int (0 : Int32)), (1, .int (0 : Int32)), (0, .ref (ad 9 0))]) C.x C.b dX9_ahead_5 rfl hl (by decide) rfl (fun ls hl => ?_)
  exact lp6 g_fuel (0 : Int32) (0 : Int32) (0 : Int32) _ _ ls G (lv_sub hl [3, 2, 1, 0] rfl) hf
def f_X9_sure_P62 (σ : gS) : Option (Int32 × gS) := (some ((35 : Int32), σ))
def f_X9_sure_L21 (ad : gA) (K21 : gS → Option (Int32 × gS)) : Nat → gS → Int32 → Option (Int32 × gS)
  | 0, _, _ => none
  | n + 1, σ, v3 => (if (35 : Int32) ≤ v3 then (K21 σ) else (if (σ 9 0 38) = (σ 9 0 30) then (some (v3, σ)) else ((f_X9_ahead ad σ).bind fun q3 => (if q3 < ((35 : Int32) - v3) then ((f_X9_unitVotes ad σ v3).bind fun σ4 => (f_X9_sure_L21 ad K21 n σ4 (v3 + (1 : Int32)))) else (some (v3, σ))))))
def f_X9_sure (ad : gA) (σ : gS) (a1 : Int64) : Option (Int32 × gS) := (if 0 ≤ (lg_cmp a1 (0 : Int64)) then ((f_X9_draw ad σ (35 : Int32) a1).bind fun σ1 => ((f_X9_beginVotes ad σ1).bind fun σ2 => (f_X9_sure_L21 ad (f_X9_sure_P62) g_fuel σ2 (0 : Int32)))) else (some ((-1 : Int32), σ)))
theorem hd_X9_sure : yX9_sure.cls ≠ "java/lang/invoke/MethodHandle" ∧ yX9_sure.cls ≠ "java/lang/invoke/VarHandle" ∧ (parseMethodDescriptor yX9_sure.desc).map (fun d => d.parameters.length) = some 1 := by decide +kernel
set_option maxHeartbeats 4000000 in
set_option maxRecDepth 100000 in
theorem c_X9_sure (l : Launch) (D : va_G) (cy : Nat → ClassId) (A : Nat → Prop) (ad : gA) (L : gL)  (σ : gS) (hT : (9, 0) ∈ L) (a1 : Int64) (r0 : Int32) (σ0 : gS) (hf : f_X9_sure ad σ a1 = some (r0, σ0)) : g_Mi l yX9_sure cX9_sure 4 (some .int) ({ frames := 2, cells := 0, slots := 0, locals := 44 } : Room) D cy A ad L σ [.ref (ad 9 0), .long a1] r0 σ0 := by
  refine g_met (by decide) (Nat.le_of_ble_eq_true rfl) (fun p e s m below meth c C hr hlocks hnm G ls hl => ?_)
  have hl : lv_has ls 4 [(0, .ref (ad 9 0)), (1, .long a1)] := hl
  have pt62 : ∀ (σ : gS) (H : Heap) (locs : List Loc) (ls : Array Slot), g_H D cy A ad L σ s.heap H locs → lv_has ls 4 [] → f_X9_sure_P62 σ = some (r0, σ0) → g_Wi p l e ({ frames := 2, cells := 0, slots := 0, locals := 44 } : Room) s m below meth c H locs 0 0 D cy A ad L [.ref (ad 9 0), .long a1] r0 σ0 (F0 m 62 ls []) := by
    intro σ H locs ls G hl hf
    unfold f_X9_sure_P62 at hf
    refine lv_bipush (v := (35 : Int32)) C.x C.b dX9_sure_62 (by decide) ?_
    exact g_eii C G hr hlocks hf dX9_sure_64
  have lp21 : ∀ n21 : Nat, ∀ (σ : gS) (v3 : Int32) (H : Heap) (locs : List Loc) (ls : Array Slot), g_H D cy A ad L σ s.heap H locs → lv_has ls 4 [(0, .ref (ad 9 0)), (3, .int v3)] → f_X9_sure_L21 ad (f_X9_sure_P62) n21 σ v3 = some (r0, σ0) → g_Wi p l e ({ frames := 2, cells := 0, slots := 0, locals := 44 } : Room) s m below meth c H locs 0 0 D cy A ad L [.ref (ad 9 0), .long a1] r0 σ0 (F0 m 21 ls []) := by
    intro n21
    induction n21 with
    | zero =>
      intro σ v3 H locs ls G hl hf
      rw [f_X9_sure_L21] at hf
      cases hf
    | succ n21 ih21 =>
      intro σ v3 H locs ls G hl hf
      rw [f_X9_sure_L21] at hf
      refine lv_iload_n C.x C.b dX9_sure_21 rfl (lv_at hl 1 rfl) ?_
      refine lv_bipush (v := (35 : Int32)) C.x C.b dX9_sure_22 (by decide) ?_
      refine lv_icmp_ge (tgt := 62) C.x C.b dX9_sure_24 (by decide) (fun cb => ?_) (fun cb => ?_)
      · have hf := g_t cb hf
        exact pt62 σ _ _ ls G (lv_sub hl [] rfl) hf
      · have hf := g_f cb hf
        refine lv_aload_n C.x C.b dX9_sure_27 rfl (lv_at hl 0 rfl) ?_
        refine g_geti C G 9 0 38 hT rfl ginX9 (by decide) tw988 dX9_sure_28 ?_
        refine lv_aload_n C.x C.b dX9_sure_31 rfl (lv_at hl 0 rfl) ?_
        refine g_geti C G 9 0 30 hT rfl ginX9 (by decide) tw980 dX9_sure_32 ?_
        refine lv_icmp_eq (tgt := 49) C.x C.b dX9_sure_35 (by decide) (fun cb => ?_) (fun cb => ?_)
        · have hf := g_t cb hf
          refine lv_iload_n C.x C.b dX9_sure_49 rfl (lv_at hl 1 rfl) ?_
          exact g_eii C G hr hlocks hf dX9_sure_50
        · have hf := g_f cb hf
          refine lv_aload_n C.x C.b dX9_sure_38 rfl (lv_at hl 0 rfl) ?_
          obtain ⟨q3, eq3, hf⟩ := g_b hf
          refine g_calli G (g_runV (As := []) (rest := []) C G 9 0 (c_X9_ahead l D cy A ad L σ hT q3 eq3) ⟨tw1313, tw60, tw1310, ⟨tw1312, tw49⟩, hd_X9_ahead⟩ (by decide) hT rfl ⟨rfl, by decide⟩ hl.1 rfl (Nat.le_of_ble_eq_true rfl) dX9_sure_39 ⟨Nat.le_of_ble_eq_true rfl, Nat.le_of_ble_eq_true rfl⟩) (fun H locs G => ?_)
          refine lv_bipush (v := (35 : Int32)) C.x C.b dX9_sure_42 (by decide) ?_
          refine lv_iload_n C.x C.b dX9_sure_44 rfl (lv_at hl 1 rfl) ?_
          refine lv_isub C.x C.b dX9_sure_45 ?_
          refine lv_icmp_lt (tgt := 51) C.x C.b dX9_sure_46 (by decide) (fun cb => ?_) (fun cb => ?_)
          · have hf := g_t cb hf
            refine lv_aload_n C.x C.b dX9_sure_51 rfl (lv_at hl 0 rfl) ?_
            refine lv_iload_n C.x C.b dX9_sure_52 rfl (lv_at hl 1 rfl) ?_
            obtain ⟨σ4, eσ4, hf⟩ := g_b hf
            refine g_callv G (g_runV (As := [.int v3]) (rest := []) C G 9 0 (c_X9_unitVotes l D cy A ad L σ hT v3 σ4 eσ4) ⟨tw1301, tw60, tw1298, ⟨tw1300, tw47⟩, hd_X9_unitVotes⟩ (by decide) hT rfl ⟨rfl, by decide⟩ hl.1 rfl (Nat.le_of_ble_eq_true rfl) dX9_sure_53 ⟨Nat.le_of_ble_eq_true rfl, Nat.le_of_ble_eq_true rfl⟩) (fun H locs G => ?_)
            refine lv_iinc (v := (v3 + (1 : Int32))) (lv' := [(3, .int (v3 + (1 : Int32))), (0, .ref (ad 9 0))]) C.x C.b dX9_sure_56 hl (k := 1) rfl rfl (by decide) rfl (fun ls hl => ?_)
            refine lv_goto (tgt := 21) C.x C.b dX9_sure_59 (by decide) ?_
            exact ih21 σ4 (v3 + (1 : Int32)) _ _ ls G (lv_sub hl [1, 0] rfl) hf
          · have hf := g_f cb hf
            refine lv_iload_n C.x C.b dX9_sure_49 rfl (lv_at hl 1 rfl) ?_
            exact g_eii C G hr hlocks hf dX9_sure_50
  unfold f_X9_sure at hf
  refine lv_lload_n C.x C.b dX9_sure_0 rfl (lv_at hl 1 rfl) ?_
  refine lv_lconst (v := (0 : Int64)) C.x C.b dX9_sure_1 (by decide) ?_
  refine W.lcmp C.x C.b dX9_sure_2 ?_
  refine lv_if_ge (tgt := 8) C.x C.b dX9_sure_3 (by decide) (fun cb => ?_) (fun cb => ?_)
  · have hf := g_t cb hf
    refine lv_aload_n C.x C.b dX9_sure_8 rfl (lv_at hl 0 rfl) ?_
    refine lv_bipush (v := (35 : Int32)) C.x C.b dX9_sure_9 (by decide) ?_
    refine lv_lload_n C.x C.b dX9_sure_11 rfl (lv_at hl 1 rfl) ?_
    obtain ⟨σ1, eσ1, hf⟩ := g_b hf
    refine g_callv G (g_runV (As := [.int (35 : Int32), .long a1]) (rest := []) C G 9 0 (c_X9_draw l D cy A ad L σ hT (35 : Int32) a1 σ1 eσ1) ⟨tw1293, tw60, tw1290, ⟨tw1292, tw45⟩, hd_X9_draw⟩ (by decide) hT rfl ⟨rfl, by decide⟩ hl.1 rfl (Nat.le_of_ble_eq_true rfl) dX9_sure_12 ⟨Nat.le_of_ble_eq_true rfl, Nat.le_of_ble_eq_true rfl⟩) (fun H locs G => ?_)
    refine lv_aload_n C.x C.b dX9_sure_15 rfl (lv_at hl 0 rfl) ?_
    obtain ⟨σ2, eσ2, hf⟩ := g_b hf
    refine g_callv G (g_runV (As := []) (rest := []) C G 9 0 (c_X9_beginVotes l D cy A ad L σ1 hT σ2 eσ2) ⟨tw1297, tw60, tw1294, ⟨tw1296, tw46⟩, hd_X9_beginVotes⟩ (by decide) hT rfl ⟨rfl, by decide⟩ hl.1 rfl (Nat.le_of_ble_eq_true rfl) dX9_sure_16 ⟨Nat.le_of_ble_eq_true rfl, Nat.le_of_ble_eq_true rfl⟩) (fun H locs G => ?_)
    refine lv_iconst (v := (0 : Int32)) C.x C.b dX9_sure_19 (by decide) ?_
    refine lv_istore_n (lv' := [(3, .int (0 : Int32)), (0, .ref (ad 9 0)), (1, .long a1)]) C.x C.b dX9_sure_20 rfl hl (by decide) rfl (fun ls hl => ?_)
    exact lp21 g_fuel σ2 (0 : Int32) _ _ ls G (lv_sub hl [1, 0] rfl) hf
  · have hf := g_f cb hf
    refine lv_iconst (v := (-1 : Int32)) C.x C.b dX9_sure_6 (by decide) ?_
    exact g_eii C G hr hlocks hf dX9_sure_7
def f_X9_drawn (ad : gA) (σ : gS) (a1 : Int32) (a2 : Int64) (a4 : Int32) : Option (Int32 × gS) := ((f_X9_in ad σ a1 (1 : Int32) (35 : Int32)).bind fun q1 => (if q1 = 0 then (some ((-1 : Int32), σ)) else (if (lg_cmp a2 (0 : Int64)) < 0 then (some ((-1 : Int32), σ)) else ((f_X9_in ad σ a4 (0 : Int32) (a1 - (1 : Int32))).bind fun q2 => (if q2 = 0 then (some ((-1 : Int32), σ)) else ((f_X9_draw ad σ a1 a2).bind fun σ3 => (if g_ix a4 35 then (some ((σ3 72 0 a4.toNatClampNeg), σ3)) else none)))))))
theorem hd_X9_drawn : yX9_drawn.cls ≠ "java/lang/invoke/MethodHandle" ∧ yX9_drawn.cls ≠ "java/lang/invoke/VarHandle" ∧ (parseMethodDescriptor yX9_drawn.desc).map (fun d => d.parameters.length) = some 3 := by decide +kernel
set_option maxHeartbeats 4000000 in
set_option maxRecDepth 100000 in
theorem c_X9_drawn (l : Launch) (D : va_G) (cy : Nat → ClassId) (A : Nat → Prop) (ad : gA) (L : gL)  (σ : gS) (hT : (9, 0) ∈ L) (a1 : Int32) (a2 : Int64) (a4 : Int32) (r0 : Int32) (σ0 : gS) (hf : f_X9_drawn ad σ a1 a2 a4 = some (r0, σ0)) : g_Mi l yX9_drawn cX9_drawn 5 (some .int) ({ frames := 1, cells := 0, slots := 0, locals := 29 } : Room) D cy A ad L σ [.ref (ad 9 0), .int a1, .long a2, .int a4] r0 σ0 := by
  refine g_met (by decide) (Nat.le_of_ble_eq_true rfl) (fun p e s m below meth c C hr hlocks hnm G ls hl => ?_)
  have hl : lv_has ls 5 [(0, .ref (ad 9 0)), (1, .int a1), (2, .long a2), (4, .int a4)] := hl
  unfold f_X9_drawn at hf
  refine lv_aload_n C.x C.b dX9_drawn_0 rfl (lv_at hl 0 rfl) ?_
  refine lv_iload_n C.x C.b dX9_drawn_1 rfl (lv_at hl 1 rfl) ?_
  refine lv_iconst (v := (1 : Int32)) C.x C.b dX9_drawn_2 (by decide) ?_
  refine lv_bipush (v := (35 : Int32)) C.x C.b dX9_drawn_3 (by decide) ?_
  obtain ⟨q1, eq1, hf⟩ := g_b hf
  refine g_calli G (g_runV (As := [.int a1, .int (1 : Int32), .int (35 : Int32)]) (rest := []) C G 9 0 (c_X9_in l D cy A ad L σ hT a1 (1 : Int32) (35 : Int32) q1 eq1) ⟨tw1093, tw60, tw1090, ⟨tw1092, tw18⟩, hd_X9_in⟩ (by decide) hT rfl ⟨rfl, by decide⟩ hl.1 rfl (Nat.le_of_ble_eq_true rfl) dX9_drawn_5 ⟨Nat.le_of_ble_eq_true rfl, Nat.le_of_ble_eq_true rfl⟩) (fun H locs G => ?_)
  refine lv_if_eq (tgt := 30) C.x C.b dX9_drawn_8 (by decide) (fun cb => ?_) (fun cb => ?_)
  · have hf := g_t cb hf
    refine lv_iconst (v := (-1 : Int32)) C.x C.b dX9_drawn_30 (by decide) ?_
    exact g_eii C G hr hlocks hf dX9_drawn_31
  · have hf := g_f cb hf
    refine lv_lload_n C.x C.b dX9_drawn_11 rfl (lv_at hl 2 rfl) ?_
    refine lv_lconst (v := (0 : Int64)) C.x C.b dX9_drawn_12 (by decide) ?_
    refine W.lcmp C.x C.b dX9_drawn_13 ?_
    refine lv_if_lt (tgt := 30) C.x C.b dX9_drawn_14 (by decide) (fun cb => ?_) (fun cb => ?_)
    · have hf := g_t cb hf
      refine lv_iconst (v := (-1 : Int32)) C.x C.b dX9_drawn_30 (by decide) ?_
      exact g_eii C G hr hlocks hf dX9_drawn_31
    · have hf := g_f cb hf
      refine lv_aload_n C.x C.b dX9_drawn_17 rfl (lv_at hl 0 rfl) ?_
      refine lv_iload C.x C.b dX9_drawn_18 (lv_at hl 3 rfl) ?_
      refine lv_iconst (v := (0 : Int32)) C.x C.b dX9_drawn_20 (by decide) ?_
      refine lv_iload_n C.x C.b dX9_drawn_21 rfl (lv_at hl 1 rfl) ?_
      refine lv_iconst (v := (1 : Int32)) C.x C.b dX9_drawn_22 (by decide) ?_
      refine lv_isub C.x C.b dX9_drawn_23 ?_
      obtain ⟨q2, eq2, hf⟩ := g_b hf
      refine g_calli G (g_runV (As := [.int a4, .int (0 : Int32), .int (a1 - (1 : Int32))]) (rest := []) C G 9 0 (c_X9_in l D cy A ad L σ hT a4 (0 : Int32) (a1 - (1 : Int32)) q2 eq2) ⟨tw1093, tw60, tw1090, ⟨tw1092, tw18⟩, hd_X9_in⟩ (by decide) hT rfl ⟨rfl, by decide⟩ hl.1 rfl (Nat.le_of_ble_eq_true rfl) dX9_drawn_24 ⟨Nat.le_of_ble_eq_true rfl, Nat.le_of_ble_eq_true rfl⟩) (fun H locs G => ?_)
      refine lv_if_ne (tgt := 32) C.x C.b dX9_drawn_27 (by decide) (fun cb => ?_) (fun cb => ?_)
      · have hf := g_f cb hf
        refine lv_aload_n C.x C.b dX9_drawn_32 rfl (lv_at hl 0 rfl) ?_
        refine lv_iload_n C.x C.b dX9_drawn_33 rfl (lv_at hl 1 rfl) ?_
        refine lv_lload_n C.x C.b dX9_drawn_34 rfl (lv_at hl 2 rfl) ?_
        obtain ⟨σ3, eσ3, hf⟩ := g_b hf
        refine g_callv G (g_runV (As := [.int a1, .long a2]) (rest := []) C G 9 0 (c_X9_draw l D cy A ad L σ hT a1 a2 σ3 eσ3) ⟨tw1293, tw60, tw1290, ⟨tw1292, tw45⟩, hd_X9_draw⟩ (by decide) hT rfl ⟨rfl, by decide⟩ hl.1 rfl (Nat.le_of_ble_eq_true rfl) dX9_drawn_35 ⟨Nat.le_of_ble_eq_true rfl, Nat.le_of_ble_eq_true rfl⟩) (fun H locs G => ?_)
        refine lv_aload_n C.x C.b dX9_drawn_38 rfl (lv_at hl 0 rfl) ?_
        refine g_getr C G 9 0 32 72 hT rfl ginX9 (by decide) tw982 dX9_drawn_39 (fun hL4 => ?_)
        refine lv_iload C.x C.b dX9_drawn_42 (lv_at hl 3 rfl) ?_
        obtain ⟨hi5, hf⟩ := g_ok hf
        refine g_iald (n := 35) C G 72 0 hL4 (by decide) rfl hi5 dX9_drawn_44 ?_
        exact g_eii C G hr hlocks hf dX9_drawn_45
      · have hf := g_t cb hf
        refine lv_iconst (v := (-1 : Int32)) C.x C.b dX9_drawn_30 (by decide) ?_
        exact g_eii C G hr hlocks hf dX9_drawn_31
def f_X9_province_P93 (ad : gA) (a4 : Int32) (a5 : Int64) (σ : gS) (v7 : Int32) : Option (Int32 × gS) := ((f_X9_draw ad σ a4 a5).bind fun σ9 => (if a4 ≤ v7 then (some ((-2 : Int32), σ9)) else (if g_ix v7 35 then (some ((σ9 72 0 v7.toNatClampNeg), σ9)) else none)))
def f_X9_province_L55 (ad : gA) (a1 : Int32) (a2 : Int32) (a3 : Int32) (K55 : gS → Int32 → Option (Int32 × gS)) : Nat → gS → Int32 → Int32 → Option (Int32 × gS)
  | 0, _, _, _ => none
  | n + 1, σ, v7, v8 => (if a3 ≤ v8 then (K55 σ v7) else ((f_X9_at ad σ a1 a2 v8).bind fun q7 => (if g_ix q7 4800 then (if 0 ≤ (σ 58 0 q7.toNatClampNeg) then (f_X9_province_L55 ad a1 a2 a3 K55 n σ (v7 + (1 : Int32)) (v8 + (1 : Int32))) else (f_X9_province_L55 ad a1 a2 a3 K55 n σ (v7 + (0 : Int32)) (v8 + (1 : Int32)))) else none)))
def f_X9_province (ad : gA) (σ : gS) (a1 : Int32) (a2 : Int32) (a3 : Int32) (a4 : Int32) (a5 : Int64) : Option (Int32 × gS) := ((f_X9_isSeat ad σ a1 a2 a3).bind fun q1 => (if q1 = 0 then (some ((-1 : Int32), σ)) else ((f_X9_in ad σ a4 (1 : Int32) (9 : Int32)).bind fun q2 => (if q2 = 0 then (some ((-1 : Int32), σ)) else (if 0 ≤ (lg_cmp a5 (0 : Int64)) then ((f_X9_at ad σ a1 a2 a3).bind fun q4 => (if g_ix q4 4800 then (if 0 ≤ (σ 58 0 q4.toNatClampNeg) then (f_X9_province_L55 ad a1 a2 a3 (f_X9_province_P93 ad a4 a5) g_fuel σ (0 : Int32) (0 : Int32)) else (some ((-3 : Int32), σ))) else none)) else (some ((-1 : Int32), σ)))))))
theorem hd_X9_province : yX9_province.cls ≠ "java/lang/invoke/MethodHandle" ∧ yX9_province.cls ≠ "java/lang/invoke/VarHandle" ∧ (parseMethodDescriptor yX9_province.desc).map (fun d => d.parameters.length) = some 5 := by decide +kernel
set_option maxHeartbeats 4000000 in
set_option maxRecDepth 100000 in
theorem c_X9_province (l : Launch) (D : va_G) (cy : Nat → ClassId) (A : Nat → Prop) (ad : gA) (L : gL)  (σ : gS) (hT : (9, 0) ∈ L) (a1 : Int32) (a2 : Int32) (a3 : Int32) (a4 : Int32) (a5 : Int64) (r0 : Int32) (σ0 : gS) (hf : f_X9_province ad σ a1 a2 a3 a4 a5 = some (r0, σ0)) : g_Mi l yX9_province cX9_province 9 (some .int) ({ frames := 3, cells := 0, slots := 0, locals := 67 } : Room) D cy A ad L σ [.ref (ad 9 0), .int a1, .int a2, .int a3, .int a4, .long a5] r0 σ0 := by
  refine g_met (by decide) (Nat.le_of_ble_eq_true rfl) (fun p e s m below meth c C hr hlocks hnm G ls hl => ?_)
  have hl : lv_has ls 9 [(0, .ref (ad 9 0)), (1, .int a1), (2, .int a2), (3, .int a3), (4, .int a4), (5, .long a5)] := hl
  have pt93 : ∀ (σ : gS) (v7 : Int32) (H : Heap) (locs : List Loc) (ls : Array Slot), g_H D cy A ad L σ s.heap H locs → lv_has ls 9 [(0, .ref (ad 9 0)), (4, .int a4), (5, .long a5), (7, .int v7)] → f_X9_province_P93 ad a4 a5 σ v7 = some (r0, σ0) → g_Wi p l e ({ frames := 3, cells := 0, slots := 0, locals := 67 } : Room) s m below meth c H locs 0 0 D cy A ad L [.ref (ad 9 0), .int a1, .int a2, .int a3, .int a4, .long a5] r0 σ0 (F0 m 93 ls []) := by
    intro σ v7 H locs ls G hl hf
    unfold f_X9_province_P93 at hf
    refine lv_aload_n C.x C.b dX9_province_93 rfl (lv_at hl 0 rfl) ?_
    refine lv_iload C.x C.b dX9_province_94 (lv_at hl 1 rfl) ?_
    refine lv_lload C.x C.b dX9_province_96 (lv_at hl 2 rfl) ?_
    obtain ⟨σ9, eσ9, hf⟩ := g_b hf
    refine g_callv G (g_runV (As := [.int a4, .long a5]) (rest := []) C G 9 0 (c_X9_draw l D cy A ad L σ hT a4 a5 σ9 eσ9) ⟨tw1293, tw60, tw1290, ⟨tw1292, tw45⟩, hd_X9_draw⟩ (by decide) hT rfl ⟨rfl, by decide⟩ hl.1 rfl (Nat.le_of_ble_eq_true rfl) dX9_province_98 ⟨Nat.le_of_ble_eq_true rfl, Nat.le_of_ble_eq_true rfl⟩) (fun H locs G => ?_)
    refine lv_iload C.x C.b dX9_province_101 (lv_at hl 3 rfl) ?_
    refine lv_iload C.x C.b dX9_province_103 (lv_at hl 1 rfl) ?_
    refine lv_icmp_ge (tgt := 118) C.x C.b dX9_province_105 (by decide) (fun cb => ?_) (fun cb => ?_)
    · have hf := g_t cb hf
      refine lv_bipush (v := (-2 : Int32)) C.x C.b dX9_province_118 (by decide) ?_
      exact g_eii C G hr hlocks hf dX9_province_120
    · have hf := g_f cb hf
      refine lv_aload_n C.x C.b dX9_province_108 rfl (lv_at hl 0 rfl) ?_
      refine g_getr C G 9 0 32 72 hT rfl ginX9 (by decide) tw982 dX9_province_109 (fun hL10 => ?_)
      refine lv_iload C.x C.b dX9_province_112 (lv_at hl 3 rfl) ?_
      obtain ⟨hi11, hf⟩ := g_ok hf
      refine g_iald (n := 35) C G 72 0 hL10 (by decide) rfl hi11 dX9_province_114 ?_
      refine lv_goto (tgt := 120) C.x C.b dX9_province_115 (by decide) ?_
      exact g_eii C G hr hlocks hf dX9_province_120
  have lp55 : ∀ n55 : Nat, ∀ (σ : gS) (v7 : Int32) (v8 : Int32) (H : Heap) (locs : List Loc) (ls : Array Slot), g_H D cy A ad L σ s.heap H locs → lv_has ls 9 [(0, .ref (ad 9 0)), (1, .int a1), (2, .int a2), (3, .int a3), (4, .int a4), (5, .long a5), (7, .int v7), (8, .int v8)] → f_X9_province_L55 ad a1 a2 a3 (f_X9_province_P93 ad a4 a5) n55 σ v7 v8 = some (r0, σ0) → g_Wi p l e ({ frames := 3, cells := 0, slots := 0, locals := 67 } : Room) s m below meth c H locs 0 0 D cy A ad L [.ref (ad 9 0), .int a1, .int a2, .int a3, .int a4, .long a5] r0 σ0 (F0 m 55 ls []) := by
    intro n55
    induction n55 with
    | zero =>
      intro σ v7 v8 H locs ls G hl hf
      rw [f_X9_province_L55] at hf
      cases hf
    | succ n55 ih55 =>
      intro σ v7 v8 H locs ls G hl hf
      rw [f_X9_province_L55] at hf
      refine lv_iload C.x C.b dX9_province_55 (lv_at hl 7 rfl) ?_
      refine lv_iload_n C.x C.b dX9_province_57 rfl (lv_at hl 3 rfl) ?_
      refine lv_icmp_ge (tgt := 93) C.x C.b dX9_province_58 (by decide) (fun cb => ?_) (fun cb => ?_)
      · have hf := g_t cb hf
        exact pt93 σ v7 _ _ ls G (lv_sub hl [0, 4, 5, 6] rfl) hf
      · have hf := g_f cb hf
        refine lv_iload C.x C.b dX9_province_61 (lv_at hl 6 rfl) ?_
        refine lv_aload_n C.x C.b dX9_province_63 rfl (lv_at hl 0 rfl) ?_
        refine g_getr C G 9 0 18 58 hT rfl ginX9 (by decide) tw968 dX9_province_64 (fun hL6 => ?_)
        refine lv_aload_n C.x C.b dX9_province_67 rfl (lv_at hl 0 rfl) ?_
        refine lv_iload_n C.x C.b dX9_province_68 rfl (lv_at hl 1 rfl) ?_
        refine lv_iload_n C.x C.b dX9_province_69 rfl (lv_at hl 2 rfl) ?_
        refine lv_iload C.x C.b dX9_province_70 (lv_at hl 7 rfl) ?_
        obtain ⟨q7, eq7, hf⟩ := g_b hf
        refine g_calli G (g_runV (As := [.int a1, .int a2, .int v8]) (rest := [.ref (ad 58 0), .int v7]) C G 9 0 (c_X9_at l D cy A ad L σ hT a1 a2 v8 q7 eq7) ⟨tw1141, tw60, tw1138, ⟨tw1140, tw23⟩, hd_X9_at⟩ (by decide) hT rfl ⟨rfl, by decide⟩ hl.1 rfl (Nat.le_of_ble_eq_true rfl) dX9_province_72 ⟨Nat.le_of_ble_eq_true rfl, Nat.le_of_ble_eq_true rfl⟩) (fun H locs G => ?_)
        obtain ⟨hi8, hf⟩ := g_ok hf
        refine g_iald (n := 4800) C G 58 0 hL6 (by decide) rfl hi8 dX9_province_75 ?_
        refine lv_if_ge (tgt := 83) C.x C.b dX9_province_76 (by decide) (fun cb => ?_) (fun cb => ?_)
        · have hf := g_t cb hf
          refine lv_iconst (v := (1 : Int32)) C.x C.b dX9_province_83 (by decide) ?_
          refine lv_iadd C.x C.b dX9_province_84 ?_
          refine lv_istore (lv' := [(7, .int (v7 + (1 : Int32))), (0, .ref (ad 9 0)), (1, .int a1), (2, .int a2), (3, .int a3), (4, .int a4), (5, .long a5), (8, .int v8)]) C.x C.b dX9_province_85 hl (by decide) rfl (fun ls hl => ?_)
          refine lv_iinc (v := (v8 + (1 : Int32))) (lv' := [(8, .int (v8 + (1 : Int32))), (7, .int (v7 + (1 : Int32))), (0, .ref (ad 9 0)), (1, .int a1), (2, .int a2), (3, .int a3), (4, .int a4), (5, .long a5)]) C.x C.b dX9_province_87 hl (k := 7) rfl rfl (by decide) rfl (fun ls hl => ?_)
          refine lv_goto (tgt := 55) C.x C.b dX9_province_90 (by decide) ?_
          exact ih55 σ (v7 + (1 : Int32)) (v8 + (1 : Int32)) _ _ ls G (lv_sub hl [2, 3, 4, 5, 6, 7, 1, 0] rfl) hf
        · have hf := g_f cb hf
          refine lv_iconst (v := (0 : Int32)) C.x C.b dX9_province_79 (by decide) ?_
          refine lv_goto (tgt := 84) C.x C.b dX9_province_80 (by decide) ?_
          refine lv_iadd C.x C.b dX9_province_84 ?_
          refine lv_istore (lv' := [(7, .int (v7 + (0 : Int32))), (0, .ref (ad 9 0)), (1, .int a1), (2, .int a2), (3, .int a3), (4, .int a4), (5, .long a5), (8, .int v8)]) C.x C.b dX9_province_85 hl (by decide) rfl (fun ls hl => ?_)
          refine lv_iinc (v := (v8 + (1 : Int32))) (lv' := [(8, .int (v8 + (1 : Int32))), (7, .int (v7 + (0 : Int32))), (0, .ref (ad 9 0)), (1, .int a1), (2, .int a2), (3, .int a3), (4, .int a4), (5, .long a5)]) C.x C.b dX9_province_87 hl (k := 7) rfl rfl (by decide) rfl (fun ls hl => ?_)
          refine lv_goto (tgt := 55) C.x C.b dX9_province_90 (by decide) ?_
          exact ih55 σ (v7 + (0 : Int32)) (v8 + (1 : Int32)) _ _ ls G (lv_sub hl [2, 3, 4, 5, 6, 7, 1, 0] rfl) hf
  unfold f_X9_province at hf
  refine lv_aload_n C.x C.b dX9_province_0 rfl (lv_at hl 0 rfl) ?_
  refine lv_iload_n C.x C.b dX9_province_1 rfl (lv_at hl 1 rfl) ?_
  refine lv_iload_n C.x C.b dX9_province_2 rfl (lv_at hl 2 rfl) ?_
  refine lv_iload_n C.x C.b dX9_province_3 rfl (lv_at hl 3 rfl) ?_
  obtain ⟨q1, eq1, hf⟩ := g_b hf
  refine g_calli G (g_runV (As := [.int a1, .int a2, .int a3]) (rest := []) C G 9 0 (c_X9_isSeat l D cy A ad L σ hT a1 a2 a3 q1 eq1) ⟨tw1153, tw60, tw1150, ⟨tw1152, tw25⟩, hd_X9_isSeat⟩ (by decide) hT rfl ⟨rfl, by decide⟩ hl.1 rfl (Nat.le_of_ble_eq_true rfl) dX9_province_4 ⟨Nat.le_of_ble_eq_true rfl, Nat.le_of_ble_eq_true rfl⟩) (fun H locs G => ?_)
  refine lv_if_eq (tgt := 29) C.x C.b dX9_province_7 (by decide) (fun cb => ?_) (fun cb => ?_)
  · have hf := g_t cb hf
    refine lv_iconst (v := (-1 : Int32)) C.x C.b dX9_province_29 (by decide) ?_
    exact g_eii C G hr hlocks hf dX9_province_30
  · have hf := g_f cb hf
    refine lv_aload_n C.x C.b dX9_province_10 rfl (lv_at hl 0 rfl) ?_
    refine lv_iload C.x C.b dX9_province_11 (lv_at hl 4 rfl) ?_
    refine lv_iconst (v := (1 : Int32)) C.x C.b dX9_province_13 (by decide) ?_
    refine lv_bipush (v := (9 : Int32)) C.x C.b dX9_province_14 (by decide) ?_
    obtain ⟨q2, eq2, hf⟩ := g_b hf
    refine g_calli G (g_runV (As := [.int a4, .int (1 : Int32), .int (9 : Int32)]) (rest := []) C G 9 0 (c_X9_in l D cy A ad L σ hT a4 (1 : Int32) (9 : Int32) q2 eq2) ⟨tw1093, tw60, tw1090, ⟨tw1092, tw18⟩, hd_X9_in⟩ (by decide) hT rfl ⟨rfl, by decide⟩ hl.1 rfl (Nat.le_of_ble_eq_true rfl) dX9_province_16 ⟨Nat.le_of_ble_eq_true rfl, Nat.le_of_ble_eq_true rfl⟩) (fun H locs G => ?_)
    refine lv_if_eq (tgt := 29) C.x C.b dX9_province_19 (by decide) (fun cb => ?_) (fun cb => ?_)
    · have hf := g_t cb hf
      refine lv_iconst (v := (-1 : Int32)) C.x C.b dX9_province_29 (by decide) ?_
      exact g_eii C G hr hlocks hf dX9_province_30
    · have hf := g_f cb hf
      refine lv_lload C.x C.b dX9_province_22 (lv_at hl 5 rfl) ?_
      refine lv_lconst (v := (0 : Int64)) C.x C.b dX9_province_24 (by decide) ?_
      refine W.lcmp C.x C.b dX9_province_25 ?_
      refine lv_if_ge (tgt := 31) C.x C.b dX9_province_26 (by decide) (fun cb => ?_) (fun cb => ?_)
      · have hf := g_t cb hf
        refine lv_aload_n C.x C.b dX9_province_31 rfl (lv_at hl 0 rfl) ?_
        refine g_getr C G 9 0 18 58 hT rfl ginX9 (by decide) tw968 dX9_province_32 (fun hL3 => ?_)
        refine lv_aload_n C.x C.b dX9_province_35 rfl (lv_at hl 0 rfl) ?_
        refine lv_iload_n C.x C.b dX9_province_36 rfl (lv_at hl 1 rfl) ?_
        refine lv_iload_n C.x C.b dX9_province_37 rfl (lv_at hl 2 rfl) ?_
        refine lv_iload_n C.x C.b dX9_province_38 rfl (lv_at hl 3 rfl) ?_
        obtain ⟨q4, eq4, hf⟩ := g_b hf
        refine g_calli G (g_runV (As := [.int a1, .int a2, .int a3]) (rest := [.ref (ad 58 0)]) C G 9 0 (c_X9_at l D cy A ad L σ hT a1 a2 a3 q4 eq4) ⟨tw1141, tw60, tw1138, ⟨tw1140, tw23⟩, hd_X9_at⟩ (by decide) hT rfl ⟨rfl, by decide⟩ hl.1 rfl (Nat.le_of_ble_eq_true rfl) dX9_province_39 ⟨Nat.le_of_ble_eq_true rfl, Nat.le_of_ble_eq_true rfl⟩) (fun H locs G => ?_)
        obtain ⟨hi5, hf⟩ := g_ok hf
        refine g_iald (n := 4800) C G 58 0 hL3 (by decide) rfl hi5 dX9_province_42 ?_
        refine lv_if_ge (tgt := 49) C.x C.b dX9_province_43 (by decide) (fun cb => ?_) (fun cb => ?_)
        · have hf := g_t cb hf
          refine lv_iconst (v := (0 : Int32)) C.x C.b dX9_province_49 (by decide) ?_
          refine lv_istore (lv' := [(7, .int (0 : Int32)), (0, .ref (ad 9 0)), (1, .int a1), (2, .int a2), (3, .int a3), (4, .int a4), (5, .long a5)]) C.x C.b dX9_province_50 hl (by decide) rfl (fun ls hl => ?_)
          refine lv_iconst (v := (0 : Int32)) C.x C.b dX9_province_52 (by decide) ?_
          refine lv_istore (lv' := [(8, .int (0 : Int32)), (7, .int (0 : Int32)), (0, .ref (ad 9 0)), (1, .int a1), (2, .int a2), (3, .int a3), (4, .int a4), (5, .long a5)]) C.x C.b dX9_province_53 hl (by decide) rfl (fun ls hl => ?_)
          exact lp55 g_fuel σ (0 : Int32) (0 : Int32) _ _ ls G (lv_sub hl [2, 3, 4, 5, 6, 7, 1, 0] rfl) hf
        · have hf := g_f cb hf
          refine lv_bipush (v := (-3 : Int32)) C.x C.b dX9_province_46 (by decide) ?_
          exact g_eii C G hr hlocks hf dX9_province_48
      · have hf := g_f cb hf
        refine lv_iconst (v := (-1 : Int32)) C.x C.b dX9_province_29 (by decide) ?_
        exact g_eii C G hr hlocks hf dX9_province_30
def f_X9_count_P101 (v2 : Int32) : Option Int32 := (some v2)
def f_X9_count_L57 (σ : gS) (a1 : Int32) (K57 : Int32 → Option Int32) : Nat → Int32 → Int32 → Option Int32
  | 0, _, _ => none
  | n + 1, v2, v3 => (if (4800 : Int32) ≤ v3 then (K57 v2) else (if g_ix v3 4800 then (if (σ 58 0 v3.toNatClampNeg) < 0 then (f_X9_count_L57 σ a1 K57 n (v2 + (0 : Int32)) (v3 + (1 : Int32))) else (if a1 = (3 : Int32) then (f_X9_count_L57 σ a1 K57 n (v2 + (1 : Int32)) (v3 + (1 : Int32))) else (if g_ix v3 4800 then (if (σ 59 0 v3.toNatClampNeg) = 0 then (f_X9_count_L57 σ a1 K57 n (v2 + (0 : Int32)) (v3 + (1 : Int32))) else (f_X9_count_L57 σ a1 K57 n (v2 + (1 : Int32)) (v3 + (1 : Int32)))) else none))) else none))
def f_X9_count_P55 (σ : gS) (a1 : Int32) (v2 : Int32) : Option Int32 := (f_X9_count_L57 σ a1 (f_X9_count_P101) g_fuel v2 (0 : Int32))
def f_X9_count (ad : gA) (σ : gS) (a1 : Int32) : Option Int32 := (if a1 = (0 : Int32) then (some (σ 9 0 1)) else (if a1 = (1 : Int32) then (some (σ 9 0 2)) else (if a1 = (2 : Int32) then (some (σ 9 0 3)) else (if a1 = (3 : Int32) then (f_X9_count_P55 σ a1 (0 : Int32)) else (if a1 = (4 : Int32) then (f_X9_count_P55 σ a1 (0 : Int32)) else (if a1 = (5 : Int32) then ((f_X9_voted ad σ).bind fun q1 => (some q1)) else (some (-1 : Int32))))))))
theorem hd_X9_count : yX9_count.cls ≠ "java/lang/invoke/MethodHandle" ∧ yX9_count.cls ≠ "java/lang/invoke/VarHandle" ∧ (parseMethodDescriptor yX9_count.desc).map (fun d => d.parameters.length) = some 1 := by decide +kernel
set_option maxHeartbeats 4000000 in
set_option maxRecDepth 100000 in
theorem c_X9_count (l : Launch) (D : va_G) (cy : Nat → ClassId) (A : Nat → Prop) (ad : gA) (L : gL)  (σ : gS) (hT : (9, 0) ∈ L) (a1 : Int32) (r0 : Int32) (hf : f_X9_count ad σ a1 = some r0) : g_Mi l yX9_count cX9_count 4 (some .int) ({ frames := 1, cells := 0, slots := 0, locals := 22 } : Room) D cy A ad L σ [.ref (ad 9 0), .int a1] r0 σ := by
  refine g_met (by decide) (Nat.le_of_ble_eq_true rfl) (fun p e s m below meth c C hr hlocks hnm G ls hl => ?_)
  have hl : lv_has ls 4 [(0, .ref (ad 9 0)), (1, .int a1)] := hl
  have pt101 : ∀ (v2 : Int32) (H : Heap) (locs : List Loc) (ls : Array Slot), g_H D cy A ad L σ s.heap H locs → lv_has ls 4 [(2, .int v2)] → f_X9_count_P101 v2 = some r0 → g_Wi p l e ({ frames := 1, cells := 0, slots := 0, locals := 22 } : Room) s m below meth c H locs 0 0 D cy A ad L [.ref (ad 9 0), .int a1] r0 σ (F0 m 101 ls []) := by
    intro v2 H locs ls G hl hf
    unfold f_X9_count_P101 at hf
    refine lv_iload_n C.x C.b dX9_count_101 rfl (lv_at hl 0 rfl) ?_
    exact g_eip C G hr hlocks hf dX9_count_102
  have lp57 : ∀ n57 : Nat, ∀ (v2 : Int32) (v3 : Int32) (H : Heap) (locs : List Loc) (ls : Array Slot), g_H D cy A ad L σ s.heap H locs → lv_has ls 4 [(0, .ref (ad 9 0)), (1, .int a1), (2, .int v2), (3, .int v3)] → f_X9_count_L57 σ a1 (f_X9_count_P101) n57 v2 v3 = some r0 → g_Wi p l e ({ frames := 1, cells := 0, slots := 0, locals := 22 } : Room) s m below meth c H locs 0 0 D cy A ad L [.ref (ad 9 0), .int a1] r0 σ (F0 m 57 ls []) := by
    intro n57
    induction n57 with
    | zero =>
      intro v2 v3 H locs ls G hl hf
      rw [f_X9_count_L57] at hf
      cases hf
    | succ n57 ih57 =>
      intro v2 v3 H locs ls G hl hf
      rw [f_X9_count_L57] at hf
      refine lv_iload_n C.x C.b dX9_count_57 rfl (lv_at hl 3 rfl) ?_
      refine lv_sipush (v := (4800 : Int32)) C.x C.b dX9_count_58 (by decide) ?_
      refine lv_icmp_ge (tgt := 101) C.x C.b dX9_count_61 (by decide) (fun cb => ?_) (fun cb => ?_)
      · have hf := g_t cb hf
        exact pt101 v2 _ _ ls G (lv_sub hl [2] rfl) hf
      · have hf := g_f cb hf
        refine lv_iload_n C.x C.b dX9_count_64 rfl (lv_at hl 2 rfl) ?_
        refine lv_aload_n C.x C.b dX9_count_65 rfl (lv_at hl 0 rfl) ?_
        refine g_getr C G 9 0 18 58 hT rfl ginX9 (by decide) tw968 dX9_count_66 (fun hL2 => ?_)
        refine lv_iload_n C.x C.b dX9_count_69 rfl (lv_at hl 3 rfl) ?_
        obtain ⟨hi3, hf⟩ := g_ok hf
        refine g_iald (n := 4800) C G 58 0 hL2 (by decide) rfl hi3 dX9_count_70 ?_
        refine lv_if_lt (tgt := 92) C.x C.b dX9_count_71 (by decide) (fun cb => ?_) (fun cb => ?_)
        · have hf := g_t cb hf
          refine lv_iconst (v := (0 : Int32)) C.x C.b dX9_count_92 (by decide) ?_
          refine lv_iadd C.x C.b dX9_count_93 ?_
          refine lv_istore_n (lv' := [(2, .int (v2 + (0 : Int32))), (0, .ref (ad 9 0)), (1, .int a1), (3, .int v3)]) C.x C.b dX9_count_94 rfl hl (by decide) rfl (fun ls hl => ?_)
          refine lv_iinc (v := (v3 + (1 : Int32))) (lv' := [(3, .int (v3 + (1 : Int32))), (2, .int (v2 + (0 : Int32))), (0, .ref (ad 9 0)), (1, .int a1)]) C.x C.b dX9_count_95 hl (k := 3) rfl rfl (by decide) rfl (fun ls hl => ?_)
          refine lv_goto (tgt := 57) C.x C.b dX9_count_98 (by decide) ?_
          exact ih57 (v2 + (0 : Int32)) (v3 + (1 : Int32)) _ _ ls G (lv_sub hl [2, 3, 1, 0] rfl) hf
        · have hf := g_f cb hf
          refine lv_iload_n C.x C.b dX9_count_74 rfl (lv_at hl 1 rfl) ?_
          refine lv_iconst (v := (3 : Int32)) C.x C.b dX9_count_75 (by decide) ?_
          refine lv_icmp_eq (tgt := 88) C.x C.b dX9_count_76 (by decide) (fun cb => ?_) (fun cb => ?_)
          · have hf := g_t cb hf
            refine lv_iconst (v := (1 : Int32)) C.x C.b dX9_count_88 (by decide) ?_
            refine lv_goto (tgt := 93) C.x C.b dX9_count_89 (by decide) ?_
            refine lv_iadd C.x C.b dX9_count_93 ?_
            refine lv_istore_n (lv' := [(2, .int (v2 + (1 : Int32))), (0, .ref (ad 9 0)), (1, .int a1), (3, .int v3)]) C.x C.b dX9_count_94 rfl hl (by decide) rfl (fun ls hl => ?_)
            refine lv_iinc (v := (v3 + (1 : Int32))) (lv' := [(3, .int (v3 + (1 : Int32))), (2, .int (v2 + (1 : Int32))), (0, .ref (ad 9 0)), (1, .int a1)]) C.x C.b dX9_count_95 hl (k := 3) rfl rfl (by decide) rfl (fun ls hl => ?_)
            refine lv_goto (tgt := 57) C.x C.b dX9_count_98 (by decide) ?_
            exact ih57 (v2 + (1 : Int32)) (v3 + (1 : Int32)) _ _ ls G (lv_sub hl [2, 3, 1, 0] rfl) hf
          · have hf := g_f cb hf
            refine lv_aload_n C.x C.b dX9_count_79 rfl (lv_at hl 0 rfl) ?_
            refine g_getr C G 9 0 19 59 hT rfl ginX9 (by decide) tw969 dX9_count_80 (fun hL4 => ?_)
            refine lv_iload_n C.x C.b dX9_count_83 rfl (lv_at hl 3 rfl) ?_
            obtain ⟨hi5, hf⟩ := g_ok hf
            refine g_zald (n := 4800) C G 59 0 hL4 (by decide) rfl hi5 dX9_count_84 ?_
            refine lv_if_eq (tgt := 92) C.x C.b dX9_count_85 (by decide) (fun cb => ?_) (fun cb => ?_)
            · have hf := g_t cb hf
              refine lv_iconst (v := (0 : Int32)) C.x C.b dX9_count_92 (by decide) ?_
              refine lv_iadd C.x C.b dX9_count_93 ?_
              refine lv_istore_n (lv' := [(2, .int (v2 + (0 : Int32))), (0, .ref (ad 9 0)), (1, .int a1), (3, .int v3)]) C.x C.b dX9_count_94 rfl hl (by decide) rfl (fun ls hl => ?_)
              refine lv_iinc (v := (v3 + (1 : Int32))) (lv' := [(3, .int (v3 + (1 : Int32))), (2, .int (v2 + (0 : Int32))), (0, .ref (ad 9 0)), (1, .int a1)]) C.x C.b dX9_count_95 hl (k := 3) rfl rfl (by decide) rfl (fun ls hl => ?_)
              refine lv_goto (tgt := 57) C.x C.b dX9_count_98 (by decide) ?_
              exact ih57 (v2 + (0 : Int32)) (v3 + (1 : Int32)) _ _ ls G (lv_sub hl [2, 3, 1, 0] rfl) hf
            · have hf := g_f cb hf
              refine lv_iconst (v := (1 : Int32)) C.x C.b dX9_count_88 (by decide) ?_
              refine lv_goto (tgt := 93) C.x C.b dX9_count_89 (by decide) ?_
              refine lv_iadd C.x C.b dX9_count_93 ?_
              refine lv_istore_n (lv' := [(2, .int (v2 + (1 : Int32))), (0, .ref (ad 9 0)), (1, .int a1), (3, .int v3)]) C.x C.b dX9_count_94 rfl hl (by decide) rfl (fun ls hl => ?_)
              refine lv_iinc (v := (v3 + (1 : Int32))) (lv' := [(3, .int (v3 + (1 : Int32))), (2, .int (v2 + (1 : Int32))), (0, .ref (ad 9 0)), (1, .int a1)]) C.x C.b dX9_count_95 hl (k := 3) rfl rfl (by decide) rfl (fun ls hl => ?_)
              refine lv_goto (tgt := 57) C.x C.b dX9_count_98 (by decide) ?_
              exact ih57 (v2 + (1 : Int32)) (v3 + (1 : Int32)) _ _ ls G (lv_sub hl [2, 3, 1, 0] rfl) hf
  have pt55 : ∀ (v2 : Int32) (H : Heap) (locs : List Loc) (ls : Array Slot), g_H D cy A ad L σ s.heap H locs → lv_has ls 4 [(0, .ref (ad 9 0)), (1, .int a1), (2, .int v2)] → f_X9_count_P55 σ a1 v2 = some r0 → g_Wi p l e ({ frames := 1, cells := 0, slots := 0, locals := 22 } : Room) s m below meth c H locs 0 0 D cy A ad L [.ref (ad 9 0), .int a1] r0 σ (F0 m 55 ls []) := by
    intro v2 H locs ls G hl hf
    unfold f_X9_count_P55 at hf
    refine lv_iconst (v := (0 : Int32)) C.x C.b dX9_count_55 (by decide) ?_
    refine lv_istore_n (lv' := [(3, .int (0 : Int32)), (0, .ref (ad 9 0)), (1, .int a1), (2, .int v2)]) C.x C.b dX9_count_56 rfl hl (by decide) rfl (fun ls hl => ?_)
    exact lp57 g_fuel v2 (0 : Int32) _ _ ls G (lv_sub hl [1, 2, 3, 0] rfl) hf
  unfold f_X9_count at hf
  refine lv_iconst (v := (0 : Int32)) C.x C.b dX9_count_0 (by decide) ?_
  refine lv_istore_n (lv' := [(2, .int (0 : Int32)), (0, .ref (ad 9 0)), (1, .int a1)]) C.x C.b dX9_count_1 rfl hl (by decide) rfl (fun ls hl => ?_)
  refine lv_iload_n C.x C.b dX9_count_2 rfl (lv_at hl 2 rfl) ?_
  by_cases c0 : a1 = (0 : Int32)
  · have hf := g_t c0 hf
    have e9 := g_swI c0 (show ((0 : Int32)).toInt = 0 from by decide)
    refine lv_tableIn (tgt := 40) C.x C.b dX9_count_3 (by omega) (by omega) (by rw [e9]; rfl) (by decide) ?_
    refine lv_aload_n C.x C.b dX9_count_40 rfl (lv_at hl 1 rfl) ?_
    refine g_geti C G 9 0 1 hT rfl ginX9 (by decide) tw951 dX9_count_41 ?_
    exact g_eip C G hr hlocks hf dX9_count_44
  have hf := g_f c0 hf
  by_cases c1 : a1 = (1 : Int32)
  · have hf := g_t c1 hf
    have e9 := g_swI c1 (show ((1 : Int32)).toInt = 1 from by decide)
    refine lv_tableIn (tgt := 45) C.x C.b dX9_count_3 (by omega) (by omega) (by rw [e9]; rfl) (by decide) ?_
    refine lv_aload_n C.x C.b dX9_count_45 rfl (lv_at hl 1 rfl) ?_
    refine g_geti C G 9 0 2 hT rfl ginX9 (by decide) tw952 dX9_count_46 ?_
    exact g_eip C G hr hlocks hf dX9_count_49
  have hf := g_f c1 hf
  by_cases c2 : a1 = (2 : Int32)
  · have hf := g_t c2 hf
    have e9 := g_swI c2 (show ((2 : Int32)).toInt = 2 from by decide)
    refine lv_tableIn (tgt := 50) C.x C.b dX9_count_3 (by omega) (by omega) (by rw [e9]; rfl) (by decide) ?_
    refine lv_aload_n C.x C.b dX9_count_50 rfl (lv_at hl 1 rfl) ?_
    refine g_geti C G 9 0 3 hT rfl ginX9 (by decide) tw953 dX9_count_51 ?_
    exact g_eip C G hr hlocks hf dX9_count_54
  have hf := g_f c2 hf
  by_cases c3 : a1 = (3 : Int32)
  · have hf := g_t c3 hf
    have e9 := g_swI c3 (show ((3 : Int32)).toInt = 3 from by decide)
    refine lv_tableIn (tgt := 55) C.x C.b dX9_count_3 (by omega) (by omega) (by rw [e9]; rfl) (by decide) ?_
    exact pt55 (0 : Int32) _ _ ls G (lv_sub hl [1, 2, 0] rfl) hf
  have hf := g_f c3 hf
  by_cases c4 : a1 = (4 : Int32)
  · have hf := g_t c4 hf
    have e9 := g_swI c4 (show ((4 : Int32)).toInt = 4 from by decide)
    refine lv_tableIn (tgt := 55) C.x C.b dX9_count_3 (by omega) (by omega) (by rw [e9]; rfl) (by decide) ?_
    exact pt55 (0 : Int32) _ _ ls G (lv_sub hl [1, 2, 0] rfl) hf
  have hf := g_f c4 hf
  by_cases c5 : a1 = (5 : Int32)
  · have hf := g_t c5 hf
    have e9 := g_swI c5 (show ((5 : Int32)).toInt = 5 from by decide)
    refine lv_tableIn (tgt := 103) C.x C.b dX9_count_3 (by omega) (by omega) (by rw [e9]; rfl) (by decide) ?_
    refine lv_aload_n C.x C.b dX9_count_103 rfl (lv_at hl 1 rfl) ?_
    obtain ⟨q1, eq1, hf⟩ := g_b hf
    refine g_calli G (g_runV (As := []) (rest := []) C G 9 0 (c_X9_voted l D cy A ad L σ hT q1 eq1) ⟨tw1273, tw60, tw1270, ⟨tw1272, tw42⟩, hd_X9_voted⟩ (by decide) hT rfl ⟨rfl, by decide⟩ hl.1 rfl (Nat.le_of_ble_eq_true rfl) dX9_count_104 ⟨Nat.le_of_ble_eq_true rfl, Nat.le_of_ble_eq_true rfl⟩) (fun H locs G => ?_)
    exact g_eip C G hr hlocks hf dX9_count_107
  have hf := g_f c5 hf
  have n0 := lv_neT c0 (show ((0 : Int32)).toInt = 0 from by decide)
  have n1 := lv_neT c1 (show ((1 : Int32)).toInt = 1 from by decide)
  have n2 := lv_neT c2 (show ((2 : Int32)).toInt = 2 from by decide)
  have n3 := lv_neT c3 (show ((3 : Int32)).toInt = 3 from by decide)
  have n4 := lv_neT c4 (show ((4 : Int32)).toInt = 4 from by decide)
  have n5 := lv_neT c5 (show ((5 : Int32)).toInt = 5 from by decide)
  refine lv_tableOut (tgt := 108) C.x C.b dX9_count_3 (by omega) (by decide) ?_
  refine lv_iconst (v := (-1 : Int32)) C.x C.b dX9_count_108 (by decide) ?_
  exact g_eip C G hr hlocks hf dX9_count_109
def f_X9_isShelf (ad : gA) (σ : gS) (a1 : Int32) : Option Int32 := ((f_X9_in ad σ a1 (0 : Int32) (7 : Int32)).bind fun q1 => (if g_bo q1 then (some q1) else none))
theorem hd_X9_isShelf : yX9_isShelf.cls ≠ "java/lang/invoke/MethodHandle" ∧ yX9_isShelf.cls ≠ "java/lang/invoke/VarHandle" ∧ (parseMethodDescriptor yX9_isShelf.desc).map (fun d => d.parameters.length) = some 1 := by decide +kernel
set_option maxHeartbeats 4000000 in
set_option maxRecDepth 100000 in
theorem c_X9_isShelf (l : Launch) (D : va_G) (cy : Nat → ClassId) (A : Nat → Prop) (ad : gA) (L : gL)  (σ : gS) (hT : (9, 0) ∈ L) (a1 : Int32) (r0 : Int32) (hf : f_X9_isShelf ad σ a1 = some r0) : g_Mi l yX9_isShelf cX9_isShelf 2 (some .boolean) ({ frames := 1, cells := 0, slots := 0, locals := 23 } : Room) D cy A ad L σ [.ref (ad 9 0), .int a1] r0 σ := by
  refine g_met (by decide) (Nat.le_of_ble_eq_true rfl) (fun p e s m below meth c C hr hlocks hnm G ls hl => ?_)
  have hl : lv_has ls 2 [(0, .ref (ad 9 0)), (1, .int a1)] := hl
  unfold f_X9_isShelf at hf
  refine lv_aload_n C.x C.b dX9_isShelf_0 rfl (lv_at hl 0 rfl) ?_
  refine lv_iload_n C.x C.b dX9_isShelf_1 rfl (lv_at hl 1 rfl) ?_
  refine lv_iconst (v := (0 : Int32)) C.x C.b dX9_isShelf_2 (by decide) ?_
  refine lv_bipush (v := (7 : Int32)) C.x C.b dX9_isShelf_3 (by decide) ?_
  obtain ⟨q1, eq1, hf⟩ := g_b hf
  refine g_calli G (g_runV (As := [.int a1, .int (0 : Int32), .int (7 : Int32)]) (rest := []) C G 9 0 (c_X9_in l D cy A ad L σ hT a1 (0 : Int32) (7 : Int32) q1 eq1) ⟨tw1093, tw60, tw1090, ⟨tw1092, tw18⟩, hd_X9_in⟩ (by decide) hT rfl ⟨rfl, by decide⟩ hl.1 rfl (Nat.le_of_ble_eq_true rfl) dX9_isShelf_5 ⟨Nat.le_of_ble_eq_true rfl, Nat.le_of_ble_eq_true rfl⟩) (fun H locs G => ?_)
  obtain ⟨hbo, hf⟩ := g_ok hf
  exact g_ezp C G hr hlocks hf (g_bo_fit hbo).1 dX9_isShelf_8
def f_X9_wipe_P28 (σ : gS) : Option gS := (some σ)
def f_X9_wipe_L2 (a1 : Int32) (K2 : gS → Option gS) : Nat → gS → Int32 → Option gS
  | 0, _, _ => none
  | n + 1, σ, v2 => (if (200 : Int32) ≤ v2 then (K2 σ) else (if g_ix (((200 : Int32) * a1) + v2) 1600 then (g_let (g_up σ 83 0 ((((200 : Int32) * a1) + v2).toNatClampNeg) (0 : Int32)) fun σ3 => (f_X9_wipe_L2 a1 K2 n σ3 (v2 + (1 : Int32)))) else none))
def f_X9_wipe (ad : gA) (σ : gS) (a1 : Int32) : Option gS := (f_X9_wipe_L2 a1 (f_X9_wipe_P28) g_fuel σ (0 : Int32))
theorem hd_X9_wipe : yX9_wipe.cls ≠ "java/lang/invoke/MethodHandle" ∧ yX9_wipe.cls ≠ "java/lang/invoke/VarHandle" ∧ (parseMethodDescriptor yX9_wipe.desc).map (fun d => d.parameters.length) = some 1 := by decide +kernel
set_option maxHeartbeats 4000000 in
set_option maxRecDepth 100000 in
theorem c_X9_wipe (l : Launch) (D : va_G) (cy : Nat → ClassId) (A : Nat → Prop) (ad : gA) (L : gL)  (σ : gS) (hT : (9, 0) ∈ L) (a1 : Int32) (σ0 : gS) (hf : f_X9_wipe ad σ a1 = some σ0) : g_Mv l yX9_wipe cX9_wipe 3 none ({ frames := 0, cells := 0, slots := 0, locals := 0 } : Room) D cy A ad L σ [.ref (ad 9 0), .int a1] σ0 := by
  refine g_met (by decide) (Nat.le_of_ble_eq_true rfl) (fun p e s m below meth c C hr hlocks hnm G ls hl => ?_)
  have hl : lv_has ls 3 [(0, .ref (ad 9 0)), (1, .int a1)] := hl
  have pt28 : ∀ (σ : gS) (H : Heap) (locs : List Loc) (ls : Array Slot), g_H D cy A ad L σ s.heap H locs → lv_has ls 3 [] → f_X9_wipe_P28 σ = some σ0 → g_Wv p l e ({ frames := 0, cells := 0, slots := 0, locals := 0 } : Room) s m below meth c H locs 0 0 D cy A ad L [.ref (ad 9 0), .int a1] σ0 (F0 m 28 ls []) := by
    intro σ H locs ls G hl hf
    unfold f_X9_wipe_P28 at hf
    exact g_evi C G hr hlocks hf dX9_wipe_28
  have lp2 : ∀ n2 : Nat, ∀ (σ : gS) (v2 : Int32) (H : Heap) (locs : List Loc) (ls : Array Slot), g_H D cy A ad L σ s.heap H locs → lv_has ls 3 [(0, .ref (ad 9 0)), (1, .int a1), (2, .int v2)] → f_X9_wipe_L2 a1 (f_X9_wipe_P28) n2 σ v2 = some σ0 → g_Wv p l e ({ frames := 0, cells := 0, slots := 0, locals := 0 } : Room) s m below meth c H locs 0 0 D cy A ad L [.ref (ad 9 0), .int a1] σ0 (F0 m 2 ls []) := by
    intro n2
    induction n2 with
    | zero =>
      intro σ v2 H locs ls G hl hf
      rw [f_X9_wipe_L2] at hf
      cases hf
    | succ n2 ih2 =>
      intro σ v2 H locs ls G hl hf
      rw [f_X9_wipe_L2] at hf
      refine lv_iload_n C.x C.b dX9_wipe_2 rfl (lv_at hl 2 rfl) ?_
      refine lv_sipush (v := (200 : Int32)) C.x C.b dX9_wipe_3 (by decide) ?_
      refine lv_icmp_ge (tgt := 28) C.x C.b dX9_wipe_6 (by decide) (fun cb => ?_) (fun cb => ?_)
      · have hf := g_t cb hf
        exact pt28 σ _ _ ls G (lv_sub hl [] rfl) hf
      · have hf := g_f cb hf
        refine lv_aload_n C.x C.b dX9_wipe_9 rfl (lv_at hl 0 rfl) ?_
        refine g_getr C G 9 0 43 83 hT rfl ginX9 (by decide) tw993 dX9_wipe_10 (fun hL1 => ?_)
        refine lv_sipush (v := (200 : Int32)) C.x C.b dX9_wipe_13 (by decide) ?_
        refine lv_iload_n C.x C.b dX9_wipe_16 rfl (lv_at hl 1 rfl) ?_
        refine lv_imul C.x C.b dX9_wipe_17 ?_
        refine lv_iload_n C.x C.b dX9_wipe_18 rfl (lv_at hl 2 rfl) ?_
        refine lv_iadd C.x C.b dX9_wipe_19 ?_
        refine lv_iconst (v := (0 : Int32)) C.x C.b dX9_wipe_20 (by decide) ?_
        obtain ⟨hi2, hf⟩ := g_ok hf
        refine g_iast (n := 1600) C G 83 0 hL1 (by decide) rfl hi2 dX9_wipe_21 (fun H locs G => ?_)
        obtain ⟨σ3, eσ3, hf⟩ := g_lt hf
        rw [← eσ3] at G
        refine lv_iinc (v := (v2 + (1 : Int32))) (lv' := [(2, .int (v2 + (1 : Int32))), (0, .ref (ad 9 0)), (1, .int a1)]) C.x C.b dX9_wipe_22 hl (k := 2) rfl rfl (by decide) rfl (fun ls hl => ?_)
        refine lv_goto (tgt := 2) C.x C.b dX9_wipe_25 (by decide) ?_
        exact ih2 σ3 (v2 + (1 : Int32)) _ _ ls G (lv_sub hl [1, 2, 0] rfl) hf
  unfold f_X9_wipe at hf
  refine lv_iconst (v := (0 : Int32)) C.x C.b dX9_wipe_0 (by decide) ?_
  refine lv_istore_n (lv' := [(2, .int (0 : Int32)), (0, .ref (ad 9 0)), (1, .int a1)]) C.x C.b dX9_wipe_1 rfl hl (by decide) rfl (fun ls hl => ?_)
  exact lp2 g_fuel σ (0 : Int32) _ _ ls G (lv_sub hl [1, 2, 0] rfl) hf
def f_X9_keep_P157 (a1 : Int32) (a2 : Int32) (a3 : Int32) (σ : gS) : Option (Int32 × gS) := (if a2 = (4 : Int32) then (if g_ix a3 24 then (if g_ix ((200 : Int32) * a1) 1600 then (g_let (g_up σ 83 0 (((200 : Int32) * a1).toNatClampNeg) (σ 47 0 a3.toNatClampNeg)) fun σ25 => (if g_ix a3 24 then (if g_ix (((200 : Int32) * a1) + (1 : Int32)) 1600 then (g_let (g_up σ25 83 0 ((((200 : Int32) * a1) + (1 : Int32)).toNatClampNeg) (σ25 48 0 a3.toNatClampNeg)) fun σ30 => (if g_ix a3 24 then (if g_ix (((200 : Int32) * a1) + (2 : Int32)) 1600 then (g_let (g_up σ30 83 0 ((((200 : Int32) * a1) + (2 : Int32)).toNatClampNeg) (σ30 50 0 a3.toNatClampNeg)) fun σ35 => (if g_ix a3 24 then (if g_ix (((200 : Int32) * a1) + (3 : Int32)) 1600 then (g_let (g_up σ35 83 0 ((((200 : Int32) * a1) + (3 : Int32)).toNatClampNeg) (σ35 51 0 a3.toNatClampNeg)) fun σ40 => (if g_ix a3 24 then (if g_ix (((200 : Int32) * a1) + (4 : Int32)) 1600 then (g_let (g_up σ40 83 0 ((((200 : Int32) * a1) + (4 : Int32)).toNatClampNeg) (σ40 52 0 a3.toNatClampNeg)) fun σ45 => (some ((0 : Int32), σ45))) else none) else none)) else none) else none)) else none) else none)) else none) else none)) else none) else none) else (some ((0 : Int32), σ)))
def f_X9_keep_L112 (ad : gA) (a1 : Int32) (a2 : Int32) (a3 : Int32) (K112 : gS → Option (Int32 × gS)) : Nat → gS → Int32 → Option (Int32 × gS)
  | 0, _, _ => none
  | n + 1, σ, v5 => (if (200 : Int32) ≤ v5 then (K112 σ) else (if a2 = (3 : Int32) then ((f_X9_at ad σ a3 v5 (0 : Int32)).bind fun q17 => (if g_ix q17 4800 then (if g_ix (((200 : Int32) * a1) + v5) 1600 then (g_let (g_up σ 83 0 ((((200 : Int32) * a1) + v5).toNatClampNeg) (σ 58 0 q17.toNatClampNeg)) fun σ20 => (f_X9_keep_L112 ad a1 a2 a3 K112 n σ20 (v5 + (1 : Int32)))) else none) else none)) else (K112 σ)))
def f_X9_keep_P108 (ad : gA) (a1 : Int32) (a2 : Int32) (a3 : Int32) (σ : gS) (k0 : Int32) (k1 : Int32) (k2 : Nat) : Option (Int32 × gS) := (if g_ix k1 8 then (g_let (g_up σ 82 k2 k1.toNatClampNeg k0) fun σ14 => (f_X9_keep_L112 ad a1 a2 a3 (f_X9_keep_P157 a1 a2 a3) g_fuel σ14 (0 : Int32))) else none)
def f_X9_keep_P63 (ad : gA) (a1 : Int32) (a2 : Int32) (a3 : Int32) (σ : gS) (k0 : Int32) : Option (Int32 × gS) := (if k0 = 0 then (some ((-1 : Int32), σ)) else (if g_ix a1 8 then (g_let (g_up σ 80 0 a1.toNatClampNeg a2) fun σ7 => (if g_ix a1 8 then (g_let (g_up σ7 81 0 a1.toNatClampNeg a3) fun σ10 => ((f_X9_wipe ad σ10 a1).bind fun σ11 => (if a2 = (3 : Int32) then (f_X9_keep_P108 ad a1 a2 a3 σ11 (200 : Int32) a1 0) else (f_X9_keep_P108 ad a1 a2 a3 σ11 (5 : Int32) a1 0)))) else none)) else none))
def f_X9_keep_P62 (ad : gA) (a1 : Int32) (a2 : Int32) (a3 : Int32) (σ : gS) : Option (Int32 × gS) := (f_X9_keep_P63 ad a1 a2 a3 σ (0 : Int32))
def f_X9_keep_P58 (ad : gA) (a1 : Int32) (a2 : Int32) (a3 : Int32) (σ : gS) : Option (Int32 × gS) := (f_X9_keep_P63 ad a1 a2 a3 σ (1 : Int32))
def f_X9_keep_P45 (ad : gA) (a1 : Int32) (a2 : Int32) (a3 : Int32) (σ : gS) : Option (Int32 × gS) := (if a2 = (4 : Int32) then ((f_X9_isPerson ad σ a3).bind fun q4 => (if q4 = 0 then (f_X9_keep_P62 ad a1 a2 a3 σ) else (f_X9_keep_P58 ad a1 a2 a3 σ))) else (f_X9_keep_P62 ad a1 a2 a3 σ))
def f_X9_keep_P32 (ad : gA) (a1 : Int32) (a2 : Int32) (a3 : Int32) (σ : gS) : Option (Int32 × gS) := (if a2 = (3 : Int32) then ((f_X9_isOffice ad σ a3).bind fun q3 => (if q3 = 0 then (f_X9_keep_P45 ad a1 a2 a3 σ) else (f_X9_keep_P58 ad a1 a2 a3 σ))) else (f_X9_keep_P45 ad a1 a2 a3 σ))
def f_X9_keep (ad : gA) (σ : gS) (a1 : Int32) (a2 : Int32) (a3 : Int32) : Option (Int32 × gS) := ((f_X9_isShelf ad σ a1).bind fun q1 => (if q1 = 0 then (f_X9_keep_P62 ad a1 a2 a3 σ) else (if a2 = 0 then (f_X9_keep_P58 ad a1 a2 a3 σ) else (if a2 = (1 : Int32) then ((f_X9_in ad σ a3 (0 : Int32) ((σ 9 0 3) - (1 : Int32))).bind fun q2 => (if q2 = 0 then (f_X9_keep_P32 ad a1 a2 a3 σ) else (f_X9_keep_P58 ad a1 a2 a3 σ))) else (f_X9_keep_P32 ad a1 a2 a3 σ)))))
theorem hd_X9_keep : yX9_keep.cls ≠ "java/lang/invoke/MethodHandle" ∧ yX9_keep.cls ≠ "java/lang/invoke/VarHandle" ∧ (parseMethodDescriptor yX9_keep.desc).map (fun d => d.parameters.length) = some 3 := by decide +kernel
set_option maxHeartbeats 4000000 in
set_option maxRecDepth 100000 in
theorem c_X9_keep (l : Launch) (D : va_G) (cy : Nat → ClassId) (A : Nat → Prop) (ad : gA) (L : gL)  (σ : gS) (hT : (9, 0) ∈ L) (a1 : Int32) (a2 : Int32) (a3 : Int32) (r0 : Int32) (σ0 : gS) (hf : f_X9_keep ad σ a1 a2 a3 = some (r0, σ0)) : g_Mi l yX9_keep cX9_keep 6 (some .int) ({ frames := 2, cells := 0, slots := 0, locals := 44 } : Room) D cy A ad L σ [.ref (ad 9 0), .int a1, .int a2, .int a3] r0 σ0 := by
  refine g_met (by decide) (Nat.le_of_ble_eq_true rfl) (fun p e s m below meth c C hr hlocks hnm G ls hl => ?_)
  have hl : lv_has ls 6 [(0, .ref (ad 9 0)), (1, .int a1), (2, .int a2), (3, .int a3)] := hl
  have pt157 : ∀ (σ : gS) (H : Heap) (locs : List Loc) (ls : Array Slot), g_H D cy A ad L σ s.heap H locs → lv_has ls 6 [(0, .ref (ad 9 0)), (1, .int a1), (2, .int a2), (3, .int a3)] → f_X9_keep_P157 a1 a2 a3 σ = some (r0, σ0) → g_Wi p l e ({ frames := 2, cells := 0, slots := 0, locals := 44 } : Room) s m below meth c H locs 0 0 D cy A ad L [.ref (ad 9 0), .int a1, .int a2, .int a3] r0 σ0 (F0 m 157 ls []) := by
    intro σ H locs ls G hl hf
    unfold f_X9_keep_P157 at hf
    refine lv_iload_n C.x C.b dX9_keep_157 rfl (lv_at hl 2 rfl) ?_
    refine lv_iconst (v := (4 : Int32)) C.x C.b dX9_keep_158 (by decide) ?_
    refine lv_icmp_eq (tgt := 164) C.x C.b dX9_keep_159 (by decide) (fun cb => ?_) (fun cb => ?_)
    · have hf := g_t cb hf
      refine lv_aload_n C.x C.b dX9_keep_164 rfl (lv_at hl 0 rfl) ?_
      refine g_getr C G 9 0 43 83 hT rfl ginX9 (by decide) tw993 dX9_keep_165 (fun hL21 => ?_)
      refine lv_sipush (v := (200 : Int32)) C.x C.b dX9_keep_168 (by decide) ?_
      refine lv_iload_n C.x C.b dX9_keep_171 rfl (lv_at hl 1 rfl) ?_
      refine lv_imul C.x C.b dX9_keep_172 ?_
      refine lv_aload_n C.x C.b dX9_keep_173 rfl (lv_at hl 0 rfl) ?_
      refine g_getr C G 9 0 7 47 hT rfl ginX9 (by decide) tw957 dX9_keep_174 (fun hL22 => ?_)
      refine lv_iload_n C.x C.b dX9_keep_177 rfl (lv_at hl 3 rfl) ?_
      obtain ⟨hi23, hf⟩ := g_ok hf
      refine g_iald (n := 24) C G 47 0 hL22 (by decide) rfl hi23 dX9_keep_178 ?_
      obtain ⟨hi24, hf⟩ := g_ok hf
      refine g_iast (n := 1600) C G 83 0 hL21 (by decide) rfl hi24 dX9_keep_179 (fun H locs G => ?_)
      obtain ⟨σ25, eσ25, hf⟩ := g_lt hf
      rw [← eσ25] at G
      refine lv_aload_n C.x C.b dX9_keep_180 rfl (lv_at hl 0 rfl) ?_
      refine g_getr C G 9 0 43 83 hT rfl ginX9 (by decide) tw993 dX9_keep_181 (fun hL26 => ?_)
      refine lv_sipush (v := (200 : Int32)) C.x C.b dX9_keep_184 (by decide) ?_
      refine lv_iload_n C.x C.b dX9_keep_187 rfl (lv_at hl 1 rfl) ?_
      refine lv_imul C.x C.b dX9_keep_188 ?_
      refine lv_iconst (v := (1 : Int32)) C.x C.b dX9_keep_189 (by decide) ?_
      refine lv_iadd C.x C.b dX9_keep_190 ?_
      refine lv_aload_n C.x C.b dX9_keep_191 rfl (lv_at hl 0 rfl) ?_
      refine g_getr C G 9 0 8 48 hT rfl ginX9 (by decide) tw958 dX9_keep_192 (fun hL27 => ?_)
      refine lv_iload_n C.x C.b dX9_keep_195 rfl (lv_at hl 3 rfl) ?_
      obtain ⟨hi28, hf⟩ := g_ok hf
      refine g_iald (n := 24) C G 48 0 hL27 (by decide) rfl hi28 dX9_keep_196 ?_
      obtain ⟨hi29, hf⟩ := g_ok hf
      refine g_iast (n := 1600) C G 83 0 hL26 (by decide) rfl hi29 dX9_keep_197 (fun H locs G => ?_)
      obtain ⟨σ30, eσ30, hf⟩ := g_lt hf
      rw [← eσ30] at G
      refine lv_aload_n C.x C.b dX9_keep_198 rfl (lv_at hl 0 rfl) ?_
      refine g_getr C G 9 0 43 83 hT rfl ginX9 (by decide) tw993 dX9_keep_199 (fun hL31 => ?_)
      refine lv_sipush (v := (200 : Int32)) C.x C.b dX9_keep_202 (by decide) ?_
      refine lv_iload_n C.x C.b dX9_keep_205 rfl (lv_at hl 1 rfl) ?_
      refine lv_imul C.x C.b dX9_keep_206 ?_
      refine lv_iconst (v := (2 : Int32)) C.x C.b dX9_keep_207 (by decide) ?_
      refine lv_iadd C.x C.b dX9_keep_208 ?_
      refine lv_aload_n C.x C.b dX9_keep_209 rfl (lv_at hl 0 rfl) ?_
      refine g_getr C G 9 0 10 50 hT rfl ginX9 (by decide) tw960 dX9_keep_210 (fun hL32 => ?_)
      refine lv_iload_n C.x C.b dX9_keep_213 rfl (lv_at hl 3 rfl) ?_
      obtain ⟨hi33, hf⟩ := g_ok hf
      refine g_iald (n := 24) C G 50 0 hL32 (by decide) rfl hi33 dX9_keep_214 ?_
      obtain ⟨hi34, hf⟩ := g_ok hf
      refine g_iast (n := 1600) C G 83 0 hL31 (by decide) rfl hi34 dX9_keep_215 (fun H locs G => ?_)
      obtain ⟨σ35, eσ35, hf⟩ := g_lt hf
      rw [← eσ35] at G
      refine lv_aload_n C.x C.b dX9_keep_216 rfl (lv_at hl 0 rfl) ?_
      refine g_getr C G 9 0 43 83 hT rfl ginX9 (by decide) tw993 dX9_keep_217 (fun hL36 => ?_)
      refine lv_sipush (v := (200 : Int32)) C.x C.b dX9_keep_220 (by decide) ?_
      refine lv_iload_n C.x C.b dX9_keep_223 rfl (lv_at hl 1 rfl) ?_
      refine lv_imul C.x C.b dX9_keep_224 ?_
      refine lv_iconst (v := (3 : Int32)) C.x C.b dX9_keep_225 (by decide) ?_
      refine lv_iadd C.x C.b dX9_keep_226 ?_
      refine lv_aload_n C.x C.b dX9_keep_227 rfl (lv_at hl 0 rfl) ?_
      refine g_getr C G 9 0 11 51 hT rfl ginX9 (by decide) tw961 dX9_keep_228 (fun hL37 => ?_)
      refine lv_iload_n C.x C.b dX9_keep_231 rfl (lv_at hl 3 rfl) ?_
      obtain ⟨hi38, hf⟩ := g_ok hf
      refine g_iald (n := 24) C G 51 0 hL37 (by decide) rfl hi38 dX9_keep_232 ?_
      obtain ⟨hi39, hf⟩ := g_ok hf
      refine g_iast (n := 1600) C G 83 0 hL36 (by decide) rfl hi39 dX9_keep_233 (fun H locs G => ?_)
      obtain ⟨σ40, eσ40, hf⟩ := g_lt hf
      rw [← eσ40] at G
      refine lv_aload_n C.x C.b dX9_keep_234 rfl (lv_at hl 0 rfl) ?_
      refine g_getr C G 9 0 43 83 hT rfl ginX9 (by decide) tw993 dX9_keep_235 (fun hL41 => ?_)
      refine lv_sipush (v := (200 : Int32)) C.x C.b dX9_keep_238 (by decide) ?_
      refine lv_iload_n C.x C.b dX9_keep_241 rfl (lv_at hl 1 rfl) ?_
      refine lv_imul C.x C.b dX9_keep_242 ?_
      refine lv_iconst (v := (4 : Int32)) C.x C.b dX9_keep_243 (by decide) ?_
      refine lv_iadd C.x C.b dX9_keep_244 ?_
      refine lv_aload_n C.x C.b dX9_keep_245 rfl (lv_at hl 0 rfl) ?_
      refine g_getr C G 9 0 12 52 hT rfl ginX9 (by decide) tw962 dX9_keep_246 (fun hL42 => ?_)
      refine lv_iload_n C.x C.b dX9_keep_249 rfl (lv_at hl 3 rfl) ?_
      obtain ⟨hi43, hf⟩ := g_ok hf
      refine g_iald (n := 24) C G 52 0 hL42 (by decide) rfl hi43 dX9_keep_250 ?_
      obtain ⟨hi44, hf⟩ := g_ok hf
      refine g_iast (n := 1600) C G 83 0 hL41 (by decide) rfl hi44 dX9_keep_251 (fun H locs G => ?_)
      obtain ⟨σ45, eσ45, hf⟩ := g_lt hf
      rw [← eσ45] at G
      refine lv_iconst (v := (0 : Int32)) C.x C.b dX9_keep_252 (by decide) ?_
      exact g_eii C G hr hlocks hf dX9_keep_253
    · have hf := g_f cb hf
      refine lv_iconst (v := (0 : Int32)) C.x C.b dX9_keep_162 (by decide) ?_
      exact g_eii C G hr hlocks hf dX9_keep_163
  have lp112 : ∀ n112 : Nat, ∀ (σ : gS) (v5 : Int32) (H : Heap) (locs : List Loc) (ls : Array Slot), g_H D cy A ad L σ s.heap H locs → lv_has ls 6 [(0, .ref (ad 9 0)), (1, .int a1), (2, .int a2), (3, .int a3), (5, .int v5)] → f_X9_keep_L112 ad a1 a2 a3 (f_X9_keep_P157 a1 a2 a3) n112 σ v5 = some (r0, σ0) → g_Wi p l e ({ frames := 2, cells := 0, slots := 0, locals := 44 } : Room) s m below meth c H locs 0 0 D cy A ad L [.ref (ad 9 0), .int a1, .int a2, .int a3] r0 σ0 (F0 m 112 ls []) := by
    intro n112
    induction n112 with
    | zero =>
      intro σ v5 H locs ls G hl hf
      rw [f_X9_keep_L112] at hf
      cases hf
    | succ n112 ih112 =>
      intro σ v5 H locs ls G hl hf
      rw [f_X9_keep_L112] at hf
      refine lv_iload C.x C.b dX9_keep_112 (lv_at hl 4 rfl) ?_
      refine lv_sipush (v := (200 : Int32)) C.x C.b dX9_keep_114 (by decide) ?_
      refine lv_icmp_ge (tgt := 157) C.x C.b dX9_keep_117 (by decide) (fun cb => ?_) (fun cb => ?_)
      · have hf := g_t cb hf
        exact pt157 σ _ _ ls G (lv_sub hl [0, 1, 2, 3] rfl) hf
      · have hf := g_f cb hf
        refine lv_iload_n C.x C.b dX9_keep_120 rfl (lv_at hl 2 rfl) ?_
        refine lv_iconst (v := (3 : Int32)) C.x C.b dX9_keep_121 (by decide) ?_
        refine lv_icmp_ne (tgt := 157) C.x C.b dX9_keep_122 (by decide) (fun cb => ?_) (fun cb => ?_)
        · have hf := g_f cb hf
          exact pt157 σ _ _ ls G (lv_sub hl [0, 1, 2, 3] rfl) hf
        · have hf := g_t cb hf
          refine lv_aload_n C.x C.b dX9_keep_125 rfl (lv_at hl 0 rfl) ?_
          refine g_getr C G 9 0 43 83 hT rfl ginX9 (by decide) tw993 dX9_keep_126 (fun hL15 => ?_)
          refine lv_sipush (v := (200 : Int32)) C.x C.b dX9_keep_129 (by decide) ?_
          refine lv_iload_n C.x C.b dX9_keep_132 rfl (lv_at hl 1 rfl) ?_
          refine lv_imul C.x C.b dX9_keep_133 ?_
          refine lv_iload C.x C.b dX9_keep_134 (lv_at hl 4 rfl) ?_
          refine lv_iadd C.x C.b dX9_keep_136 ?_
          refine lv_aload_n C.x C.b dX9_keep_137 rfl (lv_at hl 0 rfl) ?_
          refine g_getr C G 9 0 18 58 hT rfl ginX9 (by decide) tw968 dX9_keep_138 (fun hL16 => ?_)
          refine lv_aload_n C.x C.b dX9_keep_141 rfl (lv_at hl 0 rfl) ?_
          refine lv_iload_n C.x C.b dX9_keep_142 rfl (lv_at hl 3 rfl) ?_
          refine lv_iload C.x C.b dX9_keep_143 (lv_at hl 4 rfl) ?_
          refine lv_iconst (v := (0 : Int32)) C.x C.b dX9_keep_145 (by decide) ?_
          obtain ⟨q17, eq17, hf⟩ := g_b hf
          refine g_calli G (g_runV (As := [.int a3, .int v5, .int (0 : Int32)]) (rest := [.ref (ad 58 0), .int (((200 : Int32) * a1) + v5), .ref (ad 83 0)]) C G 9 0 (c_X9_at l D cy A ad L σ hT a3 v5 (0 : Int32) q17 eq17) ⟨tw1141, tw60, tw1138, ⟨tw1140, tw23⟩, hd_X9_at⟩ (by decide) hT rfl ⟨rfl, by decide⟩ hl.1 rfl (Nat.le_of_ble_eq_true rfl) dX9_keep_146 ⟨Nat.le_of_ble_eq_true rfl, Nat.le_of_ble_eq_true rfl⟩) (fun H locs G => ?_)
          obtain ⟨hi18, hf⟩ := g_ok hf
          refine g_iald (n := 4800) C G 58 0 hL16 (by decide) rfl hi18 dX9_keep_149 ?_
          obtain ⟨hi19, hf⟩ := g_ok hf
          refine g_iast (n := 1600) C G 83 0 hL15 (by decide) rfl hi19 dX9_keep_150 (fun H locs G => ?_)
          obtain ⟨σ20, eσ20, hf⟩ := g_lt hf
          rw [← eσ20] at G
          refine lv_iinc (v := (v5 + (1 : Int32))) (lv' := [(5, .int (v5 + (1 : Int32))), (0, .ref (ad 9 0)), (1, .int a1), (2, .int a2), (3, .int a3)]) C.x C.b dX9_keep_151 hl (k := 4) rfl rfl (by decide) rfl (fun ls hl => ?_)
          refine lv_goto (tgt := 112) C.x C.b dX9_keep_154 (by decide) ?_
          exact ih112 σ20 (v5 + (1 : Int32)) _ _ ls G (lv_sub hl [1, 2, 3, 4, 0] rfl) hf
  have pt108 : ∀ (σ : gS) (k0 : Int32) (k1 : Int32) (k2 : Nat), (82, k2) ∈ L → ∀ (H : Heap) (locs : List Loc) (ls : Array Slot), g_H D cy A ad L σ s.heap H locs → lv_has ls 6 [(0, .ref (ad 9 0)), (1, .int a1), (2, .int a2), (3, .int a3)] → f_X9_keep_P108 ad a1 a2 a3 σ k0 k1 k2 = some (r0, σ0) → g_Wi p l e ({ frames := 2, cells := 0, slots := 0, locals := 44 } : Room) s m below meth c H locs 0 0 D cy A ad L [.ref (ad 9 0), .int a1, .int a2, .int a3] r0 σ0 (F0 m 108 ls [.int k0, .int k1, .ref (ad 82 k2)]) := by
    intro σ k0 k1 k2 hk2 H locs ls G hl hf
    unfold f_X9_keep_P108 at hf
    obtain ⟨hi13, hf⟩ := g_ok hf
    refine g_iast (n := 8) C G 82 k2 hk2 (by decide) rfl hi13 dX9_keep_108 (fun H locs G => ?_)
    obtain ⟨σ14, eσ14, hf⟩ := g_lt hf
    rw [← eσ14] at G
    refine lv_iconst (v := (0 : Int32)) C.x C.b dX9_keep_109 (by decide) ?_
    refine lv_istore (lv' := [(5, .int (0 : Int32)), (0, .ref (ad 9 0)), (1, .int a1), (2, .int a2), (3, .int a3)]) C.x C.b dX9_keep_110 hl (by decide) rfl (fun ls hl => ?_)
    exact lp112 g_fuel σ14 (0 : Int32) _ _ ls G (lv_sub hl [1, 2, 3, 4, 0] rfl) hf
  have pt63 : ∀ (σ : gS) (k0 : Int32) (H : Heap) (locs : List Loc) (ls : Array Slot), g_H D cy A ad L σ s.heap H locs → lv_has ls 6 [(0, .ref (ad 9 0)), (1, .int a1), (2, .int a2), (3, .int a3)] → f_X9_keep_P63 ad a1 a2 a3 σ k0 = some (r0, σ0) → g_Wi p l e ({ frames := 2, cells := 0, slots := 0, locals := 44 } : Room) s m below meth c H locs 0 0 D cy A ad L [.ref (ad 9 0), .int a1, .int a2, .int a3] r0 σ0 (F0 m 63 ls [.int k0]) := by
    intro σ k0 H locs ls G hl hf
    unfold f_X9_keep_P63 at hf
    refine lv_istore (lv' := [(4, .int k0), (0, .ref (ad 9 0)), (1, .int a1), (2, .int a2), (3, .int a3)]) C.x C.b dX9_keep_63 hl (by decide) rfl (fun ls hl => ?_)
    refine lv_iload C.x C.b dX9_keep_65 (lv_at hl 0 rfl) ?_
    refine lv_if_ne (tgt := 72) C.x C.b dX9_keep_67 (by decide) (fun cb => ?_) (fun cb => ?_)
    · have hf := g_f cb hf
      refine lv_aload_n C.x C.b dX9_keep_72 rfl (lv_at hl 1 rfl) ?_
      refine g_getr C G 9 0 40 80 hT rfl ginX9 (by decide) tw990 dX9_keep_73 (fun hL5 => ?_)
      refine lv_iload_n C.x C.b dX9_keep_76 rfl (lv_at hl 2 rfl) ?_
      refine lv_iload_n C.x C.b dX9_keep_77 rfl (lv_at hl 3 rfl) ?_
      obtain ⟨hi6, hf⟩ := g_ok hf
      refine g_iast (n := 8) C G 80 0 hL5 (by decide) rfl hi6 dX9_keep_78 (fun H locs G => ?_)
      obtain ⟨σ7, eσ7, hf⟩ := g_lt hf
      rw [← eσ7] at G
      refine lv_aload_n C.x C.b dX9_keep_79 rfl (lv_at hl 1 rfl) ?_
      refine g_getr C G 9 0 41 81 hT rfl ginX9 (by decide) tw991 dX9_keep_80 (fun hL8 => ?_)
      refine lv_iload_n C.x C.b dX9_keep_83 rfl (lv_at hl 2 rfl) ?_
      refine lv_iload_n C.x C.b dX9_keep_84 rfl (lv_at hl 4 rfl) ?_
      obtain ⟨hi9, hf⟩ := g_ok hf
      refine g_iast (n := 8) C G 81 0 hL8 (by decide) rfl hi9 dX9_keep_85 (fun H locs G => ?_)
      obtain ⟨σ10, eσ10, hf⟩ := g_lt hf
      rw [← eσ10] at G
      refine lv_aload_n C.x C.b dX9_keep_86 rfl (lv_at hl 1 rfl) ?_
      refine lv_iload_n C.x C.b dX9_keep_87 rfl (lv_at hl 2 rfl) ?_
      obtain ⟨σ11, eσ11, hf⟩ := g_b hf
      refine g_callv G (g_runV (As := [.int a1]) (rest := []) C G 9 0 (c_X9_wipe l D cy A ad L σ10 hT a1 σ11 eσ11) ⟨tw1337, tw60, tw1334, ⟨tw1336, tw51⟩, hd_X9_wipe⟩ (by decide) hT rfl ⟨rfl, by decide⟩ hl.1 rfl (Nat.le_of_ble_eq_true rfl) dX9_keep_88 ⟨Nat.le_of_ble_eq_true rfl, Nat.le_of_ble_eq_true rfl⟩) (fun H locs G => ?_)
      refine lv_aload_n C.x C.b dX9_keep_91 rfl (lv_at hl 1 rfl) ?_
      refine g_getr C G 9 0 42 82 hT rfl ginX9 (by decide) tw992 dX9_keep_92 (fun hL12 => ?_)
      refine lv_iload_n C.x C.b dX9_keep_95 rfl (lv_at hl 2 rfl) ?_
      refine lv_iload_n C.x C.b dX9_keep_96 rfl (lv_at hl 3 rfl) ?_
      refine lv_iconst (v := (3 : Int32)) C.x C.b dX9_keep_97 (by decide) ?_
      refine lv_icmp_ne (tgt := 107) C.x C.b dX9_keep_98 (by decide) (fun cb => ?_) (fun cb => ?_)
      · have hf := g_f cb hf
        refine lv_iconst (v := (5 : Int32)) C.x C.b dX9_keep_107 (by decide) ?_
        exact pt108 σ11 (5 : Int32) a1 0 hL12 _ _ ls G (lv_sub hl [1, 2, 3, 4] rfl) hf
      · have hf := g_t cb hf
        refine lv_sipush (v := (200 : Int32)) C.x C.b dX9_keep_101 (by decide) ?_
        refine lv_goto (tgt := 108) C.x C.b dX9_keep_104 (by decide) ?_
        exact pt108 σ11 (200 : Int32) a1 0 hL12 _ _ ls G (lv_sub hl [1, 2, 3, 4] rfl) hf
    · have hf := g_t cb hf
      refine lv_iconst (v := (-1 : Int32)) C.x C.b dX9_keep_70 (by decide) ?_
      exact g_eii C G hr hlocks hf dX9_keep_71
  have pt62 : ∀ (σ : gS) (H : Heap) (locs : List Loc) (ls : Array Slot), g_H D cy A ad L σ s.heap H locs → lv_has ls 6 [(0, .ref (ad 9 0)), (1, .int a1), (2, .int a2), (3, .int a3)] → f_X9_keep_P62 ad a1 a2 a3 σ = some (r0, σ0) → g_Wi p l e ({ frames := 2, cells := 0, slots := 0, locals := 44 } : Room) s m below meth c H locs 0 0 D cy A ad L [.ref (ad 9 0), .int a1, .int a2, .int a3] r0 σ0 (F0 m 62 ls []) := by
    intro σ H locs ls G hl hf
    unfold f_X9_keep_P62 at hf
    refine lv_iconst (v := (0 : Int32)) C.x C.b dX9_keep_62 (by decide) ?_
    exact pt63 σ (0 : Int32) _ _ ls G (lv_sub hl [0, 1, 2, 3] rfl) hf
  have pt58 : ∀ (σ : gS) (H : Heap) (locs : List Loc) (ls : Array Slot), g_H D cy A ad L σ s.heap H locs → lv_has ls 6 [(0, .ref (ad 9 0)), (1, .int a1), (2, .int a2), (3, .int a3)] → f_X9_keep_P58 ad a1 a2 a3 σ = some (r0, σ0) → g_Wi p l e ({ frames := 2, cells := 0, slots := 0, locals := 44 } : Room) s m below meth c H locs 0 0 D cy A ad L [.ref (ad 9 0), .int a1, .int a2, .int a3] r0 σ0 (F0 m 58 ls []) := by
    intro σ H locs ls G hl hf
    unfold f_X9_keep_P58 at hf
    refine lv_iconst (v := (1 : Int32)) C.x C.b dX9_keep_58 (by decide) ?_
    refine lv_goto (tgt := 63) C.x C.b dX9_keep_59 (by decide) ?_
    exact pt63 σ (1 : Int32) _ _ ls G (lv_sub hl [0, 1, 2, 3] rfl) hf
  have pt45 : ∀ (σ : gS) (H : Heap) (locs : List Loc) (ls : Array Slot), g_H D cy A ad L σ s.heap H locs → lv_has ls 6 [(0, .ref (ad 9 0)), (1, .int a1), (2, .int a2), (3, .int a3)] → f_X9_keep_P45 ad a1 a2 a3 σ = some (r0, σ0) → g_Wi p l e ({ frames := 2, cells := 0, slots := 0, locals := 44 } : Room) s m below meth c H locs 0 0 D cy A ad L [.ref (ad 9 0), .int a1, .int a2, .int a3] r0 σ0 (F0 m 45 ls []) := by
    intro σ H locs ls G hl hf
    unfold f_X9_keep_P45 at hf
    refine lv_iload_n C.x C.b dX9_keep_45 rfl (lv_at hl 2 rfl) ?_
    refine lv_iconst (v := (4 : Int32)) C.x C.b dX9_keep_46 (by decide) ?_
    refine lv_icmp_ne (tgt := 62) C.x C.b dX9_keep_47 (by decide) (fun cb => ?_) (fun cb => ?_)
    · have hf := g_f cb hf
      exact pt62 σ _ _ ls G (lv_sub hl [0, 1, 2, 3] rfl) hf
    · have hf := g_t cb hf
      refine lv_aload_n C.x C.b dX9_keep_50 rfl (lv_at hl 0 rfl) ?_
      refine lv_iload_n C.x C.b dX9_keep_51 rfl (lv_at hl 3 rfl) ?_
      obtain ⟨q4, eq4, hf⟩ := g_b hf
      refine g_calli G (g_runV (As := [.int a3]) (rest := []) C G 9 0 (c_X9_isPerson l D cy A ad L σ hT a3 q4 eq4) ⟨tw1109, tw60, tw1106, ⟨tw1108, tw20⟩, hd_X9_isPerson⟩ (by decide) hT rfl ⟨rfl, by decide⟩ hl.1 rfl (Nat.le_of_ble_eq_true rfl) dX9_keep_52 ⟨Nat.le_of_ble_eq_true rfl, Nat.le_of_ble_eq_true rfl⟩) (fun H locs G => ?_)
      refine lv_if_eq (tgt := 62) C.x C.b dX9_keep_55 (by decide) (fun cb => ?_) (fun cb => ?_)
      · have hf := g_t cb hf
        exact pt62 σ _ _ ls G (lv_sub hl [0, 1, 2, 3] rfl) hf
      · have hf := g_f cb hf
        exact pt58 σ _ _ ls G (lv_sub hl [0, 1, 2, 3] rfl) hf
  have pt32 : ∀ (σ : gS) (H : Heap) (locs : List Loc) (ls : Array Slot), g_H D cy A ad L σ s.heap H locs → lv_has ls 6 [(0, .ref (ad 9 0)), (1, .int a1), (2, .int a2), (3, .int a3)] → f_X9_keep_P32 ad a1 a2 a3 σ = some (r0, σ0) → g_Wi p l e ({ frames := 2, cells := 0, slots := 0, locals := 44 } : Room) s m below meth c H locs 0 0 D cy A ad L [.ref (ad 9 0), .int a1, .int a2, .int a3] r0 σ0 (F0 m 32 ls []) := by
    intro σ H locs ls G hl hf
    unfold f_X9_keep_P32 at hf
    refine lv_iload_n C.x C.b dX9_keep_32 rfl (lv_at hl 2 rfl) ?_
    refine lv_iconst (v := (3 : Int32)) C.x C.b dX9_keep_33 (by decide) ?_
    refine lv_icmp_ne (tgt := 45) C.x C.b dX9_keep_34 (by decide) (fun cb => ?_) (fun cb => ?_)
    · have hf := g_f cb hf
      exact pt45 σ _ _ ls G (lv_sub hl [0, 1, 2, 3] rfl) hf
    · have hf := g_t cb hf
      refine lv_aload_n C.x C.b dX9_keep_37 rfl (lv_at hl 0 rfl) ?_
      refine lv_iload_n C.x C.b dX9_keep_38 rfl (lv_at hl 3 rfl) ?_
      obtain ⟨q3, eq3, hf⟩ := g_b hf
      refine g_calli G (g_runV (As := [.int a3]) (rest := []) C G 9 0 (c_X9_isOffice l D cy A ad L σ hT a3 q3 eq3) ⟨tw1129, tw60, tw1126, ⟨tw1128, tw22⟩, hd_X9_isOffice⟩ (by decide) hT rfl ⟨rfl, by decide⟩ hl.1 rfl (Nat.le_of_ble_eq_true rfl) dX9_keep_39 ⟨Nat.le_of_ble_eq_true rfl, Nat.le_of_ble_eq_true rfl⟩) (fun H locs G => ?_)
      refine lv_if_ne (tgt := 58) C.x C.b dX9_keep_42 (by decide) (fun cb => ?_) (fun cb => ?_)
      · have hf := g_f cb hf
        exact pt58 σ _ _ ls G (lv_sub hl [0, 1, 2, 3] rfl) hf
      · have hf := g_t cb hf
        exact pt45 σ _ _ ls G (lv_sub hl [0, 1, 2, 3] rfl) hf
  unfold f_X9_keep at hf
  refine lv_aload_n C.x C.b dX9_keep_0 rfl (lv_at hl 0 rfl) ?_
  refine lv_iload_n C.x C.b dX9_keep_1 rfl (lv_at hl 1 rfl) ?_
  obtain ⟨q1, eq1, hf⟩ := g_b hf
  refine g_calli G (g_runV (As := [.int a1]) (rest := []) C G 9 0 (c_X9_isShelf l D cy A ad L σ hT a1 q1 eq1) ⟨tw1333, tw60, tw1330, ⟨tw1332, tw50⟩, hd_X9_isShelf⟩ (by decide) hT rfl ⟨rfl, by decide⟩ hl.1 rfl (Nat.le_of_ble_eq_true rfl) dX9_keep_2 ⟨Nat.le_of_ble_eq_true rfl, Nat.le_of_ble_eq_true rfl⟩) (fun H locs G => ?_)
  refine lv_if_eq (tgt := 62) C.x C.b dX9_keep_5 (by decide) (fun cb => ?_) (fun cb => ?_)
  · have hf := g_t cb hf
    exact pt62 σ _ _ ls G (lv_sub hl [0, 1, 2, 3] rfl) hf
  · have hf := g_f cb hf
    refine lv_iload_n C.x C.b dX9_keep_8 rfl (lv_at hl 2 rfl) ?_
    refine lv_if_eq (tgt := 58) C.x C.b dX9_keep_9 (by decide) (fun cb => ?_) (fun cb => ?_)
    · have hf := g_t cb hf
      exact pt58 σ _ _ ls G (lv_sub hl [0, 1, 2, 3] rfl) hf
    · have hf := g_f cb hf
      refine lv_iload_n C.x C.b dX9_keep_12 rfl (lv_at hl 2 rfl) ?_
      refine lv_iconst (v := (1 : Int32)) C.x C.b dX9_keep_13 (by decide) ?_
      refine lv_icmp_ne (tgt := 32) C.x C.b dX9_keep_14 (by decide) (fun cb => ?_) (fun cb => ?_)
      · have hf := g_f cb hf
        exact pt32 σ _ _ ls G (lv_sub hl [0, 1, 2, 3] rfl) hf
      · have hf := g_t cb hf
        refine lv_aload_n C.x C.b dX9_keep_17 rfl (lv_at hl 0 rfl) ?_
        refine lv_iload_n C.x C.b dX9_keep_18 rfl (lv_at hl 3 rfl) ?_
        refine lv_iconst (v := (0 : Int32)) C.x C.b dX9_keep_19 (by decide) ?_
        refine lv_aload_n C.x C.b dX9_keep_20 rfl (lv_at hl 0 rfl) ?_
        refine g_geti C G 9 0 3 hT rfl ginX9 (by decide) tw953 dX9_keep_21 ?_
        refine lv_iconst (v := (1 : Int32)) C.x C.b dX9_keep_24 (by decide) ?_
        refine lv_isub C.x C.b dX9_keep_25 ?_
        obtain ⟨q2, eq2, hf⟩ := g_b hf
        refine g_calli G (g_runV (As := [.int a3, .int (0 : Int32), .int ((σ 9 0 3) - (1 : Int32))]) (rest := []) C G 9 0 (c_X9_in l D cy A ad L σ hT a3 (0 : Int32) ((σ 9 0 3) - (1 : Int32)) q2 eq2) ⟨tw1093, tw60, tw1090, ⟨tw1092, tw18⟩, hd_X9_in⟩ (by decide) hT rfl ⟨rfl, by decide⟩ hl.1 rfl (Nat.le_of_ble_eq_true rfl) dX9_keep_26 ⟨Nat.le_of_ble_eq_true rfl, Nat.le_of_ble_eq_true rfl⟩) (fun H locs G => ?_)
        refine lv_if_ne (tgt := 58) C.x C.b dX9_keep_29 (by decide) (fun cb => ?_) (fun cb => ?_)
        · have hf := g_f cb hf
          exact pt58 σ _ _ ls G (lv_sub hl [0, 1, 2, 3] rfl) hf
        · have hf := g_t cb hf
          exact pt32 σ _ _ ls G (lv_sub hl [0, 1, 2, 3] rfl) hf
def f_X9_make (ad : gA) (σ : gS) (a1 : Int32) (a2 : Int32) (a3 : Int32) : Option (Int32 × gS) := ((f_X9_isShelf ad σ a1).bind fun q1 => (if q1 = 0 then (some ((-1 : Int32), σ)) else ((f_X9_in ad σ a2 (3 : Int32) (4 : Int32)).bind fun q2 => (if q2 = 0 then (some ((-1 : Int32), σ)) else (if a3 ≤ (60 : Int32) then (if 0 ≤ a3 then (if g_ix a1 8 then (g_let (g_up σ 80 0 a1.toNatClampNeg a2) fun σ5 => (if g_ix a1 8 then (g_let (g_up σ5 82 0 a1.toNatClampNeg a3) fun σ8 => ((f_X9_wipe ad σ8 a1).bind fun σ9 => (some ((0 : Int32), σ9)))) else none)) else none) else (some ((-14 : Int32), σ))) else (some ((-1 : Int32), σ)))))))
theorem hd_X9_make : yX9_make.cls ≠ "java/lang/invoke/MethodHandle" ∧ yX9_make.cls ≠ "java/lang/invoke/VarHandle" ∧ (parseMethodDescriptor yX9_make.desc).map (fun d => d.parameters.length) = some 3 := by decide +kernel
set_option maxHeartbeats 4000000 in
set_option maxRecDepth 100000 in
theorem c_X9_make (l : Launch) (D : va_G) (cy : Nat → ClassId) (A : Nat → Prop) (ad : gA) (L : gL)  (σ : gS) (hT : (9, 0) ∈ L) (a1 : Int32) (a2 : Int32) (a3 : Int32) (r0 : Int32) (σ0 : gS) (hf : f_X9_make ad σ a1 a2 a3 = some (r0, σ0)) : g_Mi l yX9_make cX9_make 4 (some .int) ({ frames := 2, cells := 0, slots := 0, locals := 44 } : Room) D cy A ad L σ [.ref (ad 9 0), .int a1, .int a2, .int a3] r0 σ0 := by
  refine g_met (by decide) (Nat.le_of_ble_eq_true rfl) (fun p e s m below meth c C hr hlocks hnm G ls hl => ?_)
  have hl : lv_has ls 4 [(0, .ref (ad 9 0)), (1, .int a1), (2, .int a2), (3, .int a3)] := hl
  unfold f_X9_make at hf
  refine lv_aload_n C.x C.b dX9_make_0 rfl (lv_at hl 0 rfl) ?_
  refine lv_iload_n C.x C.b dX9_make_1 rfl (lv_at hl 1 rfl) ?_
  obtain ⟨q1, eq1, hf⟩ := g_b hf
  refine g_calli G (g_runV (As := [.int a1]) (rest := []) C G 9 0 (c_X9_isShelf l D cy A ad L σ hT a1 q1 eq1) ⟨tw1333, tw60, tw1330, ⟨tw1332, tw50⟩, hd_X9_isShelf⟩ (by decide) hT rfl ⟨rfl, by decide⟩ hl.1 rfl (Nat.le_of_ble_eq_true rfl) dX9_make_2 ⟨Nat.le_of_ble_eq_true rfl, Nat.le_of_ble_eq_true rfl⟩) (fun H locs G => ?_)
  refine lv_if_eq (tgt := 24) C.x C.b dX9_make_5 (by decide) (fun cb => ?_) (fun cb => ?_)
  · have hf := g_t cb hf
    refine lv_iconst (v := (-1 : Int32)) C.x C.b dX9_make_24 (by decide) ?_
    exact g_eii C G hr hlocks hf dX9_make_25
  · have hf := g_f cb hf
    refine lv_aload_n C.x C.b dX9_make_8 rfl (lv_at hl 0 rfl) ?_
    refine lv_iload_n C.x C.b dX9_make_9 rfl (lv_at hl 2 rfl) ?_
    refine lv_iconst (v := (3 : Int32)) C.x C.b dX9_make_10 (by decide) ?_
    refine lv_iconst (v := (4 : Int32)) C.x C.b dX9_make_11 (by decide) ?_
    obtain ⟨q2, eq2, hf⟩ := g_b hf
    refine g_calli G (g_runV (As := [.int a2, .int (3 : Int32), .int (4 : Int32)]) (rest := []) C G 9 0 (c_X9_in l D cy A ad L σ hT a2 (3 : Int32) (4 : Int32) q2 eq2) ⟨tw1093, tw60, tw1090, ⟨tw1092, tw18⟩, hd_X9_in⟩ (by decide) hT rfl ⟨rfl, by decide⟩ hl.1 rfl (Nat.le_of_ble_eq_true rfl) dX9_make_12 ⟨Nat.le_of_ble_eq_true rfl, Nat.le_of_ble_eq_true rfl⟩) (fun H locs G => ?_)
    refine lv_if_eq (tgt := 24) C.x C.b dX9_make_15 (by decide) (fun cb => ?_) (fun cb => ?_)
    · have hf := g_t cb hf
      refine lv_iconst (v := (-1 : Int32)) C.x C.b dX9_make_24 (by decide) ?_
      exact g_eii C G hr hlocks hf dX9_make_25
    · have hf := g_f cb hf
      refine lv_iload_n C.x C.b dX9_make_18 rfl (lv_at hl 3 rfl) ?_
      refine lv_bipush (v := (60 : Int32)) C.x C.b dX9_make_19 (by decide) ?_
      refine lv_icmp_le (tgt := 26) C.x C.b dX9_make_21 (by decide) (fun cb => ?_) (fun cb => ?_)
      · have hf := g_t cb hf
        refine lv_iload_n C.x C.b dX9_make_26 rfl (lv_at hl 3 rfl) ?_
        refine lv_if_ge (tgt := 33) C.x C.b dX9_make_27 (by decide) (fun cb => ?_) (fun cb => ?_)
        · have hf := g_t cb hf
          refine lv_aload_n C.x C.b dX9_make_33 rfl (lv_at hl 0 rfl) ?_
          refine g_getr C G 9 0 40 80 hT rfl ginX9 (by decide) tw990 dX9_make_34 (fun hL3 => ?_)
          refine lv_iload_n C.x C.b dX9_make_37 rfl (lv_at hl 1 rfl) ?_
          refine lv_iload_n C.x C.b dX9_make_38 rfl (lv_at hl 2 rfl) ?_
          obtain ⟨hi4, hf⟩ := g_ok hf
          refine g_iast (n := 8) C G 80 0 hL3 (by decide) rfl hi4 dX9_make_39 (fun H locs G => ?_)
          obtain ⟨σ5, eσ5, hf⟩ := g_lt hf
          rw [← eσ5] at G
          refine lv_aload_n C.x C.b dX9_make_40 rfl (lv_at hl 0 rfl) ?_
          refine g_getr C G 9 0 42 82 hT rfl ginX9 (by decide) tw992 dX9_make_41 (fun hL6 => ?_)
          refine lv_iload_n C.x C.b dX9_make_44 rfl (lv_at hl 1 rfl) ?_
          refine lv_iload_n C.x C.b dX9_make_45 rfl (lv_at hl 3 rfl) ?_
          obtain ⟨hi7, hf⟩ := g_ok hf
          refine g_iast (n := 8) C G 82 0 hL6 (by decide) rfl hi7 dX9_make_46 (fun H locs G => ?_)
          obtain ⟨σ8, eσ8, hf⟩ := g_lt hf
          rw [← eσ8] at G
          refine lv_aload_n C.x C.b dX9_make_47 rfl (lv_at hl 0 rfl) ?_
          refine lv_iload_n C.x C.b dX9_make_48 rfl (lv_at hl 1 rfl) ?_
          obtain ⟨σ9, eσ9, hf⟩ := g_b hf
          refine g_callv G (g_runV (As := [.int a1]) (rest := []) C G 9 0 (c_X9_wipe l D cy A ad L σ8 hT a1 σ9 eσ9) ⟨tw1337, tw60, tw1334, ⟨tw1336, tw51⟩, hd_X9_wipe⟩ (by decide) hT rfl ⟨rfl, by decide⟩ hl.1 rfl (Nat.le_of_ble_eq_true rfl) dX9_make_49 ⟨Nat.le_of_ble_eq_true rfl, Nat.le_of_ble_eq_true rfl⟩) (fun H locs G => ?_)
          refine lv_iconst (v := (0 : Int32)) C.x C.b dX9_make_52 (by decide) ?_
          exact g_eii C G hr hlocks hf dX9_make_53
        · have hf := g_f cb hf
          refine lv_bipush (v := (-14 : Int32)) C.x C.b dX9_make_30 (by decide) ?_
          exact g_eii C G hr hlocks hf dX9_make_32
      · have hf := g_f cb hf
        refine lv_iconst (v := (-1 : Int32)) C.x C.b dX9_make_24 (by decide) ?_
        exact g_eii C G hr hlocks hf dX9_make_25
def f_X9_element (ad : gA) (σ : gS) (a1 : Int32) (a2 : Int32) : Option (Int64 × gS) := ((f_X9_isShelf ad σ a1).bind fun q1 => (if q1 = 0 then (g_let (g_up σ 9 0 0 (1 : Int32)) fun σ16 => (if (σ16 9 0 0) ≤ 0 then (if g_ix (((200 : Int32) * a1) + a2) 1600 then (some (((σ16 83 0 ((((200 : Int32) * a1) + a2).toNatClampNeg))).toInt64, σ16)) else none) else (some ((0 : Int64), σ16)))) else (if g_ix a1 8 then (if (σ 80 0 a1.toNatClampNeg) < (3 : Int32) then (g_let (g_up σ 9 0 0 (2 : Int32)) fun σ4 => (if (σ4 9 0 0) ≤ 0 then (if g_ix (((200 : Int32) * a1) + a2) 1600 then (some (((σ4 83 0 ((((200 : Int32) * a1) + a2).toNatClampNeg))).toInt64, σ4)) else none) else (some ((0 : Int64), σ4)))) else (if g_ix a1 8 then ((f_X9_in ad σ a2 (0 : Int32) ((σ 82 0 a1.toNatClampNeg) - (1 : Int32))).bind fun q9 => (if q9 = 0 then (g_let (g_up σ 9 0 0 (2 : Int32)) fun σ13 => (if (σ13 9 0 0) ≤ 0 then (if g_ix (((200 : Int32) * a1) + a2) 1600 then (some (((σ13 83 0 ((((200 : Int32) * a1) + a2).toNatClampNeg))).toInt64, σ13)) else none) else (some ((0 : Int64), σ13)))) else (g_let (g_up σ 9 0 0 (0 : Int32)) fun σ10 => (if (σ10 9 0 0) ≤ 0 then (if g_ix (((200 : Int32) * a1) + a2) 1600 then (some (((σ10 83 0 ((((200 : Int32) * a1) + a2).toNatClampNeg))).toInt64, σ10)) else none) else (some ((0 : Int64), σ10)))))) else none)) else none)))
theorem hd_X9_element : yX9_element.cls ≠ "java/lang/invoke/MethodHandle" ∧ yX9_element.cls ≠ "java/lang/invoke/VarHandle" ∧ (parseMethodDescriptor yX9_element.desc).map (fun d => d.parameters.length) = some 2 := by decide +kernel
set_option maxHeartbeats 4000000 in
set_option maxRecDepth 100000 in
theorem c_X9_element (l : Launch) (D : va_G) (cy : Nat → ClassId) (A : Nat → Prop) (ad : gA) (L : gL)  (σ : gS) (hT : (9, 0) ∈ L) (a1 : Int32) (a2 : Int32) (r0 : Int64) (σ0 : gS) (hf : f_X9_element ad σ a1 a2 = some (r0, σ0)) : g_Ml l yX9_element cX9_element 3 (some .long) ({ frames := 2, cells := 0, slots := 0, locals := 44 } : Room) D cy A ad L σ [.ref (ad 9 0), .int a1, .int a2] r0 σ0 := by
  refine g_met (by decide) (Nat.le_of_ble_eq_true rfl) (fun p e s m below meth c C hr hlocks hnm G ls hl => ?_)
  have hl : lv_has ls 3 [(0, .ref (ad 9 0)), (1, .int a1), (2, .int a2)] := hl
  unfold f_X9_element at hf
  refine lv_aload_n C.x C.b dX9_element_0 rfl (lv_at hl 0 rfl) ?_
  refine lv_aload_n C.x C.b dX9_element_1 rfl (lv_at hl 0 rfl) ?_
  refine lv_iload_n C.x C.b dX9_element_2 rfl (lv_at hl 1 rfl) ?_
  obtain ⟨q1, eq1, hf⟩ := g_b hf
  refine g_calli G (g_runV (As := [.int a1]) (rest := [.ref (ad 9 0)]) C G 9 0 (c_X9_isShelf l D cy A ad L σ hT a1 q1 eq1) ⟨tw1333, tw60, tw1330, ⟨tw1332, tw50⟩, hd_X9_isShelf⟩ (by decide) hT rfl ⟨rfl, by decide⟩ hl.1 rfl (Nat.le_of_ble_eq_true rfl) dX9_element_3 ⟨Nat.le_of_ble_eq_true rfl, Nat.le_of_ble_eq_true rfl⟩) (fun H locs G => ?_)
  refine lv_if_ne (tgt := 13) C.x C.b dX9_element_6 (by decide) (fun cb => ?_) (fun cb => ?_)
  · have hf := g_f cb hf
    refine lv_aload_n C.x C.b dX9_element_13 rfl (lv_at hl 0 rfl) ?_
    refine g_getr C G 9 0 40 80 hT rfl ginX9 (by decide) tw990 dX9_element_14 (fun hL2 => ?_)
    refine lv_iload_n C.x C.b dX9_element_17 rfl (lv_at hl 1 rfl) ?_
    obtain ⟨hi3, hf⟩ := g_ok hf
    refine g_iald (n := 8) C G 80 0 hL2 (by decide) rfl hi3 dX9_element_18 ?_
    refine lv_iconst (v := (3 : Int32)) C.x C.b dX9_element_19 (by decide) ?_
    refine lv_icmp_lt (tgt := 40) C.x C.b dX9_element_20 (by decide) (fun cb => ?_) (fun cb => ?_)
    · have hf := g_t cb hf
      refine lv_iconst (v := (2 : Int32)) C.x C.b dX9_element_40 (by decide) ?_
      refine lv_goto (tgt := 45) C.x C.b dX9_element_41 (by decide) ?_
      refine g_puti C G 9 0 0 hT (v := (2 : Int32)) rfl ginX9 tyX9_ok nmX9 (by decide) ⟨rfl, rfl⟩ tw950 dX9_element_45 (fun H locs G => ?_)
      obtain ⟨σ4, eσ4, hf⟩ := g_lt hf
      rw [← eσ4] at G
      refine lv_aload_n C.x C.b dX9_element_48 rfl (lv_at hl 0 rfl) ?_
      refine g_geti C G 9 0 0 hT rfl ginX9 (by decide) tw950 dX9_element_49 ?_
      refine lv_if_le (tgt := 59) C.x C.b dX9_element_52 (by decide) (fun cb => ?_) (fun cb => ?_)
      · have hf := g_t cb hf
        refine lv_aload_n C.x C.b dX9_element_59 rfl (lv_at hl 0 rfl) ?_
        refine g_getr C G 9 0 43 83 hT rfl ginX9 (by decide) tw993 dX9_element_60 (fun hL5 => ?_)
        refine lv_sipush (v := (200 : Int32)) C.x C.b dX9_element_63 (by decide) ?_
        refine lv_iload_n C.x C.b dX9_element_66 rfl (lv_at hl 1 rfl) ?_
        refine lv_imul C.x C.b dX9_element_67 ?_
        refine lv_iload_n C.x C.b dX9_element_68 rfl (lv_at hl 2 rfl) ?_
        refine lv_iadd C.x C.b dX9_element_69 ?_
        obtain ⟨hi6, hf⟩ := g_ok hf
        refine g_iald (n := 1600) C G 83 0 hL5 (by decide) rfl hi6 dX9_element_70 ?_
        refine lv_i2l C.x C.b dX9_element_71 rfl ?_
        exact g_eli C G hr hlocks hf dX9_element_72
      · have hf := g_f cb hf
        refine lv_lconst (v := (0 : Int64)) C.x C.b dX9_element_55 (by decide) ?_
        refine lv_goto (tgt := 72) C.x C.b dX9_element_56 (by decide) ?_
        exact g_eli C G hr hlocks hf dX9_element_72
    · have hf := g_f cb hf
      refine lv_aload_n C.x C.b dX9_element_23 rfl (lv_at hl 0 rfl) ?_
      refine lv_iload_n C.x C.b dX9_element_24 rfl (lv_at hl 2 rfl) ?_
      refine lv_iconst (v := (0 : Int32)) C.x C.b dX9_element_25 (by decide) ?_
      refine lv_aload_n C.x C.b dX9_element_26 rfl (lv_at hl 0 rfl) ?_
      refine g_getr C G 9 0 42 82 hT rfl ginX9 (by decide) tw992 dX9_element_27 (fun hL7 => ?_)
      refine lv_iload_n C.x C.b dX9_element_30 rfl (lv_at hl 1 rfl) ?_
      obtain ⟨hi8, hf⟩ := g_ok hf
      refine g_iald (n := 8) C G 82 0 hL7 (by decide) rfl hi8 dX9_element_31 ?_
      refine lv_iconst (v := (1 : Int32)) C.x C.b dX9_element_32 (by decide) ?_
      refine lv_isub C.x C.b dX9_element_33 ?_
      obtain ⟨q9, eq9, hf⟩ := g_b hf
      refine g_calli G (g_runV (As := [.int a2, .int (0 : Int32), .int ((σ 82 0 a1.toNatClampNeg) - (1 : Int32))]) (rest := [.ref (ad 9 0)]) C G 9 0 (c_X9_in l D cy A ad L σ hT a2 (0 : Int32) ((σ 82 0 a1.toNatClampNeg) - (1 : Int32)) q9 eq9) ⟨tw1093, tw60, tw1090, ⟨tw1092, tw18⟩, hd_X9_in⟩ (by decide) hT rfl ⟨rfl, by decide⟩ hl.1 rfl (Nat.le_of_ble_eq_true rfl) dX9_element_34 ⟨Nat.le_of_ble_eq_true rfl, Nat.le_of_ble_eq_true rfl⟩) (fun H locs G => ?_)
      refine lv_if_ne (tgt := 44) C.x C.b dX9_element_37 (by decide) (fun cb => ?_) (fun cb => ?_)
      · have hf := g_f cb hf
        refine lv_iconst (v := (0 : Int32)) C.x C.b dX9_element_44 (by decide) ?_
        refine g_puti C G 9 0 0 hT (v := (0 : Int32)) rfl ginX9 tyX9_ok nmX9 (by decide) ⟨rfl, rfl⟩ tw950 dX9_element_45 (fun H locs G => ?_)
        obtain ⟨σ10, eσ10, hf⟩ := g_lt hf
        rw [← eσ10] at G
        refine lv_aload_n C.x C.b dX9_element_48 rfl (lv_at hl 0 rfl) ?_
        refine g_geti C G 9 0 0 hT rfl ginX9 (by decide) tw950 dX9_element_49 ?_
        refine lv_if_le (tgt := 59) C.x C.b dX9_element_52 (by decide) (fun cb => ?_) (fun cb => ?_)
        · have hf := g_t cb hf
          refine lv_aload_n C.x C.b dX9_element_59 rfl (lv_at hl 0 rfl) ?_
          refine g_getr C G 9 0 43 83 hT rfl ginX9 (by decide) tw993 dX9_element_60 (fun hL11 => ?_)
          refine lv_sipush (v := (200 : Int32)) C.x C.b dX9_element_63 (by decide) ?_
          refine lv_iload_n C.x C.b dX9_element_66 rfl (lv_at hl 1 rfl) ?_
          refine lv_imul C.x C.b dX9_element_67 ?_
          refine lv_iload_n C.x C.b dX9_element_68 rfl (lv_at hl 2 rfl) ?_
          refine lv_iadd C.x C.b dX9_element_69 ?_
          obtain ⟨hi12, hf⟩ := g_ok hf
          refine g_iald (n := 1600) C G 83 0 hL11 (by decide) rfl hi12 dX9_element_70 ?_
          refine lv_i2l C.x C.b dX9_element_71 rfl ?_
          exact g_eli C G hr hlocks hf dX9_element_72
        · have hf := g_f cb hf
          refine lv_lconst (v := (0 : Int64)) C.x C.b dX9_element_55 (by decide) ?_
          refine lv_goto (tgt := 72) C.x C.b dX9_element_56 (by decide) ?_
          exact g_eli C G hr hlocks hf dX9_element_72
      · have hf := g_t cb hf
        refine lv_iconst (v := (2 : Int32)) C.x C.b dX9_element_40 (by decide) ?_
        refine lv_goto (tgt := 45) C.x C.b dX9_element_41 (by decide) ?_
        refine g_puti C G 9 0 0 hT (v := (2 : Int32)) rfl ginX9 tyX9_ok nmX9 (by decide) ⟨rfl, rfl⟩ tw950 dX9_element_45 (fun H locs G => ?_)
        obtain ⟨σ13, eσ13, hf⟩ := g_lt hf
        rw [← eσ13] at G
        refine lv_aload_n C.x C.b dX9_element_48 rfl (lv_at hl 0 rfl) ?_
        refine g_geti C G 9 0 0 hT rfl ginX9 (by decide) tw950 dX9_element_49 ?_
        refine lv_if_le (tgt := 59) C.x C.b dX9_element_52 (by decide) (fun cb => ?_) (fun cb => ?_)
        · have hf := g_t cb hf
          refine lv_aload_n C.x C.b dX9_element_59 rfl (lv_at hl 0 rfl) ?_
          refine g_getr C G 9 0 43 83 hT rfl ginX9 (by decide) tw993 dX9_element_60 (fun hL14 => ?_)
          refine lv_sipush (v := (200 : Int32)) C.x C.b dX9_element_63 (by decide) ?_
          refine lv_iload_n C.x C.b dX9_element_66 rfl (lv_at hl 1 rfl) ?_
          refine lv_imul C.x C.b dX9_element_67 ?_
          refine lv_iload_n C.x C.b dX9_element_68 rfl (lv_at hl 2 rfl) ?_
          refine lv_iadd C.x C.b dX9_element_69 ?_
          obtain ⟨hi15, hf⟩ := g_ok hf
          refine g_iald (n := 1600) C G 83 0 hL14 (by decide) rfl hi15 dX9_element_70 ?_
          refine lv_i2l C.x C.b dX9_element_71 rfl ?_
          exact g_eli C G hr hlocks hf dX9_element_72
        · have hf := g_f cb hf
          refine lv_lconst (v := (0 : Int64)) C.x C.b dX9_element_55 (by decide) ?_
          refine lv_goto (tgt := 72) C.x C.b dX9_element_56 (by decide) ?_
          exact g_eli C G hr hlocks hf dX9_element_72
  · have hf := g_t cb hf
    refine lv_iconst (v := (1 : Int32)) C.x C.b dX9_element_9 (by decide) ?_
    refine lv_goto (tgt := 45) C.x C.b dX9_element_10 (by decide) ?_
    refine g_puti C G 9 0 0 hT (v := (1 : Int32)) rfl ginX9 tyX9_ok nmX9 (by decide) ⟨rfl, rfl⟩ tw950 dX9_element_45 (fun H locs G => ?_)
    obtain ⟨σ16, eσ16, hf⟩ := g_lt hf
    rw [← eσ16] at G
    refine lv_aload_n C.x C.b dX9_element_48 rfl (lv_at hl 0 rfl) ?_
    refine g_geti C G 9 0 0 hT rfl ginX9 (by decide) tw950 dX9_element_49 ?_
    refine lv_if_le (tgt := 59) C.x C.b dX9_element_52 (by decide) (fun cb => ?_) (fun cb => ?_)
    · have hf := g_t cb hf
      refine lv_aload_n C.x C.b dX9_element_59 rfl (lv_at hl 0 rfl) ?_
      refine g_getr C G 9 0 43 83 hT rfl ginX9 (by decide) tw993 dX9_element_60 (fun hL17 => ?_)
      refine lv_sipush (v := (200 : Int32)) C.x C.b dX9_element_63 (by decide) ?_
      refine lv_iload_n C.x C.b dX9_element_66 rfl (lv_at hl 1 rfl) ?_
      refine lv_imul C.x C.b dX9_element_67 ?_
      refine lv_iload_n C.x C.b dX9_element_68 rfl (lv_at hl 2 rfl) ?_
      refine lv_iadd C.x C.b dX9_element_69 ?_
      obtain ⟨hi18, hf⟩ := g_ok hf
      refine g_iald (n := 1600) C G 83 0 hL17 (by decide) rfl hi18 dX9_element_70 ?_
      refine lv_i2l C.x C.b dX9_element_71 rfl ?_
      exact g_eli C G hr hlocks hf dX9_element_72
    · have hf := g_f cb hf
      refine lv_lconst (v := (0 : Int64)) C.x C.b dX9_element_55 (by decide) ?_
      refine lv_goto (tgt := 72) C.x C.b dX9_element_56 (by decide) ?_
      exact g_eli C G hr hlocks hf dX9_element_72
def f_X9_copy_P188 (a5 : Int32) (σ : gS) : Option (Int32 × gS) := (some (a5, σ))
def f_X9_copy_L152 (a3 : Int32) (a4 : Int32) (a5 : Int32) (K152 : gS → Option (Int32 × gS)) : Nat → gS → Int32 → Option (Int32 × gS)
  | 0, _, _ => none
  | n + 1, σ, v6 => (if a5 ≤ v6 then (K152 σ) else (if g_ix v6 200 then (if g_ix ((((200 : Int32) * a3) + a4) + v6) 1600 then (g_let (g_up σ 83 0 (((((200 : Int32) * a3) + a4) + v6).toNatClampNeg) (σ 84 0 v6.toNatClampNeg)) fun σ26 => (f_X9_copy_L152 a3 a4 a5 K152 n σ26 (v6 + (1 : Int32)))) else none) else none))
def f_X9_copy_P149 (a3 : Int32) (a4 : Int32) (a5 : Int32) (σ : gS) : Option (Int32 × gS) := (f_X9_copy_L152 a3 a4 a5 (f_X9_copy_P188 a5) g_fuel σ (0 : Int32))
def f_X9_copy_L114 (a1 : Int32) (a2 : Int32) (a5 : Int32) (K114 : gS → Option (Int32 × gS)) : Nat → gS → Int32 → Option (Int32 × gS)
  | 0, _, _ => none
  | n + 1, σ, v6 => (if a5 ≤ v6 then (K114 σ) else (if g_ix ((((200 : Int32) * a1) + a2) + v6) 1600 then (if g_ix v6 200 then (g_let (g_up σ 84 0 v6.toNatClampNeg (σ 83 0 (((((200 : Int32) * a1) + a2) + v6).toNatClampNeg))) fun σ21 => (f_X9_copy_L114 a1 a2 a5 K114 n σ21 (v6 + (1 : Int32)))) else none) else none))
def f_X9_copy (ad : gA) (σ : gS) (a1 : Int32) (a2 : Int32) (a3 : Int32) (a4 : Int32) (a5 : Int32) : Option (Int32 × gS) := ((f_X9_isShelf ad σ a1).bind fun q1 => (if q1 = 0 then (some ((-1 : Int32), σ)) else ((f_X9_isShelf ad σ a3).bind fun q2 => (if q2 = 0 then (some ((-1 : Int32), σ)) else (if g_ix a1 8 then (if (σ 80 0 a1.toNatClampNeg) = 0 then (some ((-11 : Int32), σ)) else (if g_ix a3 8 then (if (σ 80 0 a3.toNatClampNeg) = 0 then (some ((-11 : Int32), σ)) else (if g_ix a1 8 then (if (σ 80 0 a1.toNatClampNeg) < (3 : Int32) then (some ((-12 : Int32), σ)) else (if g_ix a1 8 then (if g_ix a3 8 then (if (σ 80 0 a1.toNatClampNeg) = (σ 80 0 a3.toNatClampNeg) then (if a5 < 0 then (some ((-13 : Int32), σ)) else (if a2 < 0 then (some ((-13 : Int32), σ)) else (if a4 < 0 then (some ((-13 : Int32), σ)) else (if g_ix a1 8 then (if ((σ 82 0 a1.toNatClampNeg) - a5) < a2 then (some ((-13 : Int32), σ)) else (if g_ix a3 8 then (if a4 ≤ ((σ 82 0 a3.toNatClampNeg) - a5) then (f_X9_copy_L114 a1 a2 a5 (f_X9_copy_P149 a3 a4 a5) g_fuel σ (0 : Int32)) else (some ((-13 : Int32), σ))) else none)) else none)))) else (some ((-12 : Int32), σ))) else none) else none)) else none)) else none)) else none)))))
theorem hd_X9_copy : yX9_copy.cls ≠ "java/lang/invoke/MethodHandle" ∧ yX9_copy.cls ≠ "java/lang/invoke/VarHandle" ∧ (parseMethodDescriptor yX9_copy.desc).map (fun d => d.parameters.length) = some 5 := by decide +kernel
set_option maxHeartbeats 4000000 in
set_option maxRecDepth 100000 in
theorem c_X9_copy (l : Launch) (D : va_G) (cy : Nat → ClassId) (A : Nat → Prop) (ad : gA) (L : gL)  (σ : gS) (hT : (9, 0) ∈ L) (a1 : Int32) (a2 : Int32) (a3 : Int32) (a4 : Int32) (a5 : Int32) (r0 : Int32) (σ0 : gS) (hf : f_X9_copy ad σ a1 a2 a3 a4 a5 = some (r0, σ0)) : g_Mi l yX9_copy cX9_copy 7 (some .int) ({ frames := 2, cells := 0, slots := 0, locals := 44 } : Room) D cy A ad L σ [.ref (ad 9 0), .int a1, .int a2, .int a3, .int a4, .int a5] r0 σ0 := by
  refine g_met (by decide) (Nat.le_of_ble_eq_true rfl) (fun p e s m below meth c C hr hlocks hnm G ls hl => ?_)
  have hl : lv_has ls 7 [(0, .ref (ad 9 0)), (1, .int a1), (2, .int a2), (3, .int a3), (4, .int a4), (5, .int a5)] := hl
  have pt188 : ∀ (σ : gS) (H : Heap) (locs : List Loc) (ls : Array Slot), g_H D cy A ad L σ s.heap H locs → lv_has ls 7 [(5, .int a5)] → f_X9_copy_P188 a5 σ = some (r0, σ0) → g_Wi p l e ({ frames := 2, cells := 0, slots := 0, locals := 44 } : Room) s m below meth c H locs 0 0 D cy A ad L [.ref (ad 9 0), .int a1, .int a2, .int a3, .int a4, .int a5] r0 σ0 (F0 m 188 ls []) := by
    intro σ H locs ls G hl hf
    unfold f_X9_copy_P188 at hf
    refine lv_iload C.x C.b dX9_copy_188 (lv_at hl 0 rfl) ?_
    exact g_eii C G hr hlocks hf dX9_copy_190
  have lp152 : ∀ n152 : Nat, ∀ (σ : gS) (v6 : Int32) (H : Heap) (locs : List Loc) (ls : Array Slot), g_H D cy A ad L σ s.heap H locs → lv_has ls 7 [(0, .ref (ad 9 0)), (3, .int a3), (4, .int a4), (5, .int a5), (6, .int v6)] → f_X9_copy_L152 a3 a4 a5 (f_X9_copy_P188 a5) n152 σ v6 = some (r0, σ0) → g_Wi p l e ({ frames := 2, cells := 0, slots := 0, locals := 44 } : Room) s m below meth c H locs 0 0 D cy A ad L [.ref (ad 9 0), .int a1, .int a2, .int a3, .int a4, .int a5] r0 σ0 (F0 m 152 ls []) := by
    intro n152
    induction n152 with
    | zero =>
      intro σ v6 H locs ls G hl hf
      rw [f_X9_copy_L152] at hf
      cases hf
    | succ n152 ih152 =>
      intro σ v6 H locs ls G hl hf
      rw [f_X9_copy_L152] at hf
      refine lv_iload C.x C.b dX9_copy_152 (lv_at hl 4 rfl) ?_
      refine lv_iload C.x C.b dX9_copy_154 (lv_at hl 3 rfl) ?_
      refine lv_icmp_ge (tgt := 188) C.x C.b dX9_copy_156 (by decide) (fun cb => ?_) (fun cb => ?_)
      · have hf := g_t cb hf
        exact pt188 σ _ _ ls G (lv_sub hl [3] rfl) hf
      · have hf := g_f cb hf
        refine lv_aload_n C.x C.b dX9_copy_159 rfl (lv_at hl 0 rfl) ?_
        refine g_getr C G 9 0 43 83 hT rfl ginX9 (by decide) tw993 dX9_copy_160 (fun hL22 => ?_)
        refine lv_sipush (v := (200 : Int32)) C.x C.b dX9_copy_163 (by decide) ?_
        refine lv_iload_n C.x C.b dX9_copy_166 rfl (lv_at hl 1 rfl) ?_
        refine lv_imul C.x C.b dX9_copy_167 ?_
        refine lv_iload C.x C.b dX9_copy_168 (lv_at hl 2 rfl) ?_
        refine lv_iadd C.x C.b dX9_copy_170 ?_
        refine lv_iload C.x C.b dX9_copy_171 (lv_at hl 4 rfl) ?_
        refine lv_iadd C.x C.b dX9_copy_173 ?_
        refine lv_aload_n C.x C.b dX9_copy_174 rfl (lv_at hl 0 rfl) ?_
        refine g_getr C G 9 0 44 84 hT rfl ginX9 (by decide) tw994 dX9_copy_175 (fun hL23 => ?_)
        refine lv_iload C.x C.b dX9_copy_178 (lv_at hl 4 rfl) ?_
        obtain ⟨hi24, hf⟩ := g_ok hf
        refine g_iald (n := 200) C G 84 0 hL23 (by decide) rfl hi24 dX9_copy_180 ?_
        obtain ⟨hi25, hf⟩ := g_ok hf
        refine g_iast (n := 1600) C G 83 0 hL22 (by decide) rfl hi25 dX9_copy_181 (fun H locs G => ?_)
        obtain ⟨σ26, eσ26, hf⟩ := g_lt hf
        rw [← eσ26] at G
        refine lv_iinc (v := (v6 + (1 : Int32))) (lv' := [(6, .int (v6 + (1 : Int32))), (0, .ref (ad 9 0)), (3, .int a3), (4, .int a4), (5, .int a5)]) C.x C.b dX9_copy_182 hl (k := 4) rfl rfl (by decide) rfl (fun ls hl => ?_)
        refine lv_goto (tgt := 152) C.x C.b dX9_copy_185 (by decide) ?_
        exact ih152 σ26 (v6 + (1 : Int32)) _ _ ls G (lv_sub hl [1, 2, 3, 4, 0] rfl) hf
  have pt149 : ∀ (σ : gS) (H : Heap) (locs : List Loc) (ls : Array Slot), g_H D cy A ad L σ s.heap H locs → lv_has ls 7 [(0, .ref (ad 9 0)), (3, .int a3), (4, .int a4), (5, .int a5)] → f_X9_copy_P149 a3 a4 a5 σ = some (r0, σ0) → g_Wi p l e ({ frames := 2, cells := 0, slots := 0, locals := 44 } : Room) s m below meth c H locs 0 0 D cy A ad L [.ref (ad 9 0), .int a1, .int a2, .int a3, .int a4, .int a5] r0 σ0 (F0 m 149 ls []) := by
    intro σ H locs ls G hl hf
    unfold f_X9_copy_P149 at hf
    refine lv_iconst (v := (0 : Int32)) C.x C.b dX9_copy_149 (by decide) ?_
    refine lv_istore (lv' := [(6, .int (0 : Int32)), (0, .ref (ad 9 0)), (3, .int a3), (4, .int a4), (5, .int a5)]) C.x C.b dX9_copy_150 hl (by decide) rfl (fun ls hl => ?_)
    exact lp152 g_fuel σ (0 : Int32) _ _ ls G (lv_sub hl [1, 2, 3, 4, 0] rfl) hf
  have lp114 : ∀ n114 : Nat, ∀ (σ : gS) (v6 : Int32) (H : Heap) (locs : List Loc) (ls : Array Slot), g_H D cy A ad L σ s.heap H locs → lv_has ls 7 [(0, .ref (ad 9 0)), (1, .int a1), (2, .int a2), (3, .int a3), (4, .int a4), (5, .int a5), (6, .int v6)] → f_X9_copy_L114 a1 a2 a5 (f_X9_copy_P149 a3 a4 a5) n114 σ v6 = some (r0, σ0) → g_Wi p l e ({ frames := 2, cells := 0, slots := 0, locals := 44 } : Room) s m below meth c H locs 0 0 D cy A ad L [.ref (ad 9 0), .int a1, .int a2, .int a3, .int a4, .int a5] r0 σ0 (F0 m 114 ls []) := by
    intro n114
    induction n114 with
    | zero =>
      intro σ v6 H locs ls G hl hf
      rw [f_X9_copy_L114] at hf
      cases hf
    | succ n114 ih114 =>
      intro σ v6 H locs ls G hl hf
      rw [f_X9_copy_L114] at hf
      refine lv_iload C.x C.b dX9_copy_114 (lv_at hl 6 rfl) ?_
      refine lv_iload C.x C.b dX9_copy_116 (lv_at hl 5 rfl) ?_
      refine lv_icmp_ge (tgt := 149) C.x C.b dX9_copy_118 (by decide) (fun cb => ?_) (fun cb => ?_)
      · have hf := g_t cb hf
        exact pt149 σ _ _ ls G (lv_sub hl [0, 3, 4, 5] rfl) hf
      · have hf := g_f cb hf
        refine lv_aload_n C.x C.b dX9_copy_121 rfl (lv_at hl 0 rfl) ?_
        refine g_getr C G 9 0 44 84 hT rfl ginX9 (by decide) tw994 dX9_copy_122 (fun hL17 => ?_)
        refine lv_iload C.x C.b dX9_copy_125 (lv_at hl 6 rfl) ?_
        refine lv_aload_n C.x C.b dX9_copy_127 rfl (lv_at hl 0 rfl) ?_
        refine g_getr C G 9 0 43 83 hT rfl ginX9 (by decide) tw993 dX9_copy_128 (fun hL18 => ?_)
        refine lv_sipush (v := (200 : Int32)) C.x C.b dX9_copy_131 (by decide) ?_
        refine lv_iload_n C.x C.b dX9_copy_134 rfl (lv_at hl 1 rfl) ?_
        refine lv_imul C.x C.b dX9_copy_135 ?_
        refine lv_iload_n C.x C.b dX9_copy_136 rfl (lv_at hl 2 rfl) ?_
        refine lv_iadd C.x C.b dX9_copy_137 ?_
        refine lv_iload C.x C.b dX9_copy_138 (lv_at hl 6 rfl) ?_
        refine lv_iadd C.x C.b dX9_copy_140 ?_
        obtain ⟨hi19, hf⟩ := g_ok hf
        refine g_iald (n := 1600) C G 83 0 hL18 (by decide) rfl hi19 dX9_copy_141 ?_
        obtain ⟨hi20, hf⟩ := g_ok hf
        refine g_iast (n := 200) C G 84 0 hL17 (by decide) rfl hi20 dX9_copy_142 (fun H locs G => ?_)
        obtain ⟨σ21, eσ21, hf⟩ := g_lt hf
        rw [← eσ21] at G
        refine lv_iinc (v := (v6 + (1 : Int32))) (lv' := [(6, .int (v6 + (1 : Int32))), (0, .ref (ad 9 0)), (1, .int a1), (2, .int a2), (3, .int a3), (4, .int a4), (5, .int a5)]) C.x C.b dX9_copy_143 hl (k := 6) rfl rfl (by decide) rfl (fun ls hl => ?_)
        refine lv_goto (tgt := 114) C.x C.b dX9_copy_146 (by decide) ?_
        exact ih114 σ21 (v6 + (1 : Int32)) _ _ ls G (lv_sub hl [1, 2, 3, 4, 5, 6, 0] rfl) hf
  unfold f_X9_copy at hf
  refine lv_aload_n C.x C.b dX9_copy_0 rfl (lv_at hl 0 rfl) ?_
  refine lv_iload_n C.x C.b dX9_copy_1 rfl (lv_at hl 1 rfl) ?_
  obtain ⟨q1, eq1, hf⟩ := g_b hf
  refine g_calli G (g_runV (As := [.int a1]) (rest := []) C G 9 0 (c_X9_isShelf l D cy A ad L σ hT a1 q1 eq1) ⟨tw1333, tw60, tw1330, ⟨tw1332, tw50⟩, hd_X9_isShelf⟩ (by decide) hT rfl ⟨rfl, by decide⟩ hl.1 rfl (Nat.le_of_ble_eq_true rfl) dX9_copy_2 ⟨Nat.le_of_ble_eq_true rfl, Nat.le_of_ble_eq_true rfl⟩) (fun H locs G => ?_)
  refine lv_if_eq (tgt := 16) C.x C.b dX9_copy_5 (by decide) (fun cb => ?_) (fun cb => ?_)
  · have hf := g_t cb hf
    refine lv_iconst (v := (-1 : Int32)) C.x C.b dX9_copy_16 (by decide) ?_
    exact g_eii C G hr hlocks hf dX9_copy_17
  · have hf := g_f cb hf
    refine lv_aload_n C.x C.b dX9_copy_8 rfl (lv_at hl 0 rfl) ?_
    refine lv_iload_n C.x C.b dX9_copy_9 rfl (lv_at hl 3 rfl) ?_
    obtain ⟨q2, eq2, hf⟩ := g_b hf
    refine g_calli G (g_runV (As := [.int a3]) (rest := []) C G 9 0 (c_X9_isShelf l D cy A ad L σ hT a3 q2 eq2) ⟨tw1333, tw60, tw1330, ⟨tw1332, tw50⟩, hd_X9_isShelf⟩ (by decide) hT rfl ⟨rfl, by decide⟩ hl.1 rfl (Nat.le_of_ble_eq_true rfl) dX9_copy_10 ⟨Nat.le_of_ble_eq_true rfl, Nat.le_of_ble_eq_true rfl⟩) (fun H locs G => ?_)
    refine lv_if_ne (tgt := 18) C.x C.b dX9_copy_13 (by decide) (fun cb => ?_) (fun cb => ?_)
    · have hf := g_f cb hf
      refine lv_aload_n C.x C.b dX9_copy_18 rfl (lv_at hl 0 rfl) ?_
      refine g_getr C G 9 0 40 80 hT rfl ginX9 (by decide) tw990 dX9_copy_19 (fun hL3 => ?_)
      refine lv_iload_n C.x C.b dX9_copy_22 rfl (lv_at hl 1 rfl) ?_
      obtain ⟨hi4, hf⟩ := g_ok hf
      refine g_iald (n := 8) C G 80 0 hL3 (by decide) rfl hi4 dX9_copy_23 ?_
      refine lv_if_eq (tgt := 36) C.x C.b dX9_copy_24 (by decide) (fun cb => ?_) (fun cb => ?_)
      · have hf := g_t cb hf
        refine lv_bipush (v := (-11 : Int32)) C.x C.b dX9_copy_36 (by decide) ?_
        exact g_eii C G hr hlocks hf dX9_copy_38
      · have hf := g_f cb hf
        refine lv_aload_n C.x C.b dX9_copy_27 rfl (lv_at hl 0 rfl) ?_
        refine g_getr C G 9 0 40 80 hT rfl ginX9 (by decide) tw990 dX9_copy_28 (fun hL5 => ?_)
        refine lv_iload_n C.x C.b dX9_copy_31 rfl (lv_at hl 3 rfl) ?_
        obtain ⟨hi6, hf⟩ := g_ok hf
        refine g_iald (n := 8) C G 80 0 hL5 (by decide) rfl hi6 dX9_copy_32 ?_
        refine lv_if_ne (tgt := 39) C.x C.b dX9_copy_33 (by decide) (fun cb => ?_) (fun cb => ?_)
        · have hf := g_f cb hf
          refine lv_aload_n C.x C.b dX9_copy_39 rfl (lv_at hl 0 rfl) ?_
          refine g_getr C G 9 0 40 80 hT rfl ginX9 (by decide) tw990 dX9_copy_40 (fun hL7 => ?_)
          refine lv_iload_n C.x C.b dX9_copy_43 rfl (lv_at hl 1 rfl) ?_
          obtain ⟨hi8, hf⟩ := g_ok hf
          refine g_iald (n := 8) C G 80 0 hL7 (by decide) rfl hi8 dX9_copy_44 ?_
          refine lv_iconst (v := (3 : Int32)) C.x C.b dX9_copy_45 (by decide) ?_
          refine lv_icmp_lt (tgt := 64) C.x C.b dX9_copy_46 (by decide) (fun cb => ?_) (fun cb => ?_)
          · have hf := g_t cb hf
            refine lv_bipush (v := (-12 : Int32)) C.x C.b dX9_copy_64 (by decide) ?_
            exact g_eii C G hr hlocks hf dX9_copy_66
          · have hf := g_f cb hf
            refine lv_aload_n C.x C.b dX9_copy_49 rfl (lv_at hl 0 rfl) ?_
            refine g_getr C G 9 0 40 80 hT rfl ginX9 (by decide) tw990 dX9_copy_50 (fun hL9 => ?_)
            refine lv_iload_n C.x C.b dX9_copy_53 rfl (lv_at hl 1 rfl) ?_
            obtain ⟨hi10, hf⟩ := g_ok hf
            refine g_iald (n := 8) C G 80 0 hL9 (by decide) rfl hi10 dX9_copy_54 ?_
            refine lv_aload_n C.x C.b dX9_copy_55 rfl (lv_at hl 0 rfl) ?_
            refine g_getr C G 9 0 40 80 hT rfl ginX9 (by decide) tw990 dX9_copy_56 (fun hL11 => ?_)
            refine lv_iload_n C.x C.b dX9_copy_59 rfl (lv_at hl 3 rfl) ?_
            obtain ⟨hi12, hf⟩ := g_ok hf
            refine g_iald (n := 8) C G 80 0 hL11 (by decide) rfl hi12 dX9_copy_60 ?_
            refine lv_icmp_eq (tgt := 67) C.x C.b dX9_copy_61 (by decide) (fun cb => ?_) (fun cb => ?_)
            · have hf := g_t cb hf
              refine lv_iload C.x C.b dX9_copy_67 (lv_at hl 5 rfl) ?_
              refine lv_if_lt (tgt := 108) C.x C.b dX9_copy_69 (by decide) (fun cb => ?_) (fun cb => ?_)
              · have hf := g_t cb hf
                refine lv_bipush (v := (-13 : Int32)) C.x C.b dX9_copy_108 (by decide) ?_
                exact g_eii C G hr hlocks hf dX9_copy_110
              · have hf := g_f cb hf
                refine lv_iload_n C.x C.b dX9_copy_72 rfl (lv_at hl 2 rfl) ?_
                refine lv_if_lt (tgt := 108) C.x C.b dX9_copy_73 (by decide) (fun cb => ?_) (fun cb => ?_)
                · have hf := g_t cb hf
                  refine lv_bipush (v := (-13 : Int32)) C.x C.b dX9_copy_108 (by decide) ?_
                  exact g_eii C G hr hlocks hf dX9_copy_110
                · have hf := g_f cb hf
                  refine lv_iload C.x C.b dX9_copy_76 (lv_at hl 4 rfl) ?_
                  refine lv_if_lt (tgt := 108) C.x C.b dX9_copy_78 (by decide) (fun cb => ?_) (fun cb => ?_)
                  · have hf := g_t cb hf
                    refine lv_bipush (v := (-13 : Int32)) C.x C.b dX9_copy_108 (by decide) ?_
                    exact g_eii C G hr hlocks hf dX9_copy_110
                  · have hf := g_f cb hf
                    refine lv_iload_n C.x C.b dX9_copy_81 rfl (lv_at hl 2 rfl) ?_
                    refine lv_aload_n C.x C.b dX9_copy_82 rfl (lv_at hl 0 rfl) ?_
                    refine g_getr C G 9 0 42 82 hT rfl ginX9 (by decide) tw992 dX9_copy_83 (fun hL13 => ?_)
                    refine lv_iload_n C.x C.b dX9_copy_86 rfl (lv_at hl 1 rfl) ?_
                    obtain ⟨hi14, hf⟩ := g_ok hf
                    refine g_iald (n := 8) C G 82 0 hL13 (by decide) rfl hi14 dX9_copy_87 ?_
                    refine lv_iload C.x C.b dX9_copy_88 (lv_at hl 5 rfl) ?_
                    refine lv_isub C.x C.b dX9_copy_90 ?_
                    refine lv_icmp_gt (tgt := 108) C.x C.b dX9_copy_91 (by decide) (fun cb => ?_) (fun cb => ?_)
                    · have hf := g_t cb hf
                      refine lv_bipush (v := (-13 : Int32)) C.x C.b dX9_copy_108 (by decide) ?_
                      exact g_eii C G hr hlocks hf dX9_copy_110
                    · have hf := g_f cb hf
                      refine lv_iload C.x C.b dX9_copy_94 (lv_at hl 4 rfl) ?_
                      refine lv_aload_n C.x C.b dX9_copy_96 rfl (lv_at hl 0 rfl) ?_
                      refine g_getr C G 9 0 42 82 hT rfl ginX9 (by decide) tw992 dX9_copy_97 (fun hL15 => ?_)
                      refine lv_iload_n C.x C.b dX9_copy_100 rfl (lv_at hl 3 rfl) ?_
                      obtain ⟨hi16, hf⟩ := g_ok hf
                      refine g_iald (n := 8) C G 82 0 hL15 (by decide) rfl hi16 dX9_copy_101 ?_
                      refine lv_iload C.x C.b dX9_copy_102 (lv_at hl 5 rfl) ?_
                      refine lv_isub C.x C.b dX9_copy_104 ?_
                      refine lv_icmp_le (tgt := 111) C.x C.b dX9_copy_105 (by decide) (fun cb => ?_) (fun cb => ?_)
                      · have hf := g_t cb hf
                        refine lv_iconst (v := (0 : Int32)) C.x C.b dX9_copy_111 (by decide) ?_
                        refine lv_istore (lv' := [(6, .int (0 : Int32)), (0, .ref (ad 9 0)), (1, .int a1), (2, .int a2), (3, .int a3), (4, .int a4), (5, .int a5)]) C.x C.b dX9_copy_112 hl (by decide) rfl (fun ls hl => ?_)
                        exact lp114 g_fuel σ (0 : Int32) _ _ ls G (lv_sub hl [1, 2, 3, 4, 5, 6, 0] rfl) hf
                      · have hf := g_f cb hf
                        refine lv_bipush (v := (-13 : Int32)) C.x C.b dX9_copy_108 (by decide) ?_
                        exact g_eii C G hr hlocks hf dX9_copy_110
            · have hf := g_f cb hf
              refine lv_bipush (v := (-12 : Int32)) C.x C.b dX9_copy_64 (by decide) ?_
              exact g_eii C G hr hlocks hf dX9_copy_66
        · have hf := g_t cb hf
          refine lv_bipush (v := (-11 : Int32)) C.x C.b dX9_copy_36 (by decide) ?_
          exact g_eii C G hr hlocks hf dX9_copy_38
    · have hf := g_t cb hf
      refine lv_iconst (v := (-1 : Int32)) C.x C.b dX9_copy_16 (by decide) ?_
      exact g_eii C G hr hlocks hf dX9_copy_17
def f_X9_lacksLaw (ad : gA) (σ : gS) (a1 : Int32) : Option Int32 := ((f_X9_isShelf ad σ a1).bind fun q1 => (if q1 = 0 then (some (-1 : Int32)) else (if g_ix a1 8 then (if (σ 80 0 a1.toNatClampNeg) = 0 then (some (-11 : Int32)) else (if g_ix a1 8 then (if (σ 80 0 a1.toNatClampNeg) = (1 : Int32) then (some (0 : Int32)) else (some (-12 : Int32))) else none)) else none)))
theorem hd_X9_lacksLaw : yX9_lacksLaw.cls ≠ "java/lang/invoke/MethodHandle" ∧ yX9_lacksLaw.cls ≠ "java/lang/invoke/VarHandle" ∧ (parseMethodDescriptor yX9_lacksLaw.desc).map (fun d => d.parameters.length) = some 1 := by decide +kernel
set_option maxHeartbeats 4000000 in
set_option maxRecDepth 100000 in
theorem c_X9_lacksLaw (l : Launch) (D : va_G) (cy : Nat → ClassId) (A : Nat → Prop) (ad : gA) (L : gL)  (σ : gS) (hT : (9, 0) ∈ L) (a1 : Int32) (r0 : Int32) (hf : f_X9_lacksLaw ad σ a1 = some r0) : g_Mi l yX9_lacksLaw cX9_lacksLaw 2 (some .int) ({ frames := 2, cells := 0, slots := 0, locals := 44 } : Room) D cy A ad L σ [.ref (ad 9 0), .int a1] r0 σ := by
  refine g_met (by decide) (Nat.le_of_ble_eq_true rfl) (fun p e s m below meth c C hr hlocks hnm G ls hl => ?_)
  have hl : lv_has ls 2 [(0, .ref (ad 9 0)), (1, .int a1)] := hl
  unfold f_X9_lacksLaw at hf
  refine lv_aload_n C.x C.b dX9_lacksLaw_0 rfl (lv_at hl 0 rfl) ?_
  refine lv_iload_n C.x C.b dX9_lacksLaw_1 rfl (lv_at hl 1 rfl) ?_
  obtain ⟨q1, eq1, hf⟩ := g_b hf
  refine g_calli G (g_runV (As := [.int a1]) (rest := []) C G 9 0 (c_X9_isShelf l D cy A ad L σ hT a1 q1 eq1) ⟨tw1333, tw60, tw1330, ⟨tw1332, tw50⟩, hd_X9_isShelf⟩ (by decide) hT rfl ⟨rfl, by decide⟩ hl.1 rfl (Nat.le_of_ble_eq_true rfl) dX9_lacksLaw_2 ⟨Nat.le_of_ble_eq_true rfl, Nat.le_of_ble_eq_true rfl⟩) (fun H locs G => ?_)
  refine lv_if_ne (tgt := 12) C.x C.b dX9_lacksLaw_5 (by decide) (fun cb => ?_) (fun cb => ?_)
  · have hf := g_f cb hf
    refine lv_aload_n C.x C.b dX9_lacksLaw_12 rfl (lv_at hl 0 rfl) ?_
    refine g_getr C G 9 0 40 80 hT rfl ginX9 (by decide) tw990 dX9_lacksLaw_13 (fun hL2 => ?_)
    refine lv_iload_n C.x C.b dX9_lacksLaw_16 rfl (lv_at hl 1 rfl) ?_
    obtain ⟨hi3, hf⟩ := g_ok hf
    refine g_iald (n := 8) C G 80 0 hL2 (by decide) rfl hi3 dX9_lacksLaw_17 ?_
    refine lv_if_ne (tgt := 26) C.x C.b dX9_lacksLaw_18 (by decide) (fun cb => ?_) (fun cb => ?_)
    · have hf := g_f cb hf
      refine lv_aload_n C.x C.b dX9_lacksLaw_26 rfl (lv_at hl 0 rfl) ?_
      refine g_getr C G 9 0 40 80 hT rfl ginX9 (by decide) tw990 dX9_lacksLaw_27 (fun hL4 => ?_)
      refine lv_iload_n C.x C.b dX9_lacksLaw_30 rfl (lv_at hl 1 rfl) ?_
      obtain ⟨hi5, hf⟩ := g_ok hf
      refine g_iald (n := 8) C G 80 0 hL4 (by decide) rfl hi5 dX9_lacksLaw_31 ?_
      refine lv_iconst (v := (1 : Int32)) C.x C.b dX9_lacksLaw_32 (by decide) ?_
      refine lv_icmp_eq (tgt := 41) C.x C.b dX9_lacksLaw_33 (by decide) (fun cb => ?_) (fun cb => ?_)
      · have hf := g_t cb hf
        refine lv_iconst (v := (0 : Int32)) C.x C.b dX9_lacksLaw_41 (by decide) ?_
        exact g_eip C G hr hlocks hf dX9_lacksLaw_42
      · have hf := g_f cb hf
        refine lv_bipush (v := (-12 : Int32)) C.x C.b dX9_lacksLaw_36 (by decide) ?_
        refine lv_goto (tgt := 42) C.x C.b dX9_lacksLaw_38 (by decide) ?_
        exact g_eip C G hr hlocks hf dX9_lacksLaw_42
    · have hf := g_t cb hf
      refine lv_bipush (v := (-11 : Int32)) C.x C.b dX9_lacksLaw_21 (by decide) ?_
      refine lv_goto (tgt := 42) C.x C.b dX9_lacksLaw_23 (by decide) ?_
      exact g_eip C G hr hlocks hf dX9_lacksLaw_42
  · have hf := g_t cb hf
    refine lv_iconst (v := (-1 : Int32)) C.x C.b dX9_lacksLaw_8 (by decide) ?_
    refine lv_goto (tgt := 42) C.x C.b dX9_lacksLaw_9 (by decide) ?_
    exact g_eip C G hr hlocks hf dX9_lacksLaw_42
def f_X9_weight_P50 (v3 : Int32) (k0 : Int32) (k1 : Int32) : Option Int32 := (if v3 = 0 then (if v3 = (2 : Int32) then (some ((2 : Int32) * ((k1 + k0) + (0 : Int32)))) else (if v3 = (3 : Int32) then (some ((2 : Int32) * ((k1 + k0) + (0 : Int32)))) else (some ((k1 + k0) + (0 : Int32))))) else (if v3 = (4 : Int32) then (if v3 = (2 : Int32) then (some ((2 : Int32) * ((k1 + k0) + (0 : Int32)))) else (if v3 = (3 : Int32) then (some ((2 : Int32) * ((k1 + k0) + (0 : Int32)))) else (some ((k1 + k0) + (0 : Int32))))) else (if v3 = (2 : Int32) then (some ((2 : Int32) * ((k1 + k0) + (1000 : Int32)))) else (if v3 = (3 : Int32) then (some ((2 : Int32) * ((k1 + k0) + (1000 : Int32)))) else (some ((k1 + k0) + (1000 : Int32)))))))
def f_X9_weight (ad : gA) (σ : gS) (a1 : Int32) : Option Int32 := ((f_X9_lacksLaw ad σ a1).bind fun q1 => (if q1 = 0 then (if g_ix a1 8 then (if g_ix (σ 81 0 a1.toNatClampNeg) 20 then (if (σ 53 0 ((σ 81 0 a1.toNatClampNeg).toNatClampNeg)) = (5 : Int32) then (f_X9_weight_P50 (σ 53 0 ((σ 81 0 a1.toNatClampNeg).toNatClampNeg)) (0 : Int32) ((10 : Int32) + (σ 53 0 ((σ 81 0 a1.toNatClampNeg).toNatClampNeg)))) else (if g_ix (σ 81 0 a1.toNatClampNeg) 20 then (f_X9_weight_P50 (σ 53 0 ((σ 81 0 a1.toNatClampNeg).toNatClampNeg)) ((100 : Int32) + (σ 55 0 ((σ 81 0 a1.toNatClampNeg).toNatClampNeg))) ((10 : Int32) + (σ 53 0 ((σ 81 0 a1.toNatClampNeg).toNatClampNeg)))) else none)) else none) else none) else ((f_X9_lacksLaw ad σ a1).bind fun q8 => (some q8))))
theorem hd_X9_weight : yX9_weight.cls ≠ "java/lang/invoke/MethodHandle" ∧ yX9_weight.cls ≠ "java/lang/invoke/VarHandle" ∧ (parseMethodDescriptor yX9_weight.desc).map (fun d => d.parameters.length) = some 1 := by decide +kernel
set_option maxHeartbeats 4000000 in
set_option maxRecDepth 100000 in
theorem c_X9_weight (l : Launch) (D : va_G) (cy : Nat → ClassId) (A : Nat → Prop) (ad : gA) (L : gL)  (σ : gS) (hT : (9, 0) ∈ L) (a1 : Int32) (r0 : Int32) (hf : f_X9_weight ad σ a1 = some r0) : g_Mi l yX9_weight cX9_weight 5 (some .int) ({ frames := 3, cells := 0, slots := 0, locals := 65 } : Room) D cy A ad L σ [.ref (ad 9 0), .int a1] r0 σ := by
  refine g_met (by decide) (Nat.le_of_ble_eq_true rfl) (fun p e s m below meth c C hr hlocks hnm G ls hl => ?_)
  have hl : lv_has ls 5 [(0, .ref (ad 9 0)), (1, .int a1)] := hl
  have pt50 : ∀ (v3 : Int32) (k0 : Int32) (k1 : Int32) (H : Heap) (locs : List Loc) (ls : Array Slot), g_H D cy A ad L σ s.heap H locs → lv_has ls 5 [(3, .int v3)] → f_X9_weight_P50 v3 k0 k1 = some r0 → g_Wi p l e ({ frames := 3, cells := 0, slots := 0, locals := 65 } : Room) s m below meth c H locs 0 0 D cy A ad L [.ref (ad 9 0), .int a1] r0 σ (F0 m 50 ls [.int k0, .int k1]) := by
    intro v3 k0 k1 H locs ls G hl hf
    unfold f_X9_weight_P50 at hf
    refine lv_iadd C.x C.b dX9_weight_50 ?_
    refine lv_iload_n C.x C.b dX9_weight_51 rfl (lv_at hl 0 rfl) ?_
    refine lv_if_eq (tgt := 60) C.x C.b dX9_weight_52 (by decide) (fun cb => ?_) (fun cb => ?_)
    · have hf := g_t cb hf
      refine lv_iconst (v := (0 : Int32)) C.x C.b dX9_weight_60 (by decide) ?_
      refine lv_goto (tgt := 67) C.x C.b dX9_weight_61 (by decide) ?_
      refine lv_iadd C.x C.b dX9_weight_67 ?_
      refine lv_istore (lv' := [(4, .int ((k1 + k0) + (0 : Int32))), (3, .int v3)]) C.x C.b dX9_weight_68 hl (by decide) rfl (fun ls hl => ?_)
      refine lv_iload_n C.x C.b dX9_weight_70 rfl (lv_at hl 1 rfl) ?_
      refine lv_iconst (v := (2 : Int32)) C.x C.b dX9_weight_71 (by decide) ?_
      refine lv_icmp_eq (tgt := 80) C.x C.b dX9_weight_72 (by decide) (fun cb => ?_) (fun cb => ?_)
      · have hf := g_t cb hf
        refine lv_iconst (v := (2 : Int32)) C.x C.b dX9_weight_80 (by decide) ?_
        refine lv_iload C.x C.b dX9_weight_81 (lv_at hl 0 rfl) ?_
        refine lv_imul C.x C.b dX9_weight_83 ?_
        refine lv_goto (tgt := 89) C.x C.b dX9_weight_84 (by decide) ?_
        exact g_eip C G hr hlocks hf dX9_weight_89
      · have hf := g_f cb hf
        refine lv_iload_n C.x C.b dX9_weight_75 rfl (lv_at hl 1 rfl) ?_
        refine lv_iconst (v := (3 : Int32)) C.x C.b dX9_weight_76 (by decide) ?_
        refine lv_icmp_ne (tgt := 87) C.x C.b dX9_weight_77 (by decide) (fun cb => ?_) (fun cb => ?_)
        · have hf := g_f cb hf
          refine lv_iload C.x C.b dX9_weight_87 (lv_at hl 0 rfl) ?_
          exact g_eip C G hr hlocks hf dX9_weight_89
        · have hf := g_t cb hf
          refine lv_iconst (v := (2 : Int32)) C.x C.b dX9_weight_80 (by decide) ?_
          refine lv_iload C.x C.b dX9_weight_81 (lv_at hl 0 rfl) ?_
          refine lv_imul C.x C.b dX9_weight_83 ?_
          refine lv_goto (tgt := 89) C.x C.b dX9_weight_84 (by decide) ?_
          exact g_eip C G hr hlocks hf dX9_weight_89
    · have hf := g_f cb hf
      refine lv_iload_n C.x C.b dX9_weight_55 rfl (lv_at hl 0 rfl) ?_
      refine lv_iconst (v := (4 : Int32)) C.x C.b dX9_weight_56 (by decide) ?_
      refine lv_icmp_ne (tgt := 64) C.x C.b dX9_weight_57 (by decide) (fun cb => ?_) (fun cb => ?_)
      · have hf := g_f cb hf
        refine lv_sipush (v := (1000 : Int32)) C.x C.b dX9_weight_64 (by decide) ?_
        refine lv_iadd C.x C.b dX9_weight_67 ?_
        refine lv_istore (lv' := [(4, .int ((k1 + k0) + (1000 : Int32))), (3, .int v3)]) C.x C.b dX9_weight_68 hl (by decide) rfl (fun ls hl => ?_)
        refine lv_iload_n C.x C.b dX9_weight_70 rfl (lv_at hl 1 rfl) ?_
        refine lv_iconst (v := (2 : Int32)) C.x C.b dX9_weight_71 (by decide) ?_
        refine lv_icmp_eq (tgt := 80) C.x C.b dX9_weight_72 (by decide) (fun cb => ?_) (fun cb => ?_)
        · have hf := g_t cb hf
          refine lv_iconst (v := (2 : Int32)) C.x C.b dX9_weight_80 (by decide) ?_
          refine lv_iload C.x C.b dX9_weight_81 (lv_at hl 0 rfl) ?_
          refine lv_imul C.x C.b dX9_weight_83 ?_
          refine lv_goto (tgt := 89) C.x C.b dX9_weight_84 (by decide) ?_
          exact g_eip C G hr hlocks hf dX9_weight_89
        · have hf := g_f cb hf
          refine lv_iload_n C.x C.b dX9_weight_75 rfl (lv_at hl 1 rfl) ?_
          refine lv_iconst (v := (3 : Int32)) C.x C.b dX9_weight_76 (by decide) ?_
          refine lv_icmp_ne (tgt := 87) C.x C.b dX9_weight_77 (by decide) (fun cb => ?_) (fun cb => ?_)
          · have hf := g_f cb hf
            refine lv_iload C.x C.b dX9_weight_87 (lv_at hl 0 rfl) ?_
            exact g_eip C G hr hlocks hf dX9_weight_89
          · have hf := g_t cb hf
            refine lv_iconst (v := (2 : Int32)) C.x C.b dX9_weight_80 (by decide) ?_
            refine lv_iload C.x C.b dX9_weight_81 (lv_at hl 0 rfl) ?_
            refine lv_imul C.x C.b dX9_weight_83 ?_
            refine lv_goto (tgt := 89) C.x C.b dX9_weight_84 (by decide) ?_
            exact g_eip C G hr hlocks hf dX9_weight_89
      · have hf := g_t cb hf
        refine lv_iconst (v := (0 : Int32)) C.x C.b dX9_weight_60 (by decide) ?_
        refine lv_goto (tgt := 67) C.x C.b dX9_weight_61 (by decide) ?_
        refine lv_iadd C.x C.b dX9_weight_67 ?_
        refine lv_istore (lv' := [(4, .int ((k1 + k0) + (0 : Int32))), (3, .int v3)]) C.x C.b dX9_weight_68 hl (by decide) rfl (fun ls hl => ?_)
        refine lv_iload_n C.x C.b dX9_weight_70 rfl (lv_at hl 1 rfl) ?_
        refine lv_iconst (v := (2 : Int32)) C.x C.b dX9_weight_71 (by decide) ?_
        refine lv_icmp_eq (tgt := 80) C.x C.b dX9_weight_72 (by decide) (fun cb => ?_) (fun cb => ?_)
        · have hf := g_t cb hf
          refine lv_iconst (v := (2 : Int32)) C.x C.b dX9_weight_80 (by decide) ?_
          refine lv_iload C.x C.b dX9_weight_81 (lv_at hl 0 rfl) ?_
          refine lv_imul C.x C.b dX9_weight_83 ?_
          refine lv_goto (tgt := 89) C.x C.b dX9_weight_84 (by decide) ?_
          exact g_eip C G hr hlocks hf dX9_weight_89
        · have hf := g_f cb hf
          refine lv_iload_n C.x C.b dX9_weight_75 rfl (lv_at hl 1 rfl) ?_
          refine lv_iconst (v := (3 : Int32)) C.x C.b dX9_weight_76 (by decide) ?_
          refine lv_icmp_ne (tgt := 87) C.x C.b dX9_weight_77 (by decide) (fun cb => ?_) (fun cb => ?_)
          · have hf := g_f cb hf
            refine lv_iload C.x C.b dX9_weight_87 (lv_at hl 0 rfl) ?_
            exact g_eip C G hr hlocks hf dX9_weight_89
          · have hf := g_t cb hf
            refine lv_iconst (v := (2 : Int32)) C.x C.b dX9_weight_80 (by decide) ?_
            refine lv_iload C.x C.b dX9_weight_81 (lv_at hl 0 rfl) ?_
            refine lv_imul C.x C.b dX9_weight_83 ?_
            refine lv_goto (tgt := 89) C.x C.b dX9_weight_84 (by decide) ?_
            exact g_eip C G hr hlocks hf dX9_weight_89
  unfold f_X9_weight at hf
  refine lv_aload_n C.x C.b dX9_weight_0 rfl (lv_at hl 0 rfl) ?_
  refine lv_iload_n C.x C.b dX9_weight_1 rfl (lv_at hl 1 rfl) ?_
  obtain ⟨q1, eq1, hf⟩ := g_b hf
  refine g_calli G (g_runV (As := [.int a1]) (rest := []) C G 9 0 (c_X9_lacksLaw l D cy A ad L σ hT a1 q1 eq1) ⟨tw1357, tw60, tw1354, ⟨tw1356, tw52⟩, hd_X9_lacksLaw⟩ (by decide) hT rfl ⟨rfl, by decide⟩ hl.1 rfl (Nat.le_of_ble_eq_true rfl) dX9_weight_2 ⟨Nat.le_of_ble_eq_true rfl, Nat.le_of_ble_eq_true rfl⟩) (fun H locs G => ?_)
  refine lv_if_eq (tgt := 14) C.x C.b dX9_weight_5 (by decide) (fun cb => ?_) (fun cb => ?_)
  · have hf := g_t cb hf
    refine lv_aload_n C.x C.b dX9_weight_14 rfl (lv_at hl 0 rfl) ?_
    refine g_getr C G 9 0 41 81 hT rfl ginX9 (by decide) tw991 dX9_weight_15 (fun hL2 => ?_)
    refine lv_iload_n C.x C.b dX9_weight_18 rfl (lv_at hl 1 rfl) ?_
    obtain ⟨hi3, hf⟩ := g_ok hf
    refine g_iald (n := 8) C G 81 0 hL2 (by decide) rfl hi3 dX9_weight_19 ?_
    refine lv_istore_n (lv' := [(2, .int (σ 81 0 a1.toNatClampNeg)), (0, .ref (ad 9 0)), (1, .int a1)]) C.x C.b dX9_weight_20 rfl hl (by decide) rfl (fun ls hl => ?_)
    refine lv_aload_n C.x C.b dX9_weight_21 rfl (lv_at hl 1 rfl) ?_
    refine g_getr C G 9 0 13 53 hT rfl ginX9 (by decide) tw963 dX9_weight_22 (fun hL4 => ?_)
    refine lv_iload_n C.x C.b dX9_weight_25 rfl (lv_at hl 0 rfl) ?_
    obtain ⟨hi5, hf⟩ := g_ok hf
    refine g_iald (n := 20) C G 53 0 hL4 (by decide) rfl hi5 dX9_weight_26 ?_
    refine lv_istore_n (lv' := [(3, .int (σ 53 0 ((σ 81 0 a1.toNatClampNeg).toNatClampNeg))), (2, .int (σ 81 0 a1.toNatClampNeg)), (0, .ref (ad 9 0)), (1, .int a1)]) C.x C.b dX9_weight_27 rfl hl (by decide) rfl (fun ls hl => ?_)
    refine lv_bipush (v := (10 : Int32)) C.x C.b dX9_weight_28 (by decide) ?_
    refine lv_iload_n C.x C.b dX9_weight_30 rfl (lv_at hl 0 rfl) ?_
    refine lv_iadd C.x C.b dX9_weight_31 ?_
    refine lv_iload_n C.x C.b dX9_weight_32 rfl (lv_at hl 0 rfl) ?_
    refine lv_iconst (v := (5 : Int32)) C.x C.b dX9_weight_33 (by decide) ?_
    refine lv_icmp_ne (tgt := 41) C.x C.b dX9_weight_34 (by decide) (fun cb => ?_) (fun cb => ?_)
    · have hf := g_f cb hf
      refine lv_bipush (v := (100 : Int32)) C.x C.b dX9_weight_41 (by decide) ?_
      refine lv_aload_n C.x C.b dX9_weight_43 rfl (lv_at hl 2 rfl) ?_
      refine g_getr C G 9 0 15 55 hT rfl ginX9 (by decide) tw965 dX9_weight_44 (fun hL6 => ?_)
      refine lv_iload_n C.x C.b dX9_weight_47 rfl (lv_at hl 1 rfl) ?_
      obtain ⟨hi7, hf⟩ := g_ok hf
      refine g_iald (n := 20) C G 55 0 hL6 (by decide) rfl hi7 dX9_weight_48 ?_
      refine lv_iadd C.x C.b dX9_weight_49 ?_
      exact pt50 (σ 53 0 ((σ 81 0 a1.toNatClampNeg).toNatClampNeg)) ((100 : Int32) + (σ 55 0 ((σ 81 0 a1.toNatClampNeg).toNatClampNeg))) ((10 : Int32) + (σ 53 0 ((σ 81 0 a1.toNatClampNeg).toNatClampNeg))) _ _ ls G (lv_sub hl [0] rfl) hf
    · have hf := g_t cb hf
      refine lv_iconst (v := (0 : Int32)) C.x C.b dX9_weight_37 (by decide) ?_
      refine lv_goto (tgt := 50) C.x C.b dX9_weight_38 (by decide) ?_
      exact pt50 (σ 53 0 ((σ 81 0 a1.toNatClampNeg).toNatClampNeg)) (0 : Int32) ((10 : Int32) + (σ 53 0 ((σ 81 0 a1.toNatClampNeg).toNatClampNeg))) _ _ ls G (lv_sub hl [0] rfl) hf
  · have hf := g_f cb hf
    refine lv_aload_n C.x C.b dX9_weight_8 rfl (lv_at hl 0 rfl) ?_
    refine lv_iload_n C.x C.b dX9_weight_9 rfl (lv_at hl 1 rfl) ?_
    obtain ⟨q8, eq8, hf⟩ := g_b hf
    refine g_calli G (g_runV (As := [.int a1]) (rest := []) C G 9 0 (c_X9_lacksLaw l D cy A ad L σ hT a1 q8 eq8) ⟨tw1357, tw60, tw1354, ⟨tw1356, tw52⟩, hd_X9_lacksLaw⟩ (by decide) hT rfl ⟨rfl, by decide⟩ hl.1 rfl (Nat.le_of_ble_eq_true rfl) dX9_weight_10 ⟨Nat.le_of_ble_eq_true rfl, Nat.le_of_ble_eq_true rfl⟩) (fun H locs G => ?_)
    exact g_eip C G hr hlocks hf dX9_weight_13
def f_X9_toss (ad : gA) (σ : gS) (a1 : Int32) : Option Int32 := ((f_X9_lacksLaw ad σ a1).bind fun q1 => (if q1 = 0 then (if g_ix a1 8 then (if g_ix (σ 81 0 a1.toNatClampNeg) 20 then (if (σ 53 0 ((σ 81 0 a1.toNatClampNeg).toNatClampNeg)) = 0 then (some (-15 : Int32)) else (if (σ 53 0 ((σ 81 0 a1.toNatClampNeg).toNatClampNeg)) = (4 : Int32) then (some (-15 : Int32)) else (if g_ix a1 8 then (some (σ 81 0 a1.toNatClampNeg)) else none))) else none) else none) else ((f_X9_lacksLaw ad σ a1).bind fun q8 => (some q8))))
theorem hd_X9_toss : yX9_toss.cls ≠ "java/lang/invoke/MethodHandle" ∧ yX9_toss.cls ≠ "java/lang/invoke/VarHandle" ∧ (parseMethodDescriptor yX9_toss.desc).map (fun d => d.parameters.length) = some 1 := by decide +kernel
set_option maxHeartbeats 4000000 in
set_option maxRecDepth 100000 in
theorem c_X9_toss (l : Launch) (D : va_G) (cy : Nat → ClassId) (A : Nat → Prop) (ad : gA) (L : gL)  (σ : gS) (hT : (9, 0) ∈ L) (a1 : Int32) (r0 : Int32) (hf : f_X9_toss ad σ a1 = some r0) : g_Mi l yX9_toss cX9_toss 3 (some .int) ({ frames := 3, cells := 0, slots := 0, locals := 65 } : Room) D cy A ad L σ [.ref (ad 9 0), .int a1] r0 σ := by
  refine g_met (by decide) (Nat.le_of_ble_eq_true rfl) (fun p e s m below meth c C hr hlocks hnm G ls hl => ?_)
  have hl : lv_has ls 3 [(0, .ref (ad 9 0)), (1, .int a1)] := hl
  unfold f_X9_toss at hf
  refine lv_aload_n C.x C.b dX9_toss_0 rfl (lv_at hl 0 rfl) ?_
  refine lv_iload_n C.x C.b dX9_toss_1 rfl (lv_at hl 1 rfl) ?_
  obtain ⟨q1, eq1, hf⟩ := g_b hf
  refine g_calli G (g_runV (As := [.int a1]) (rest := []) C G 9 0 (c_X9_lacksLaw l D cy A ad L σ hT a1 q1 eq1) ⟨tw1357, tw60, tw1354, ⟨tw1356, tw52⟩, hd_X9_lacksLaw⟩ (by decide) hT rfl ⟨rfl, by decide⟩ hl.1 rfl (Nat.le_of_ble_eq_true rfl) dX9_toss_2 ⟨Nat.le_of_ble_eq_true rfl, Nat.le_of_ble_eq_true rfl⟩) (fun H locs G => ?_)
  refine lv_if_eq (tgt := 14) C.x C.b dX9_toss_5 (by decide) (fun cb => ?_) (fun cb => ?_)
  · have hf := g_t cb hf
    refine lv_aload_n C.x C.b dX9_toss_14 rfl (lv_at hl 0 rfl) ?_
    refine g_getr C G 9 0 13 53 hT rfl ginX9 (by decide) tw963 dX9_toss_15 (fun hL2 => ?_)
    refine lv_aload_n C.x C.b dX9_toss_18 rfl (lv_at hl 0 rfl) ?_
    refine g_getr C G 9 0 41 81 hT rfl ginX9 (by decide) tw991 dX9_toss_19 (fun hL3 => ?_)
    refine lv_iload_n C.x C.b dX9_toss_22 rfl (lv_at hl 1 rfl) ?_
    obtain ⟨hi4, hf⟩ := g_ok hf
    refine g_iald (n := 8) C G 81 0 hL3 (by decide) rfl hi4 dX9_toss_23 ?_
    obtain ⟨hi5, hf⟩ := g_ok hf
    refine g_iald (n := 20) C G 53 0 hL2 (by decide) rfl hi5 dX9_toss_24 ?_
    refine lv_istore_n (lv' := [(2, .int (σ 53 0 ((σ 81 0 a1.toNatClampNeg).toNatClampNeg))), (0, .ref (ad 9 0)), (1, .int a1)]) C.x C.b dX9_toss_25 rfl hl (by decide) rfl (fun ls hl => ?_)
    refine lv_iload_n C.x C.b dX9_toss_26 rfl (lv_at hl 0 rfl) ?_
    refine lv_if_eq (tgt := 35) C.x C.b dX9_toss_27 (by decide) (fun cb => ?_) (fun cb => ?_)
    · have hf := g_t cb hf
      refine lv_bipush (v := (-15 : Int32)) C.x C.b dX9_toss_35 (by decide) ?_
      refine lv_goto (tgt := 46) C.x C.b dX9_toss_37 (by decide) ?_
      exact g_eip C G hr hlocks hf dX9_toss_46
    · have hf := g_f cb hf
      refine lv_iload_n C.x C.b dX9_toss_30 rfl (lv_at hl 0 rfl) ?_
      refine lv_iconst (v := (4 : Int32)) C.x C.b dX9_toss_31 (by decide) ?_
      refine lv_icmp_ne (tgt := 40) C.x C.b dX9_toss_32 (by decide) (fun cb => ?_) (fun cb => ?_)
      · have hf := g_f cb hf
        refine lv_aload_n C.x C.b dX9_toss_40 rfl (lv_at hl 1 rfl) ?_
        refine g_getr C G 9 0 41 81 hT rfl ginX9 (by decide) tw991 dX9_toss_41 (fun hL6 => ?_)
        refine lv_iload_n C.x C.b dX9_toss_44 rfl (lv_at hl 2 rfl) ?_
        obtain ⟨hi7, hf⟩ := g_ok hf
        refine g_iald (n := 8) C G 81 0 hL6 (by decide) rfl hi7 dX9_toss_45 ?_
        exact g_eip C G hr hlocks hf dX9_toss_46
      · have hf := g_t cb hf
        refine lv_bipush (v := (-15 : Int32)) C.x C.b dX9_toss_35 (by decide) ?_
        refine lv_goto (tgt := 46) C.x C.b dX9_toss_37 (by decide) ?_
        exact g_eip C G hr hlocks hf dX9_toss_46
  · have hf := g_f cb hf
    refine lv_aload_n C.x C.b dX9_toss_8 rfl (lv_at hl 0 rfl) ?_
    refine lv_iload_n C.x C.b dX9_toss_9 rfl (lv_at hl 1 rfl) ?_
    obtain ⟨q8, eq8, hf⟩ := g_b hf
    refine g_calli G (g_runV (As := [.int a1]) (rest := []) C G 9 0 (c_X9_lacksLaw l D cy A ad L σ hT a1 q8 eq8) ⟨tw1357, tw60, tw1354, ⟨tw1356, tw52⟩, hd_X9_lacksLaw⟩ (by decide) hT rfl ⟨rfl, by decide⟩ hl.1 rfl (Nat.le_of_ble_eq_true rfl) dX9_toss_10 ⟨Nat.le_of_ble_eq_true rfl, Nat.le_of_ble_eq_true rfl⟩) (fun H locs G => ?_)
    exact g_eip C G hr hlocks hf dX9_toss_13
