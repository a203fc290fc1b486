def f_X8_draw_P104 (σ : gS) : Option gS := (some σ)
def f_X8_draw_P92 (K0 : Nat) (i0 : Nat) (n0 : Nat) (rec27 : gS → Int64 → Int32 → Option gS) (σ : gS) (v4 : Int64) (v6 : Int32) (v9 : Int32) : Option gS := (if g_ix v6 n0 then (g_let (g_up σ K0 i0 v6.toNatClampNeg v9) fun σ8 => (rec27 σ8 v4 (v6 + (1 : Int32)))) else none)
def f_X8_draw_L69 (K0 : Nat) (i0 : Nat) (n0 : Nat) (K69 : gS → Int64 → Int32 → Int32 → Option gS) : Nat → gS → Int64 → Int32 → Int32 → Int32 → Option gS
  | 0, _, _, _, _, _ => none
  | n + 1, σ, v4, v6, v9, v10 => (if v10 ≤ v6 then (K69 σ v4 v6 v9) else (if g_ix (v10 - (1 : Int32)) n0 then (if g_ix v10 n0 then (g_let (g_up σ K0 i0 v10.toNatClampNeg (σ K0 i0 ((v10 - (1 : Int32)).toNatClampNeg))) fun σ6 => (f_X8_draw_L69 K0 i0 n0 K69 n σ6 v4 v6 v9 (v10 + (-1 : Int32)))) else none) else none))
def f_X8_draw_L27 (K0 : Nat) (i0 : Nat) (n0 : Nat) (a1 : Int32) (K27 : gS → Option gS) : Nat → gS → Int64 → Int32 → Option gS
  | 0, _, _, _ => none
  | n + 1, σ, v4, v6 => (if a1 ≤ v6 then (K27 σ) else (if ((a1 - v6)).toInt64 = 0 then none else (if ((a1 - v6)).toInt64 = 0 then none else (if g_ix (v6 + ((v4 - v4 / ((a1 - v6)).toInt64 * ((a1 - v6)).toInt64)).toInt32) n0 then (f_X8_draw_L69 K0 i0 n0 (f_X8_draw_P92 K0 i0 n0 (f_X8_draw_L27 K0 i0 n0 a1 K27 n)) g_fuel σ (v4 / ((a1 - v6)).toInt64) v6 (σ K0 i0 ((v6 + ((v4 - v4 / ((a1 - v6)).toInt64 * ((a1 - v6)).toInt64)).toInt32).toNatClampNeg)) (v6 + ((v4 - v4 / ((a1 - v6)).toInt64 * ((a1 - v6)).toInt64)).toInt32)) else none))))
def f_X8_draw_P21 (K0 : Nat) (i0 : Nat) (n0 : Nat) (a1 : Int32) (a2 : Int64) (σ : gS) : Option gS := (f_X8_draw_L27 K0 i0 n0 a1 (f_X8_draw_P104) g_fuel σ a2 (0 : Int32))
def f_X8_draw_L3 (K0 : Nat) (i0 : Nat) (n0 : Nat) (a1 : Int32) (K3 : gS → Option gS) : Nat → gS → Int32 → Option gS
  | 0, _, _ => none
  | n + 1, σ, v4 => (if a1 ≤ v4 then (K3 σ) else (if g_ix v4 n0 then (g_let (g_up σ K0 i0 v4.toNatClampNeg v4) fun σ2 => (f_X8_draw_L3 K0 i0 n0 a1 K3 n σ2 (v4 + (1 : Int32)))) else none))
def f_X8_draw (ad : gA) (σ : gS) (K0 : Nat) (i0 : Nat) (n0 : Nat) (a1 : Int32) (a2 : Int64) : Option gS := (f_X8_draw_L3 K0 i0 n0 a1 (f_X8_draw_P21 K0 i0 n0 a1 a2) g_fuel σ (0 : Int32))
theorem hd_X8_draw : yX8_draw.cls ≠ "java/lang/invoke/MethodHandle" ∧ yX8_draw.cls ≠ "java/lang/invoke/VarHandle" ∧ (parseMethodDescriptor yX8_draw.desc).map (fun d => d.parameters.length) = some 3 := by decide +kernel
set_option maxHeartbeats 4000000 in
set_option maxRecDepth 100000 in
theorem c_X8_draw (l : Launch) (D : va_G) (cy : Nat → ClassId) (A : Nat → Prop) (ad : gA) (L : gL)  (σ : gS) (K0 i0 n0 : Nat) (ha0 : (K0, i0) ∈ L) (hK0 : 10 ≤ K0 ∧ g_ty K0 = 1) (hn0 : g_len ad K0 i0 = n0) (a1 : Int32) (a2 : Int64) (σ0 : gS) (hf : f_X8_draw ad σ K0 i0 n0 a1 a2 = some σ0) : g_Mv l yX8_draw cX8_draw 11 none ({ frames := 0, cells := 0, slots := 0, locals := 0 } : Room) D cy A ad L σ [.ref (ad K0 i0), .int a1, .long a2] σ0 := by
  refine g_met (by decide) (Nat.le_of_ble_eq_true rfl) (fun p e s m below meth c C hr hlocks hnm G ls hl => ?_)
  have hl : lv_has ls 11 [(0, .ref (ad K0 i0)), (1, .int a1), (2, .long a2)] := hl
  have pt104 : ∀ (σ : gS) (H : Heap) (locs : List Loc) (ls : Array Slot), g_H D cy A ad L σ s.heap H locs → lv_has ls 11 [] → f_X8_draw_P104 σ = some σ0 → g_Wv p l e ({ frames := 0, cells := 0, slots := 0, locals := 0 } : Room) s m below meth c H locs 0 0 D cy A ad L [.ref (ad K0 i0), .int a1, .long a2] σ0 (F0 m 104 ls []) := by
    intro σ H locs ls G hl hf
    unfold f_X8_draw_P104 at hf
    exact g_evi C G hr hlocks hf dX8_draw_104
  have lp27 : ∀ n27 : Nat, ∀ (σ : gS) (v4 : Int64) (v6 : Int32) (H : Heap) (locs : List Loc) (ls : Array Slot), g_H D cy A ad L σ s.heap H locs → lv_has ls 11 [(0, .ref (ad K0 i0)), (1, .int a1), (4, .long v4), (6, .int v6)] → f_X8_draw_L27 K0 i0 n0 a1 (f_X8_draw_P104) n27 σ v4 v6 = some σ0 → g_Wv p l e ({ frames := 0, cells := 0, slots := 0, locals := 0 } : Room) s m below meth c H locs 0 0 D cy A ad L [.ref (ad K0 i0), .int a1, .long a2] σ0 (F0 m 27 ls []) := by
    intro n27
    induction n27 with
    | zero =>
      intro σ v4 v6 H locs ls G hl hf
      rw [f_X8_draw_L27] at hf
      cases hf
    | succ n27 ih27 =>
      have pt92 : ∀ (σ : gS) (v4 : Int64) (v6 : Int32) (v9 : Int32) (H : Heap) (locs : List Loc) (ls : Array Slot), g_H D cy A ad L σ s.heap H locs → lv_has ls 11 [(0, .ref (ad K0 i0)), (1, .int a1), (4, .long v4), (6, .int v6), (9, .int v9)] → f_X8_draw_P92 K0 i0 n0 (f_X8_draw_L27 K0 i0 n0 a1 (f_X8_draw_P104) n27) σ v4 v6 v9 = some σ0 → g_Wv p l e ({ frames := 0, cells := 0, slots := 0, locals := 0 } : Room) s m below meth c H locs 0 0 D cy A ad L [.ref (ad K0 i0), .int a1, .long a2] σ0 (F0 m 92 ls []) := by
        intro σ v4 v6 v9 H locs ls G hl hf
        unfold f_X8_draw_P92 at hf
        refine lv_aload_n C.x C.b dX8_draw_92 rfl (lv_at hl 0 rfl) ?_
        refine lv_iload C.x C.b dX8_draw_93 (lv_at hl 3 rfl) ?_
        refine lv_iload C.x C.b dX8_draw_95 (lv_at hl 4 rfl) ?_
        obtain ⟨hi7, hf⟩ := g_ok hf
        refine g_iast (n := n0) C G K0 i0 ha0 hK0 hn0 hi7 dX8_draw_97 (fun H locs G => ?_)
        obtain ⟨σ8, eσ8, hf⟩ := g_lt hf
        rw [← eσ8] at G
        refine lv_iinc (v := (v6 + (1 : Int32))) (lv' := [(6, .int (v6 + (1 : Int32))), (0, .ref (ad K0 i0)), (1, .int a1), (4, .long v4), (9, .int v9)]) C.x C.b dX8_draw_98 hl (k := 3) rfl rfl (by decide) rfl (fun ls hl => ?_)
        refine lv_goto (tgt := 27) C.x C.b dX8_draw_101 (by decide) ?_
        exact ih27 σ8 v4 (v6 + (1 : Int32)) _ _ ls G (lv_sub hl [1, 2, 3, 0] rfl) hf
      have lp69 : ∀ n69 : Nat, ∀ (σ : gS) (v4 : Int64) (v6 : Int32) (v9 : Int32) (v10 : Int32) (H : Heap) (locs : List Loc) (ls : Array Slot), g_H D cy A ad L σ s.heap H locs → lv_has ls 11 [(0, .ref (ad K0 i0)), (1, .int a1), (4, .long v4), (6, .int v6), (9, .int v9), (10, .int v10)] → f_X8_draw_L69 K0 i0 n0 (f_X8_draw_P92 K0 i0 n0 (f_X8_draw_L27 K0 i0 n0 a1 (f_X8_draw_P104) n27)) n69 σ v4 v6 v9 v10 = some σ0 → g_Wv p l e ({ frames := 0, cells := 0, slots := 0, locals := 0 } : Room) s m below meth c H locs 0 0 D cy A ad L [.ref (ad K0 i0), .int a1, .long a2] σ0 (F0 m 69 ls []) := by
        intro n69
        induction n69 with
        | zero =>
          intro σ v4 v6 v9 v10 H locs ls G hl hf
          rw [f_X8_draw_L69] at hf
          cases hf
        | succ n69 ih69 =>
          intro σ v4 v6 v9 v10 H locs ls G hl hf
          rw [f_X8_draw_L69] at hf
          refine lv_iload C.x C.b dX8_draw_69 (lv_at hl 5 rfl) ?_
          refine lv_iload C.x C.b dX8_draw_71 (lv_at hl 3 rfl) ?_
          refine lv_icmp_le (tgt := 92) C.x C.b dX8_draw_73 (by decide) (fun cb => ?_) (fun cb => ?_)
          · have hf := g_t cb hf
            exact pt92 σ v4 v6 v9 _ _ ls G (lv_sub hl [0, 1, 2, 3, 4] rfl) hf
          · have hf := g_f cb hf
            refine lv_aload_n C.x C.b dX8_draw_76 rfl (lv_at hl 0 rfl) ?_
            refine lv_iload C.x C.b dX8_draw_77 (lv_at hl 5 rfl) ?_
            refine lv_aload_n C.x C.b dX8_draw_79 rfl (lv_at hl 0 rfl) ?_
            refine lv_iload C.x C.b dX8_draw_80 (lv_at hl 5 rfl) ?_
            refine lv_iconst (v := (1 : Int32)) C.x C.b dX8_draw_82 (by decide) ?_
            refine lv_isub C.x C.b dX8_draw_83 ?_
            obtain ⟨hi4, hf⟩ := g_ok hf
            refine g_iald (n := n0) C G K0 i0 ha0 hK0 hn0 hi4 dX8_draw_84 ?_
            obtain ⟨hi5, hf⟩ := g_ok hf
            refine g_iast (n := n0) C G K0 i0 ha0 hK0 hn0 hi5 dX8_draw_85 (fun H locs G => ?_)
            obtain ⟨σ6, eσ6, hf⟩ := g_lt hf
            rw [← eσ6] at G
            refine lv_iinc (v := (v10 + (-1 : Int32))) (lv' := [(10, .int (v10 + (-1 : Int32))), (0, .ref (ad K0 i0)), (1, .int a1), (4, .long v4), (6, .int v6), (9, .int v9)]) C.x C.b dX8_draw_86 hl (k := 5) rfl rfl (by decide) rfl (fun ls hl => ?_)
            refine lv_goto (tgt := 69) C.x C.b dX8_draw_89 (by decide) ?_
            exact ih69 σ6 v4 v6 v9 (v10 + (-1 : Int32)) _ _ ls G (lv_sub hl [1, 2, 3, 4, 5, 0] rfl) hf
      intro σ v4 v6 H locs ls G hl hf
      rw [f_X8_draw_L27] at hf
      refine lv_iload C.x C.b dX8_draw_27 (lv_at hl 3 rfl) ?_
      refine lv_iload_n C.x C.b dX8_draw_29 rfl (lv_at hl 1 rfl) ?_
      refine lv_icmp_ge (tgt := 104) C.x C.b dX8_draw_30 (by decide) (fun cb => ?_) (fun cb => ?_)
      · have hf := g_t cb hf
        exact pt104 σ _ _ ls G (lv_sub hl [] rfl) hf
      · have hf := g_f cb hf
        refine lv_iload_n C.x C.b dX8_draw_33 rfl (lv_at hl 1 rfl) ?_
        refine lv_iload C.x C.b dX8_draw_34 (lv_at hl 3 rfl) ?_
        refine lv_isub C.x C.b dX8_draw_36 ?_
        refine lv_istore (lv' := [(7, .int (a1 - v6)), (0, .ref (ad K0 i0)), (1, .int a1), (4, .long v4), (6, .int v6)]) C.x C.b dX8_draw_37 hl (by decide) rfl (fun ls hl => ?_)
        refine lv_iload C.x C.b dX8_draw_39 (lv_at hl 4 rfl) ?_
        refine lv_lload C.x C.b dX8_draw_41 (lv_at hl 3 rfl) ?_
        refine lv_iload C.x C.b dX8_draw_43 (lv_at hl 0 rfl) ?_
        refine lv_i2l C.x C.b dX8_draw_45 rfl ?_
        obtain ⟨hz, hf⟩ := g_okn hf
        refine lv_lrem C.x C.b dX8_draw_46 hz ?_
        refine lv_l2i C.x C.b dX8_draw_47 rfl ?_
        refine lv_iadd C.x C.b dX8_draw_48 ?_
        refine lv_istore (lv' := [(8, .int (v6 + ((v4 - v4 / ((a1 - v6)).toInt64 * ((a1 - v6)).toInt64)).toInt32)), (7, .int (a1 - v6)), (0, .ref (ad K0 i0)), (1, .int a1), (4, .long v4), (6, .int v6)]) C.x C.b dX8_draw_49 hl (by decide) rfl (fun ls hl => ?_)
        refine lv_lload C.x C.b dX8_draw_51 (lv_at hl 4 rfl) ?_
        refine lv_iload C.x C.b dX8_draw_53 (lv_at hl 1 rfl) ?_
        refine lv_i2l C.x C.b dX8_draw_55 rfl ?_
        obtain ⟨hz, hf⟩ := g_okn hf
        refine lv_ldiv C.x C.b dX8_draw_56 hz ?_
        refine lv_lstore (lv' := [(4, .long (v4 / ((a1 - v6)).toInt64)), (8, .int (v6 + ((v4 - v4 / ((a1 - v6)).toInt64 * ((a1 - v6)).toInt64)).toInt32)), (7, .int (a1 - v6)), (0, .ref (ad K0 i0)), (1, .int a1), (6, .int v6)]) C.x C.b dX8_draw_57 hl (by decide) rfl (fun ls hl => ?_)
        refine lv_aload_n C.x C.b dX8_draw_59 rfl (lv_at hl 3 rfl) ?_
        refine lv_iload C.x C.b dX8_draw_60 (lv_at hl 1 rfl) ?_
        obtain ⟨hi3, hf⟩ := g_ok hf
        refine g_iald (n := n0) C G K0 i0 ha0 hK0 hn0 hi3 dX8_draw_62 ?_
        refine lv_istore (lv' := [(9, .int (σ K0 i0 ((v6 + ((v4 - v4 / ((a1 - v6)).toInt64 * ((a1 - v6)).toInt64)).toInt32).toNatClampNeg))), (4, .long (v4 / ((a1 - v6)).toInt64)), (8, .int (v6 + ((v4 - v4 / ((a1 - v6)).toInt64 * ((a1 - v6)).toInt64)).toInt32)), (7, .int (a1 - v6)), (0, .ref (ad K0 i0)), (1, .int a1), (6, .int v6)]) C.x C.b dX8_draw_63 hl (by decide) rfl (fun ls hl => ?_)
        refine lv_iload C.x C.b dX8_draw_65 (lv_at hl 2 rfl) ?_
        refine lv_istore (lv' := [(10, .int (v6 + ((v4 - v4 / ((a1 - v6)).toInt64 * ((a1 - v6)).toInt64)).toInt32)), (9, .int (σ K0 i0 ((v6 + ((v4 - v4 / ((a1 - v6)).toInt64 * ((a1 - v6)).toInt64)).toInt32).toNatClampNeg))), (4, .long (v4 / ((a1 - v6)).toInt64)), (8, .int (v6 + ((v4 - v4 / ((a1 - v6)).toInt64 * ((a1 - v6)).toInt64)).toInt32)), (7, .int (a1 - v6)), (0, .ref (ad K0 i0)), (1, .int a1), (6, .int v6)]) C.x C.b dX8_draw_67 hl (by decide) rfl (fun ls hl => ?_)
        exact lp69 g_fuel σ (v4 / ((a1 - v6)).toInt64) v6 (σ K0 i0 ((v6 + ((v4 - v4 / ((a1 - v6)).toInt64 * ((a1 - v6)).toInt64)).toInt32).toNatClampNeg)) (v6 + ((v4 - v4 / ((a1 - v6)).toInt64 * ((a1 - v6)).toInt64)).toInt32) _ _ ls G (lv_sub hl [5, 6, 2, 7, 1, 0] rfl) hf
  have pt21 : ∀ (σ : gS) (H : Heap) (locs : List Loc) (ls : Array Slot), g_H D cy A ad L σ s.heap H locs → lv_has ls 11 [(0, .ref (ad K0 i0)), (1, .int a1), (2, .long a2)] → f_X8_draw_P21 K0 i0 n0 a1 a2 σ = some σ0 → g_Wv p l e ({ frames := 0, cells := 0, slots := 0, locals := 0 } : Room) s m below meth c H locs 0 0 D cy A ad L [.ref (ad K0 i0), .int a1, .long a2] σ0 (F0 m 21 ls []) := by
    intro σ H locs ls G hl hf
    unfold f_X8_draw_P21 at hf
    refine lv_lload_n C.x C.b dX8_draw_21 rfl (lv_at hl 2 rfl) ?_
    refine lv_lstore (lv' := [(4, .long a2), (0, .ref (ad K0 i0)), (1, .int a1), (2, .long a2)]) C.x C.b dX8_draw_22 hl (by decide) rfl (fun ls hl => ?_)
    refine lv_iconst (v := (0 : Int32)) C.x C.b dX8_draw_24 (by decide) ?_
    refine lv_istore (lv' := [(6, .int (0 : Int32)), (4, .long a2), (0, .ref (ad K0 i0)), (1, .int a1), (2, .long a2)]) C.x C.b dX8_draw_25 hl (by decide) rfl (fun ls hl => ?_)
    exact lp27 g_fuel σ a2 (0 : Int32) _ _ ls G (lv_sub hl [2, 3, 1, 0] rfl) hf
  have lp3 : ∀ n3 : Nat, ∀ (σ : gS) (v4 : Int32) (H : Heap) (locs : List Loc) (ls : Array Slot), g_H D cy A ad L σ s.heap H locs → lv_has ls 11 [(0, .ref (ad K0 i0)), (1, .int a1), (2, .long a2), (4, .int v4)] → f_X8_draw_L3 K0 i0 n0 a1 (f_X8_draw_P21 K0 i0 n0 a1 a2) n3 σ v4 = some σ0 → g_Wv p l e ({ frames := 0, cells := 0, slots := 0, locals := 0 } : Room) s m below meth c H locs 0 0 D cy A ad L [.ref (ad K0 i0), .int a1, .long a2] σ0 (F0 m 3 ls []) := by
    intro n3
    induction n3 with
    | zero =>
      intro σ v4 H locs ls G hl hf
      rw [f_X8_draw_L3] at hf
      cases hf
    | succ n3 ih3 =>
      intro σ v4 H locs ls G hl hf
      rw [f_X8_draw_L3] at hf
      refine lv_iload C.x C.b dX8_draw_3 (lv_at hl 3 rfl) ?_
      refine lv_iload_n C.x C.b dX8_draw_5 rfl (lv_at hl 1 rfl) ?_
      refine lv_icmp_ge (tgt := 21) C.x C.b dX8_draw_6 (by decide) (fun cb => ?_) (fun cb => ?_)
      · have hf := g_t cb hf
        exact pt21 σ _ _ ls G (lv_sub hl [0, 1, 2] rfl) hf
      · have hf := g_f cb hf
        refine lv_aload_n C.x C.b dX8_draw_9 rfl (lv_at hl 0 rfl) ?_
        refine lv_iload C.x C.b dX8_draw_10 (lv_at hl 3 rfl) ?_
        refine lv_iload C.x C.b dX8_draw_12 (lv_at hl 3 rfl) ?_
        obtain ⟨hi1, hf⟩ := g_ok hf
        refine g_iast (n := n0) C G K0 i0 ha0 hK0 hn0 hi1 dX8_draw_14 (fun H locs G => ?_)
        obtain ⟨σ2, eσ2, hf⟩ := g_lt hf
        rw [← eσ2] at G
        refine lv_iinc (v := (v4 + (1 : Int32))) (lv' := [(4, .int (v4 + (1 : Int32))), (0, .ref (ad K0 i0)), (1, .int a1), (2, .long a2)]) C.x C.b dX8_draw_15 hl (k := 3) rfl rfl (by decide) rfl (fun ls hl => ?_)
        refine lv_goto (tgt := 3) C.x C.b dX8_draw_18 (by decide) ?_
        exact ih3 σ2 (v4 + (1 : Int32)) _ _ ls G (lv_sub hl [1, 2, 3, 0] rfl) hf
  unfold f_X8_draw at hf
  refine lv_iconst (v := (0 : Int32)) C.x C.b dX8_draw_0 (by decide) ?_
  refine lv_istore (lv' := [(4, .int (0 : Int32)), (0, .ref (ad K0 i0)), (1, .int a1), (2, .long a2)]) C.x C.b dX8_draw_1 hl (by decide) rfl (fun ls hl => ?_)
  exact lp3 g_fuel σ (0 : Int32) _ _ ls G (lv_sub hl [1, 2, 3, 0] rfl) hf
def f_J7_fill_53178_P20 (σ : gS) : Option gS := (some σ)
def f_J7_fill_53178_L5 (K0 : Nat) (i0 : Nat) (n0 : Nat) (a1 : Int32) (K5 : gS → Option gS) : Nat → gS → Int32 → Int32 → Option gS
  | 0, _, _, _ => none
  | n + 1, σ, v2, v3 => (if v3 ≤ v2 then (K5 σ) else (if g_ix v2 n0 then (g_let (g_up σ K0 i0 v2.toNatClampNeg a1) fun σ2 => (f_J7_fill_53178_L5 K0 i0 n0 a1 K5 n σ2 (v2 + (1 : Int32)) v3)) else none))
def f_J7_fill_53178 (ad : gA) (σ : gS) (K0 : Nat) (i0 : Nat) (n0 : Nat) (a1 : Int32) : Option gS := (f_J7_fill_53178_L5 K0 i0 n0 a1 (f_J7_fill_53178_P20) g_fuel σ (0 : Int32) (Int32.ofNat n0))
theorem hd_J7_fill_53178 : yJ7_fill_53178.cls ≠ "java/lang/invoke/MethodHandle" ∧ yJ7_fill_53178.cls ≠ "java/lang/invoke/VarHandle" ∧ (parseMethodDescriptor yJ7_fill_53178.desc).map (fun d => d.parameters.length) = some 2 := by decide +kernel
set_option maxHeartbeats 4000000 in
set_option maxRecDepth 100000 in
theorem c_J7_fill_53178 (l : Launch) (D : va_G) (cy : Nat → ClassId) (A : Nat → Prop) (ad : gA) (L : gL)  (σ : gS) (K0 i0 n0 : Nat) (ha0 : (K0, i0) ∈ L) (hK0 : 10 ≤ K0 ∧ g_ty K0 = 1) (hn0 : g_len ad K0 i0 = n0) (a1 : Int32) (σ0 : gS) (hf : f_J7_fill_53178 ad σ K0 i0 n0 a1 = some σ0) : g_Mv l yJ7_fill_53178 cJ7_fill_53178 4 none ({ frames := 0, cells := 0, slots := 0, locals := 0 } : Room) D cy A ad L σ [.ref (ad K0 i0), .int a1] σ0 := by
  refine g_met (by decide) (Nat.le_of_ble_eq_true rfl) (fun p e s m below meth c C hr hlocks hnm G ls hl => ?_)
  have hl : lv_has ls 4 [(0, .ref (ad K0 i0)), (1, .int a1)] := hl
  have pt20 : ∀ (σ : gS) (H : Heap) (locs : List Loc) (ls : Array Slot), g_H D cy A ad L σ s.heap H locs → lv_has ls 4 [] → f_J7_fill_53178_P20 σ = some σ0 → g_Wv p l e ({ frames := 0, cells := 0, slots := 0, locals := 0 } : Room) s m below meth c H locs 0 0 D cy A ad L [.ref (ad K0 i0), .int a1] σ0 (F0 m 20 ls []) := by
    intro σ H locs ls G hl hf
    unfold f_J7_fill_53178_P20 at hf
    exact g_evi C G hr hlocks hf dJ7_fill_53178_20
  have lp5 : ∀ n5 : Nat, ∀ (σ : gS) (v2 : Int32) (v3 : Int32) (H : Heap) (locs : List Loc) (ls : Array Slot), g_H D cy A ad L σ s.heap H locs → lv_has ls 4 [(0, .ref (ad K0 i0)), (1, .int a1), (2, .int v2), (3, .int v3)] → f_J7_fill_53178_L5 K0 i0 n0 a1 (f_J7_fill_53178_P20) n5 σ v2 v3 = some σ0 → g_Wv p l e ({ frames := 0, cells := 0, slots := 0, locals := 0 } : Room) s m below meth c H locs 0 0 D cy A ad L [.ref (ad K0 i0), .int a1] σ0 (F0 m 5 ls []) := by
    intro n5
    induction n5 with
    | zero =>
      intro σ v2 v3 H locs ls G hl hf
      rw [f_J7_fill_53178_L5] at hf
      cases hf
    | succ n5 ih5 =>
      intro σ v2 v3 H locs ls G hl hf
      rw [f_J7_fill_53178_L5] at hf
      refine lv_iload_n C.x C.b dJ7_fill_53178_5 rfl (lv_at hl 2 rfl) ?_
      refine lv_iload_n C.x C.b dJ7_fill_53178_6 rfl (lv_at hl 3 rfl) ?_
      refine lv_icmp_ge (tgt := 20) C.x C.b dJ7_fill_53178_7 (by decide) (fun cb => ?_) (fun cb => ?_)
      · have hf := g_t cb hf
        exact pt20 σ _ _ ls G (lv_sub hl [] rfl) hf
      · have hf := g_f cb hf
        refine lv_aload_n C.x C.b dJ7_fill_53178_10 rfl (lv_at hl 0 rfl) ?_
        refine lv_iload_n C.x C.b dJ7_fill_53178_11 rfl (lv_at hl 2 rfl) ?_
        refine lv_iload_n C.x C.b dJ7_fill_53178_12 rfl (lv_at hl 1 rfl) ?_
        obtain ⟨hi1, hf⟩ := g_ok hf
        refine g_iast (n := n0) C G K0 i0 ha0 hK0 hn0 hi1 dJ7_fill_53178_13 (fun H locs G => ?_)
        obtain ⟨σ2, eσ2, hf⟩ := g_lt hf
        rw [← eσ2] at G
        refine lv_iinc (v := (v2 + (1 : Int32))) (lv' := [(2, .int (v2 + (1 : Int32))), (0, .ref (ad K0 i0)), (1, .int a1), (3, .int v3)]) C.x C.b dJ7_fill_53178_14 hl (k := 2) rfl rfl (by decide) rfl (fun ls hl => ?_)
        refine lv_goto (tgt := 5) C.x C.b dJ7_fill_53178_17 (by decide) ?_
        exact ih5 σ2 (v2 + (1 : Int32)) v3 _ _ ls G (lv_sub hl [1, 2, 0, 3] rfl) hf
  unfold f_J7_fill_53178 at hf
  refine lv_iconst (v := (0 : Int32)) C.x C.b dJ7_fill_53178_0 (by decide) ?_
  refine lv_istore_n (lv' := [(2, .int (0 : Int32)), (0, .ref (ad K0 i0)), (1, .int a1)]) C.x C.b dJ7_fill_53178_1 rfl hl (by decide) rfl (fun ls hl => ?_)
  refine lv_aload_n C.x C.b dJ7_fill_53178_2 rfl (lv_at hl 1 rfl) ?_
  refine g_alen C G K0 i0 ha0 ⟨hK0.1, by rw [hK0.2]; decide⟩ hn0 dJ7_fill_53178_3 ?_
  refine lv_istore_n (lv' := [(3, .int (Int32.ofNat n0)), (2, .int (0 : Int32)), (0, .ref (ad K0 i0)), (1, .int a1)]) C.x C.b dJ7_fill_53178_4 rfl hl (by decide) rfl (fun ls hl => ?_)
  exact lp5 g_fuel σ (0 : Int32) (Int32.ofNat n0) _ _ ls G (lv_sub hl [2, 3, 1, 0] rfl) hf
def f_J7_fill_031fb_P20 (σ : gS) : Option gS := (some σ)
def f_J7_fill_031fb_L5 (K0 : Nat) (i0 : Nat) (n0 : Nat) (a1 : Int32) (K5 : gS → Option gS) : Nat → gS → Int32 → Int32 → Option gS
  | 0, _, _, _ => none
  | n + 1, σ, v2, v3 => (if v3 ≤ v2 then (K5 σ) else (if g_ix v2 n0 then (g_let (g_up σ K0 i0 v2.toNatClampNeg (vp_nar .byte a1)) fun σ2 => (f_J7_fill_031fb_L5 K0 i0 n0 a1 K5 n σ2 (v2 + (1 : Int32)) v3)) else none))
def f_J7_fill_031fb (ad : gA) (σ : gS) (K0 : Nat) (i0 : Nat) (n0 : Nat) (a1 : Int32) : Option gS := (f_J7_fill_031fb_L5 K0 i0 n0 a1 (f_J7_fill_031fb_P20) g_fuel σ (0 : Int32) (Int32.ofNat n0))
theorem hd_J7_fill_031fb : yJ7_fill_031fb.cls ≠ "java/lang/invoke/MethodHandle" ∧ yJ7_fill_031fb.cls ≠ "java/lang/invoke/VarHandle" ∧ (parseMethodDescriptor yJ7_fill_031fb.desc).map (fun d => d.parameters.length) = some 2 := by decide +kernel
set_option maxHeartbeats 4000000 in
set_option maxRecDepth 100000 in
theorem c_J7_fill_031fb (l : Launch) (D : va_G) (cy : Nat → ClassId) (A : Nat → Prop) (ad : gA) (L : gL)  (σ : gS) (K0 i0 n0 : Nat) (ha0 : (K0, i0) ∈ L) (hK0 : 10 ≤ K0 ∧ g_ty K0 = 0) (hn0 : g_len ad K0 i0 = n0) (a1 : Int32) (σ0 : gS) (hf : f_J7_fill_031fb ad σ K0 i0 n0 a1 = some σ0) : g_Mv l yJ7_fill_031fb cJ7_fill_031fb 4 none ({ frames := 0, cells := 0, slots := 0, locals := 0 } : Room) D cy A ad L σ [.ref (ad K0 i0), .int a1] σ0 := by
  refine g_met (by decide) (Nat.le_of_ble_eq_true rfl) (fun p e s m below meth c C hr hlocks hnm G ls hl => ?_)
  have hl : lv_has ls 4 [(0, .ref (ad K0 i0)), (1, .int a1)] := hl
  have pt20 : ∀ (σ : gS) (H : Heap) (locs : List Loc) (ls : Array Slot), g_H D cy A ad L σ s.heap H locs → lv_has ls 4 [] → f_J7_fill_031fb_P20 σ = some σ0 → g_Wv p l e ({ frames := 0, cells := 0, slots := 0, locals := 0 } : Room) s m below meth c H locs 0 0 D cy A ad L [.ref (ad K0 i0), .int a1] σ0 (F0 m 20 ls []) := by
    intro σ H locs ls G hl hf
    unfold f_J7_fill_031fb_P20 at hf
    exact g_evi C G hr hlocks hf dJ7_fill_031fb_20
  have lp5 : ∀ n5 : Nat, ∀ (σ : gS) (v2 : Int32) (v3 : Int32) (H : Heap) (locs : List Loc) (ls : Array Slot), g_H D cy A ad L σ s.heap H locs → lv_has ls 4 [(0, .ref (ad K0 i0)), (1, .int a1), (2, .int v2), (3, .int v3)] → f_J7_fill_031fb_L5 K0 i0 n0 a1 (f_J7_fill_031fb_P20) n5 σ v2 v3 = some σ0 → g_Wv p l e ({ frames := 0, cells := 0, slots := 0, locals := 0 } : Room) s m below meth c H locs 0 0 D cy A ad L [.ref (ad K0 i0), .int a1] σ0 (F0 m 5 ls []) := by
    intro n5
    induction n5 with
    | zero =>
      intro σ v2 v3 H locs ls G hl hf
      rw [f_J7_fill_031fb_L5] at hf
      cases hf
    | succ n5 ih5 =>
      intro σ v2 v3 H locs ls G hl hf
      rw [f_J7_fill_031fb_L5] at hf
      refine lv_iload_n C.x C.b dJ7_fill_031fb_5 rfl (lv_at hl 2 rfl) ?_
      refine lv_iload_n C.x C.b dJ7_fill_031fb_6 rfl (lv_at hl 3 rfl) ?_
      refine lv_icmp_ge (tgt := 20) C.x C.b dJ7_fill_031fb_7 (by decide) (fun cb => ?_) (fun cb => ?_)
      · have hf := g_t cb hf
        exact pt20 σ _ _ ls G (lv_sub hl [] rfl) hf
      · have hf := g_f cb hf
        refine lv_aload_n C.x C.b dJ7_fill_031fb_10 rfl (lv_at hl 0 rfl) ?_
        refine lv_iload_n C.x C.b dJ7_fill_031fb_11 rfl (lv_at hl 2 rfl) ?_
        refine lv_iload_n C.x C.b dJ7_fill_031fb_12 rfl (lv_at hl 1 rfl) ?_
        obtain ⟨hi1, hf⟩ := g_ok hf
        refine g_bast (n := n0) C G K0 i0 ha0 hK0 hn0 hi1 dJ7_fill_031fb_13 (fun H locs G => ?_)
        obtain ⟨σ2, eσ2, hf⟩ := g_lt hf
        rw [← eσ2] at G
        refine lv_iinc (v := (v2 + (1 : Int32))) (lv' := [(2, .int (v2 + (1 : Int32))), (0, .ref (ad K0 i0)), (1, .int a1), (3, .int v3)]) C.x C.b dJ7_fill_031fb_14 hl (k := 2) rfl rfl (by decide) rfl (fun ls hl => ?_)
        refine lv_goto (tgt := 5) C.x C.b dJ7_fill_031fb_17 (by decide) ?_
        exact ih5 σ2 (v2 + (1 : Int32)) v3 _ _ ls G (lv_sub hl [1, 2, 0, 3] rfl) hf
  unfold f_J7_fill_031fb at hf
  refine lv_iconst (v := (0 : Int32)) C.x C.b dJ7_fill_031fb_0 (by decide) ?_
  refine lv_istore_n (lv' := [(2, .int (0 : Int32)), (0, .ref (ad K0 i0)), (1, .int a1)]) C.x C.b dJ7_fill_031fb_1 rfl hl (by decide) rfl (fun ls hl => ?_)
  refine lv_aload_n C.x C.b dJ7_fill_031fb_2 rfl (lv_at hl 1 rfl) ?_
  refine g_alen C G K0 i0 ha0 ⟨hK0.1, by rw [hK0.2]; decide⟩ hn0 dJ7_fill_031fb_3 ?_
  refine lv_istore_n (lv' := [(3, .int (Int32.ofNat n0)), (2, .int (0 : Int32)), (0, .ref (ad K0 i0)), (1, .int a1)]) C.x C.b dJ7_fill_031fb_4 rfl hl (by decide) rfl (fun ls hl => ?_)
  exact lp5 g_fuel σ (0 : Int32) (Int32.ofNat n0) _ _ ls G (lv_sub hl [2, 3, 1, 0] rfl) hf
def f_J6_bitCount_0f7a4 (ad : gA) (σ : gS) (a0 : Int32) : Option Int32 := (some ((((((((a0 - ((((a0).toUInt32 >>> (((1 : Int32)).toUInt32 &&& Int32.toUInt32 31)).toInt32) &&& (1431655765 : Int32))) &&& (858993459 : Int32)) + (((((a0 - ((((a0).toUInt32 >>> (((1 : Int32)).toUInt32 &&& Int32.toUInt32 31)).toInt32) &&& (1431655765 : Int32)))).toUInt32 >>> (((2 : Int32)).toUInt32 &&& Int32.toUInt32 31)).toInt32) &&& (858993459 : Int32))) + ((((((a0 - ((((a0).toUInt32 >>> (((1 : Int32)).toUInt32 &&& Int32.toUInt32 31)).toInt32) &&& (1431655765 : Int32))) &&& (858993459 : Int32)) + (((((a0 - ((((a0).toUInt32 >>> (((1 : Int32)).toUInt32 &&& Int32.toUInt32 31)).toInt32) &&& (1431655765 : Int32)))).toUInt32 >>> (((2 : Int32)).toUInt32 &&& Int32.toUInt32 31)).toInt32) &&& (858993459 : Int32)))).toUInt32 >>> (((4 : Int32)).toUInt32 &&& Int32.toUInt32 31)).toInt32)) &&& (252645135 : Int32)) + ((((((((a0 - ((((a0).toUInt32 >>> (((1 : Int32)).toUInt32 &&& Int32.toUInt32 31)).toInt32) &&& (1431655765 : Int32))) &&& (858993459 : Int32)) + (((((a0 - ((((a0).toUInt32 >>> (((1 : Int32)).toUInt32 &&& Int32.toUInt32 31)).toInt32) &&& (1431655765 : Int32)))).toUInt32 >>> (((2 : Int32)).toUInt32 &&& Int32.toUInt32 31)).toInt32) &&& (858993459 : Int32))) + ((((((a0 - ((((a0).toUInt32 >>> (((1 : Int32)).toUInt32 &&& Int32.toUInt32 31)).toInt32) &&& (1431655765 : Int32))) &&& (858993459 : Int32)) + (((((a0 - ((((a0).toUInt32 >>> (((1 : Int32)).toUInt32 &&& Int32.toUInt32 31)).toInt32) &&& (1431655765 : Int32)))).toUInt32 >>> (((2 : Int32)).toUInt32 &&& Int32.toUInt32 31)).toInt32) &&& (858993459 : Int32)))).toUInt32 >>> (((4 : Int32)).toUInt32 &&& Int32.toUInt32 31)).toInt32)) &&& (252645135 : Int32))).toUInt32 >>> (((8 : Int32)).toUInt32 &&& Int32.toUInt32 31)).toInt32)) + (((((((((a0 - ((((a0).toUInt32 >>> (((1 : Int32)).toUInt32 &&& Int32.toUInt32 31)).toInt32) &&& (1431655765 : Int32))) &&& (858993459 : Int32)) + (((((a0 - ((((a0).toUInt32 >>> (((1 : Int32)).toUInt32 &&& Int32.toUInt32 31)).toInt32) &&& (1431655765 : Int32)))).toUInt32 >>> (((2 : Int32)).toUInt32 &&& Int32.toUInt32 31)).toInt32) &&& (858993459 : Int32))) + ((((((a0 - ((((a0).toUInt32 >>> (((1 : Int32)).toUInt32 &&& Int32.toUInt32 31)).toInt32) &&& (1431655765 : Int32))) &&& (858993459 : Int32)) + (((((a0 - ((((a0).toUInt32 >>> (((1 : Int32)).toUInt32 &&& Int32.toUInt32 31)).toInt32) &&& (1431655765 : Int32)))).toUInt32 >>> (((2 : Int32)).toUInt32 &&& Int32.toUInt32 31)).toInt32) &&& (858993459 : Int32)))).toUInt32 >>> (((4 : Int32)).toUInt32 &&& Int32.toUInt32 31)).toInt32)) &&& (252645135 : Int32)) + ((((((((a0 - ((((a0).toUInt32 >>> (((1 : Int32)).toUInt32 &&& Int32.toUInt32 31)).toInt32) &&& (1431655765 : Int32))) &&& (858993459 : Int32)) + (((((a0 - ((((a0).toUInt32 >>> (((1 : Int32)).toUInt32 &&& Int32.toUInt32 31)).toInt32) &&& (1431655765 : Int32)))).toUInt32 >>> (((2 : Int32)).toUInt32 &&& Int32.toUInt32 31)).toInt32) &&& (858993459 : Int32))) + ((((((a0 - ((((a0).toUInt32 >>> (((1 : Int32)).toUInt32 &&& Int32.toUInt32 31)).toInt32) &&& (1431655765 : Int32))) &&& (858993459 : Int32)) + (((((a0 - ((((a0).toUInt32 >>> (((1 : Int32)).toUInt32 &&& Int32.toUInt32 31)).toInt32) &&& (1431655765 : Int32)))).toUInt32 >>> (((2 : Int32)).toUInt32 &&& Int32.toUInt32 31)).toInt32) &&& (858993459 : Int32)))).toUInt32 >>> (((4 : Int32)).toUInt32 &&& Int32.toUInt32 31)).toInt32)) &&& (252645135 : Int32))).toUInt32 >>> (((8 : Int32)).toUInt32 &&& Int32.toUInt32 31)).toInt32))).toUInt32 >>> (((16 : Int32)).toUInt32 &&& Int32.toUInt32 31)).toInt32)) &&& (63 : Int32)))
theorem hd_J6_bitCount_0f7a4 : yJ6_bitCount_0f7a4.cls ≠ "java/lang/invoke/MethodHandle" ∧ yJ6_bitCount_0f7a4.cls ≠ "java/lang/invoke/VarHandle" ∧ (parseMethodDescriptor yJ6_bitCount_0f7a4.desc).map (fun d => d.parameters.length) = some 1 := by decide +kernel
set_option maxHeartbeats 4000000 in
set_option maxRecDepth 100000 in
theorem c_J6_bitCount_0f7a4 (l : Launch) (D : va_G) (cy : Nat → ClassId) (A : Nat → Prop) (ad : gA) (L : gL)  (σ : gS) (a0 : Int32) (r0 : Int32) (hf : f_J6_bitCount_0f7a4 ad σ a0 = some r0) : g_Mi l yJ6_bitCount_0f7a4 cJ6_bitCount_0f7a4 1 (some .int) ({ frames := 0, cells := 0, slots := 0, locals := 0 } : Room) D cy A ad L σ [.int a0] r0 σ := by
  refine g_met (by decide) (Nat.le_of_ble_eq_true rfl) (fun p e s m below meth c C hr hlocks hnm G ls hl => ?_)
  have hl : lv_has ls 1 [(0, .int a0)] := hl
  unfold f_J6_bitCount_0f7a4 at hf
  refine lv_iload_n C.x C.b dJ6_bitCount_0f7a4_0 rfl (lv_at hl 0 rfl) ?_
  refine lv_iload_n C.x C.b dJ6_bitCount_0f7a4_1 rfl (lv_at hl 0 rfl) ?_
  refine lv_iconst (v := (1 : Int32)) C.x C.b dJ6_bitCount_0f7a4_2 (by decide) ?_
  refine lv_iushr C.x C.b dJ6_bitCount_0f7a4_3 rfl ?_
  refine lv_ldcw (v := (1431655765 : Int32)) C.x C.b C.1.2.2.2.1 (C.1.2.2.2.2 _ tw685) dJ6_bitCount_0f7a4_4 ?_
  refine lv_iand C.x C.b dJ6_bitCount_0f7a4_7 ?_
  refine lv_isub C.x C.b dJ6_bitCount_0f7a4_8 ?_
  refine lv_istore_n (lv' := [(0, .int (a0 - ((((a0).toUInt32 >>> (((1 : Int32)).toUInt32 &&& Int32.toUInt32 31)).toInt32) &&& (1431655765 : Int32))))]) C.x C.b dJ6_bitCount_0f7a4_9 rfl hl (by decide) rfl (fun ls hl => ?_)
  refine lv_iload_n C.x C.b dJ6_bitCount_0f7a4_10 rfl (lv_at hl 0 rfl) ?_
  refine lv_ldcw (v := (858993459 : Int32)) C.x C.b C.1.2.2.2.1 (C.1.2.2.2.2 _ tw686) dJ6_bitCount_0f7a4_11 ?_
  refine lv_iand C.x C.b dJ6_bitCount_0f7a4_14 ?_
  refine lv_iload_n C.x C.b dJ6_bitCount_0f7a4_15 rfl (lv_at hl 0 rfl) ?_
  refine lv_iconst (v := (2 : Int32)) C.x C.b dJ6_bitCount_0f7a4_16 (by decide) ?_
  refine lv_iushr C.x C.b dJ6_bitCount_0f7a4_17 rfl ?_
  refine lv_ldcw (v := (858993459 : Int32)) C.x C.b C.1.2.2.2.1 (C.1.2.2.2.2 _ tw686) dJ6_bitCount_0f7a4_18 ?_
  refine lv_iand C.x C.b dJ6_bitCount_0f7a4_21 ?_
  refine lv_iadd C.x C.b dJ6_bitCount_0f7a4_22 ?_
  refine lv_istore_n (lv' := [(0, .int (((a0 - ((((a0).toUInt32 >>> (((1 : Int32)).toUInt32 &&& Int32.toUInt32 31)).toInt32) &&& (1431655765 : Int32))) &&& (858993459 : Int32)) + (((((a0 - ((((a0).toUInt32 >>> (((1 : Int32)).toUInt32 &&& Int32.toUInt32 31)).toInt32) &&& (1431655765 : Int32)))).toUInt32 >>> (((2 : Int32)).toUInt32 &&& Int32.toUInt32 31)).toInt32) &&& (858993459 : Int32))))]) C.x C.b dJ6_bitCount_0f7a4_23 rfl hl (by decide) rfl (fun ls hl => ?_)
  refine lv_iload_n C.x C.b dJ6_bitCount_0f7a4_24 rfl (lv_at hl 0 rfl) ?_
  refine lv_iload_n C.x C.b dJ6_bitCount_0f7a4_25 rfl (lv_at hl 0 rfl) ?_
  refine lv_iconst (v := (4 : Int32)) C.x C.b dJ6_bitCount_0f7a4_26 (by decide) ?_
  refine lv_iushr C.x C.b dJ6_bitCount_0f7a4_27 rfl ?_
  refine lv_iadd C.x C.b dJ6_bitCount_0f7a4_28 ?_
  refine lv_ldcw (v := (252645135 : Int32)) C.x C.b C.1.2.2.2.1 (C.1.2.2.2.2 _ tw687) dJ6_bitCount_0f7a4_29 ?_
  refine lv_iand C.x C.b dJ6_bitCount_0f7a4_32 ?_
  refine lv_istore_n (lv' := [(0, .int (((((a0 - ((((a0).toUInt32 >>> (((1 : Int32)).toUInt32 &&& Int32.toUInt32 31)).toInt32) &&& (1431655765 : Int32))) &&& (858993459 : Int32)) + (((((a0 - ((((a0).toUInt32 >>> (((1 : Int32)).toUInt32 &&& Int32.toUInt32 31)).toInt32) &&& (1431655765 : Int32)))).toUInt32 >>> (((2 : Int32)).toUInt32 &&& Int32.toUInt32 31)).toInt32) &&& (858993459 : Int32))) + ((((((a0 - ((((a0).toUInt32 >>> (((1 : Int32)).toUInt32 &&& Int32.toUInt32 31)).toInt32) &&& (1431655765 : Int32))) &&& (858993459 : Int32)) + (((((a0 - ((((a0).toUInt32 >>> (((1 : Int32)).toUInt32 &&& Int32.toUInt32 31)).toInt32) &&& (1431655765 : Int32)))).toUInt32 >>> (((2 : Int32)).toUInt32 &&& Int32.toUInt32 31)).toInt32) &&& (858993459 : Int32)))).toUInt32 >>> (((4 : Int32)).toUInt32 &&& Int32.toUInt32 31)).toInt32)) &&& (252645135 : Int32)))]) C.x C.b dJ6_bitCount_0f7a4_33 rfl hl (by decide) rfl (fun ls hl => ?_)
  refine lv_iload_n C.x C.b dJ6_bitCount_0f7a4_34 rfl (lv_at hl 0 rfl) ?_
  refine lv_iload_n C.x C.b dJ6_bitCount_0f7a4_35 rfl (lv_at hl 0 rfl) ?_
  refine lv_bipush (v := (8 : Int32)) C.x C.b dJ6_bitCount_0f7a4_36 (by decide) ?_
  refine lv_iushr C.x C.b dJ6_bitCount_0f7a4_38 rfl ?_
  refine lv_iadd C.x C.b dJ6_bitCount_0f7a4_39 ?_
  refine lv_istore_n (lv' := [(0, .int ((((((a0 - ((((a0).toUInt32 >>> (((1 : Int32)).toUInt32 &&& Int32.toUInt32 31)).toInt32) &&& (1431655765 : Int32))) &&& (858993459 : Int32)) + (((((a0 - ((((a0).toUInt32 >>> (((1 : Int32)).toUInt32 &&& Int32.toUInt32 31)).toInt32) &&& (1431655765 : Int32)))).toUInt32 >>> (((2 : Int32)).toUInt32 &&& Int32.toUInt32 31)).toInt32) &&& (858993459 : Int32))) + ((((((a0 - ((((a0).toUInt32 >>> (((1 : Int32)).toUInt32 &&& Int32.toUInt32 31)).toInt32) &&& (1431655765 : Int32))) &&& (858993459 : Int32)) + (((((a0 - ((((a0).toUInt32 >>> (((1 : Int32)).toUInt32 &&& Int32.toUInt32 31)).toInt32) &&& (1431655765 : Int32)))).toUInt32 >>> (((2 : Int32)).toUInt32 &&& Int32.toUInt32 31)).toInt32) &&& (858993459 : Int32)))).toUInt32 >>> (((4 : Int32)).toUInt32 &&& Int32.toUInt32 31)).toInt32)) &&& (252645135 : Int32)) + ((((((((a0 - ((((a0).toUInt32 >>> (((1 : Int32)).toUInt32 &&& Int32.toUInt32 31)).toInt32) &&& (1431655765 : Int32))) &&& (858993459 : Int32)) + (((((a0 - ((((a0).toUInt32 >>> (((1 : Int32)).toUInt32 &&& Int32.toUInt32 31)).toInt32) &&& (1431655765 : Int32)))).toUInt32 >>> (((2 : Int32)).toUInt32 &&& Int32.toUInt32 31)).toInt32) &&& (858993459 : Int32))) + ((((((a0 - ((((a0).toUInt32 >>> (((1 : Int32)).toUInt32 &&& Int32.toUInt32 31)).toInt32) &&& (1431655765 : Int32))) &&& (858993459 : Int32)) + (((((a0 - ((((a0).toUInt32 >>> (((1 : Int32)).toUInt32 &&& Int32.toUInt32 31)).toInt32) &&& (1431655765 : Int32)))).toUInt32 >>> (((2 : Int32)).toUInt32 &&& Int32.toUInt32 31)).toInt32) &&& (858993459 : Int32)))).toUInt32 >>> (((4 : Int32)).toUInt32 &&& Int32.toUInt32 31)).toInt32)) &&& (252645135 : Int32))).toUInt32 >>> (((8 : Int32)).toUInt32 &&& Int32.toUInt32 31)).toInt32)))]) C.x C.b dJ6_bitCount_0f7a4_40 rfl hl (by decide) rfl (fun ls hl => ?_)
  refine lv_iload_n C.x C.b dJ6_bitCount_0f7a4_41 rfl (lv_at hl 0 rfl) ?_
  refine lv_iload_n C.x C.b dJ6_bitCount_0f7a4_42 rfl (lv_at hl 0 rfl) ?_
  refine lv_bipush (v := (16 : Int32)) C.x C.b dJ6_bitCount_0f7a4_43 (by decide) ?_
  refine lv_iushr C.x C.b dJ6_bitCount_0f7a4_45 rfl ?_
  refine lv_iadd C.x C.b dJ6_bitCount_0f7a4_46 ?_
  refine lv_istore_n (lv' := [(0, .int (((((((a0 - ((((a0).toUInt32 >>> (((1 : Int32)).toUInt32 &&& Int32.toUInt32 31)).toInt32) &&& (1431655765 : Int32))) &&& (858993459 : Int32)) + (((((a0 - ((((a0).toUInt32 >>> (((1 : Int32)).toUInt32 &&& Int32.toUInt32 31)).toInt32) &&& (1431655765 : Int32)))).toUInt32 >>> (((2 : Int32)).toUInt32 &&& Int32.toUInt32 31)).toInt32) &&& (858993459 : Int32))) + ((((((a0 - ((((a0).toUInt32 >>> (((1 : Int32)).toUInt32 &&& Int32.toUInt32 31)).toInt32) &&& (1431655765 : Int32))) &&& (858993459 : Int32)) + (((((a0 - ((((a0).toUInt32 >>> (((1 : Int32)).toUInt32 &&& Int32.toUInt32 31)).toInt32) &&& (1431655765 : Int32)))).toUInt32 >>> (((2 : Int32)).toUInt32 &&& Int32.toUInt32 31)).toInt32) &&& (858993459 : Int32)))).toUInt32 >>> (((4 : Int32)).toUInt32 &&& Int32.toUInt32 31)).toInt32)) &&& (252645135 : Int32)) + ((((((((a0 - ((((a0).toUInt32 >>> (((1 : Int32)).toUInt32 &&& Int32.toUInt32 31)).toInt32) &&& (1431655765 : Int32))) &&& (858993459 : Int32)) + (((((a0 - ((((a0).toUInt32 >>> (((1 : Int32)).toUInt32 &&& Int32.toUInt32 31)).toInt32) &&& (1431655765 : Int32)))).toUInt32 >>> (((2 : Int32)).toUInt32 &&& Int32.toUInt32 31)).toInt32) &&& (858993459 : Int32))) + ((((((a0 - ((((a0).toUInt32 >>> (((1 : Int32)).toUInt32 &&& Int32.toUInt32 31)).toInt32) &&& (1431655765 : Int32))) &&& (858993459 : Int32)) + (((((a0 - ((((a0).toUInt32 >>> (((1 : Int32)).toUInt32 &&& Int32.toUInt32 31)).toInt32) &&& (1431655765 : Int32)))).toUInt32 >>> (((2 : Int32)).toUInt32 &&& Int32.toUInt32 31)).toInt32) &&& (858993459 : Int32)))).toUInt32 >>> (((4 : Int32)).toUInt32 &&& Int32.toUInt32 31)).toInt32)) &&& (252645135 : Int32))).toUInt32 >>> (((8 : Int32)).toUInt32 &&& Int32.toUInt32 31)).toInt32)) + (((((((((a0 - ((((a0).toUInt32 >>> (((1 : Int32)).toUInt32 &&& Int32.toUInt32 31)).toInt32) &&& (1431655765 : Int32))) &&& (858993459 : Int32)) + (((((a0 - ((((a0).toUInt32 >>> (((1 : Int32)).toUInt32 &&& Int32.toUInt32 31)).toInt32) &&& (1431655765 : Int32)))).toUInt32 >>> (((2 : Int32)).toUInt32 &&& Int32.toUInt32 31)).toInt32) &&& (858993459 : Int32))) + ((((((a0 - ((((a0).toUInt32 >>> (((1 : Int32)).toUInt32 &&& Int32.toUInt32 31)).toInt32) &&& (1431655765 : Int32))) &&& (858993459 : Int32)) + (((((a0 - ((((a0).toUInt32 >>> (((1 : Int32)).toUInt32 &&& Int32.toUInt32 31)).toInt32) &&& (1431655765 : Int32)))).toUInt32 >>> (((2 : Int32)).toUInt32 &&& Int32.toUInt32 31)).toInt32) &&& (858993459 : Int32)))).toUInt32 >>> (((4 : Int32)).toUInt32 &&& Int32.toUInt32 31)).toInt32)) &&& (252645135 : Int32)) + ((((((((a0 - ((((a0).toUInt32 >>> (((1 : Int32)).toUInt32 &&& Int32.toUInt32 31)).toInt32) &&& (1431655765 : Int32))) &&& (858993459 : Int32)) + (((((a0 - ((((a0).toUInt32 >>> (((1 : Int32)).toUInt32 &&& Int32.toUInt32 31)).toInt32) &&& (1431655765 : Int32)))).toUInt32 >>> (((2 : Int32)).toUInt32 &&& Int32.toUInt32 31)).toInt32) &&& (858993459 : Int32))) + ((((((a0 - ((((a0).toUInt32 >>> (((1 : Int32)).toUInt32 &&& Int32.toUInt32 31)).toInt32) &&& (1431655765 : Int32))) &&& (858993459 : Int32)) + (((((a0 - ((((a0).toUInt32 >>> (((1 : Int32)).toUInt32 &&& Int32.toUInt32 31)).toInt32) &&& (1431655765 : Int32)))).toUInt32 >>> (((2 : Int32)).toUInt32 &&& Int32.toUInt32 31)).toInt32) &&& (858993459 : Int32)))).toUInt32 >>> (((4 : Int32)).toUInt32 &&& Int32.toUInt32 31)).toInt32)) &&& (252645135 : Int32))).toUInt32 >>> (((8 : Int32)).toUInt32 &&& Int32.toUInt32 31)).toInt32))).toUInt32 >>> (((16 : Int32)).toUInt32 &&& Int32.toUInt32 31)).toInt32)))]) C.x C.b dJ6_bitCount_0f7a4_47 rfl hl (by decide) rfl (fun ls hl => ?_)
  refine lv_iload_n C.x C.b dJ6_bitCount_0f7a4_48 rfl (lv_at hl 0 rfl) ?_
  refine lv_bipush (v := (63 : Int32)) C.x C.b dJ6_bitCount_0f7a4_49 (by decide) ?_
  refine lv_iand C.x C.b dJ6_bitCount_0f7a4_51 ?_
  exact g_eip C G hr hlocks hf dJ6_bitCount_0f7a4_52
def f_X0_open (ad : gA) (σ : gS) (a1 : Int32) (a2 : Int32) : Option gS := (g_let (g_up σ 0 0 0 a1) fun σ1 => (g_let (g_up σ1 0 0 1 a2) fun σ2 => (g_let (g_up σ2 0 0 2 (0 : Int32)) fun σ3 => ((f_J7_fill_53178 ad σ3 12 0 35 (0 : Int32)).bind fun σ5 => (some σ5)))))
theorem hd_X0_open : yX0_open.cls ≠ "java/lang/invoke/MethodHandle" ∧ yX0_open.cls ≠ "java/lang/invoke/VarHandle" ∧ (parseMethodDescriptor yX0_open.desc).map (fun d => d.parameters.length) = some 2 := by decide +kernel
set_option maxHeartbeats 4000000 in
set_option maxRecDepth 100000 in
theorem c_X0_open (l : Launch) (D : va_G) (cy : Nat → ClassId) (A : Nat → Prop) (ad : gA) (L : gL)  (σ : gS) (hT : (0, 0) ∈ L) (a1 : Int32) (a2 : Int32) (σ0 : gS) (hf : f_X0_open ad σ a1 a2 = some σ0) : g_Mv l yX0_open cX0_open 3 none ({ frames := 1, cells := 0, slots := 0, locals := 23 } : Room) D cy A ad L σ [.ref (ad 0 0), .int a1, .int a2] σ0 := by
  refine g_met (by decide) (Nat.le_of_ble_eq_true rfl) (fun p e s m below meth c C hr hlocks hnm G ls hl => ?_)
  have hl : lv_has ls 3 [(0, .ref (ad 0 0)), (1, .int a1), (2, .int a2)] := hl
  unfold f_X0_open at hf
  refine lv_aload_n C.x C.b dX0_open_0 rfl (lv_at hl 0 rfl) ?_
  refine lv_iload_n C.x C.b dX0_open_1 rfl (lv_at hl 1 rfl) ?_
  refine g_puti C G 0 0 0 hT (v := a1) rfl ginX0 tyX0_ok nmX0 (by decide) ⟨rfl, rfl⟩ tw219 dX0_open_2 (fun H locs G => ?_)
  obtain ⟨σ1, eσ1, hf⟩ := g_lt hf
  rw [← eσ1] at G
  refine lv_aload_n C.x C.b dX0_open_5 rfl (lv_at hl 0 rfl) ?_
  refine lv_iload_n C.x C.b dX0_open_6 rfl (lv_at hl 2 rfl) ?_
  refine g_puti C G 0 0 1 hT (v := a2) rfl ginX0 tyX0_ok nmX0 (by decide) ⟨rfl, rfl⟩ tw220 dX0_open_7 (fun H locs G => ?_)
  obtain ⟨σ2, eσ2, hf⟩ := g_lt hf
  rw [← eσ2] at G
  refine lv_aload_n C.x C.b dX0_open_10 rfl (lv_at hl 0 rfl) ?_
  refine lv_iconst (v := (0 : Int32)) C.x C.b dX0_open_11 (by decide) ?_
  refine g_puti C G 0 0 2 hT (v := (0 : Int32)) rfl ginX0 tyX0_ok nmX0 (by decide) ⟨rfl, rfl⟩ tw222 dX0_open_12 (fun H locs G => ?_)
  obtain ⟨σ3, eσ3, hf⟩ := g_lt hf
  rw [← eσ3] at G
  refine lv_aload_n C.x C.b dX0_open_15 rfl (lv_at hl 0 rfl) ?_
  refine g_getr C G 0 0 6 12 hT rfl ginX0 (by decide) tw229 dX0_open_16 (fun hL4 => ?_)
  refine lv_iconst (v := (0 : Int32)) C.x C.b dX0_open_19 (by decide) ?_
  obtain ⟨σ5, eσ5, hf⟩ := g_b hf
  refine g_callv G (g_runS (As := [.ref (ad 12 0), .int (0 : Int32)]) (rest := []) C G (c_J7_fill_53178 l D cy A ad L σ3 12 0 35 hL4 (by decide) rfl (0 : Int32) σ5 eσ5) ⟨tw673, tw62, tw671, tw672, hd_J7_fill_53178⟩ (by decide) hl.1 rfl (Nat.le_of_ble_eq_true rfl) dX0_open_20 ⟨Nat.le_of_ble_eq_true rfl, Nat.le_of_ble_eq_true rfl⟩) (fun H locs G => ?_)
  exact g_evi C G hr hlocks hf dX0_open_23
def f_X0_isBallot (ad : gA) (σ : gS) (a1 : Int32) : Option Int32 := (if a1 < 0 then (some (0 : Int32)) else (if ((1 : Int32) <<< ((σ 0 0 0) &&& 31)) ≤ a1 then (some (0 : Int32)) else ((f_J6_bitCount_0f7a4 ad σ a1).bind fun q1 => (if q1 = (σ 0 0 1) then (some (1 : Int32)) else (some (0 : Int32))))))
theorem hd_X0_isBallot : yX0_isBallot.cls ≠ "java/lang/invoke/MethodHandle" ∧ yX0_isBallot.cls ≠ "java/lang/invoke/VarHandle" ∧ (parseMethodDescriptor yX0_isBallot.desc).map (fun d => d.parameters.length) = some 1 := by decide +kernel
set_option maxHeartbeats 4000000 in
set_option maxRecDepth 100000 in
theorem c_X0_isBallot (l : Launch) (D : va_G) (cy : Nat → ClassId) (A : Nat → Prop) (ad : gA) (L : gL)  (σ : gS) (hT : (0, 0) ∈ L) (a1 : Int32) (r0 : Int32) (hf : f_X0_isBallot ad σ a1 = some r0) : g_Mi l yX0_isBallot cX0_isBallot 2 (some .boolean) ({ frames := 1, cells := 0, slots := 0, locals := 20 } : Room) D cy A ad L σ [.ref (ad 0 0), .int a1] r0 σ := by
  refine g_met (by decide) (Nat.le_of_ble_eq_true rfl) (fun p e s m below meth c C hr hlocks hnm G ls hl => ?_)
  have hl : lv_has ls 2 [(0, .ref (ad 0 0)), (1, .int a1)] := hl
  unfold f_X0_isBallot at hf
  refine lv_iload_n C.x C.b dX0_isBallot_0 rfl (lv_at hl 1 rfl) ?_
  refine lv_if_lt (tgt := 29) C.x C.b dX0_isBallot_1 (by decide) (fun cb => ?_) (fun cb => ?_)
  · have hf := g_t cb hf
    refine lv_iconst (v := (0 : Int32)) C.x C.b dX0_isBallot_29 (by decide) ?_
    exact g_ezp C G hr hlocks hf rfl dX0_isBallot_30
  · have hf := g_f cb hf
    refine lv_iload_n C.x C.b dX0_isBallot_4 rfl (lv_at hl 1 rfl) ?_
    refine lv_iconst (v := (1 : Int32)) C.x C.b dX0_isBallot_5 (by decide) ?_
    refine lv_aload_n C.x C.b dX0_isBallot_6 rfl (lv_at hl 0 rfl) ?_
    refine g_geti C G 0 0 0 hT rfl ginX0 (by decide) tw219 dX0_isBallot_7 ?_
    refine lv_ishl C.x C.b dX0_isBallot_10 ?_
    refine lv_icmp_ge (tgt := 29) C.x C.b dX0_isBallot_11 (by decide) (fun cb => ?_) (fun cb => ?_)
    · have hf := g_t cb hf
      refine lv_iconst (v := (0 : Int32)) C.x C.b dX0_isBallot_29 (by decide) ?_
      exact g_ezp C G hr hlocks hf rfl dX0_isBallot_30
    · have hf := g_f cb hf
      refine lv_iload_n C.x C.b dX0_isBallot_14 rfl (lv_at hl 1 rfl) ?_
      obtain ⟨q1, eq1, hf⟩ := g_b hf
      refine g_calli G (g_runS (As := [.int a1]) (rest := []) C G (c_J6_bitCount_0f7a4 l D cy A ad L σ a1 q1 eq1) ⟨tw684, tw65, tw682, tw683, hd_J6_bitCount_0f7a4⟩ (by decide) hl.1 rfl (Nat.le_of_ble_eq_true rfl) dX0_isBallot_15 ⟨Nat.le_of_ble_eq_true rfl, Nat.le_of_ble_eq_true rfl⟩) (fun H locs G => ?_)
      refine lv_aload_n C.x C.b dX0_isBallot_18 rfl (lv_at hl 0 rfl) ?_
      refine g_geti C G 0 0 1 hT rfl ginX0 (by decide) tw220 dX0_isBallot_19 ?_
      refine lv_icmp_ne (tgt := 29) C.x C.b dX0_isBallot_22 (by decide) (fun cb => ?_) (fun cb => ?_)
      · have hf := g_f cb hf
        refine lv_iconst (v := (0 : Int32)) C.x C.b dX0_isBallot_29 (by decide) ?_
        exact g_ezp C G hr hlocks hf rfl dX0_isBallot_30
      · have hf := g_t cb hf
        refine lv_iconst (v := (1 : Int32)) C.x C.b dX0_isBallot_25 (by decide) ?_
        refine lv_goto (tgt := 30) C.x C.b dX0_isBallot_26 (by decide) ?_
        exact g_ezp C G hr hlocks hf rfl dX0_isBallot_30
def f_X0_take (ad : gA) (σ : gS) (a1 : Int32) (a2 : Int32) : Option (Int32 × gS) := (if g_ix a1 35 then (if (σ 12 0 a1.toNatClampNeg) = 0 then (g_let (g_up σ 0 0 2 ((σ 0 0 2) + (1 : Int32))) fun σ6 => (if g_ix a1 35 then (g_let (g_up σ6 12 0 a1.toNatClampNeg a2) fun σ9 => (if (σ 12 0 a1.toNatClampNeg) = a2 then (some ((0 : Int32), σ9)) else (some ((1 : Int32), σ9)))) else none)) else (if g_ix a1 35 then (g_let (g_up σ 12 0 a1.toNatClampNeg a2) fun σ5 => (if (σ 12 0 a1.toNatClampNeg) = a2 then (some ((0 : Int32), σ5)) else (some ((1 : Int32), σ5)))) else none)) else none)
theorem hd_X0_take : yX0_take.cls ≠ "java/lang/invoke/MethodHandle" ∧ yX0_take.cls ≠ "java/lang/invoke/VarHandle" ∧ (parseMethodDescriptor yX0_take.desc).map (fun d => d.parameters.length) = some 2 := by decide +kernel
set_option maxHeartbeats 4000000 in
set_option maxRecDepth 100000 in
theorem c_X0_take (l : Launch) (D : va_G) (cy : Nat → ClassId) (A : Nat → Prop) (ad : gA) (L : gL)  (σ : gS) (hT : (0, 0) ∈ L) (a1 : Int32) (a2 : Int32) (r0 : Int32) (σ0 : gS) (hf : f_X0_take ad σ a1 a2 = some (r0, σ0)) : g_Mi l yX0_take cX0_take 4 (some .boolean) ({ frames := 0, cells := 0, slots := 0, locals := 0 } : Room) D cy A ad L σ [.ref (ad 0 0), .int a1, .int a2] r0 σ0 := by
  refine g_met (by decide) (Nat.le_of_ble_eq_true rfl) (fun p e s m below meth c C hr hlocks hnm G ls hl => ?_)
  have hl : lv_has ls 4 [(0, .ref (ad 0 0)), (1, .int a1), (2, .int a2)] := hl
  unfold f_X0_take at hf
  refine lv_aload_n C.x C.b dX0_take_0 rfl (lv_at hl 0 rfl) ?_
  refine g_getr C G 0 0 6 12 hT rfl ginX0 (by decide) tw229 dX0_take_1 (fun hL1 => ?_)
  refine lv_iload_n C.x C.b dX0_take_4 rfl (lv_at hl 1 rfl) ?_
  obtain ⟨hi2, hf⟩ := g_ok hf
  refine g_iald (n := 35) C G 12 0 hL1 (by decide) rfl hi2 dX0_take_5 ?_
  refine lv_istore_n (lv' := [(3, .int (σ 12 0 a1.toNatClampNeg)), (0, .ref (ad 0 0)), (1, .int a1), (2, .int a2)]) C.x C.b dX0_take_6 rfl hl (by decide) rfl (fun ls hl => ?_)
  refine lv_iload_n C.x C.b dX0_take_7 rfl (lv_at hl 0 rfl) ?_
  refine lv_if_ne (tgt := 21) C.x C.b dX0_take_8 (by decide) (fun cb => ?_) (fun cb => ?_)
  · have hf := g_f cb hf
    refine lv_aload_n C.x C.b dX0_take_21 rfl (lv_at hl 1 rfl) ?_
    refine g_getr C G 0 0 6 12 hT rfl ginX0 (by decide) tw229 dX0_take_22 (fun hL3 => ?_)
    refine lv_iload_n C.x C.b dX0_take_25 rfl (lv_at hl 2 rfl) ?_
    refine lv_iload_n C.x C.b dX0_take_26 rfl (lv_at hl 3 rfl) ?_
    obtain ⟨hi4, hf⟩ := g_ok hf
    refine g_iast (n := 35) C G 12 0 hL3 (by decide) rfl hi4 dX0_take_27 (fun H locs G => ?_)
    obtain ⟨σ5, eσ5, hf⟩ := g_lt hf
    rw [← eσ5] at G
    refine lv_iload_n C.x C.b dX0_take_28 rfl (lv_at hl 0 rfl) ?_
    refine lv_iload_n C.x C.b dX0_take_29 rfl (lv_at hl 3 rfl) ?_
    refine lv_icmp_eq (tgt := 37) C.x C.b dX0_take_30 (by decide) (fun cb => ?_) (fun cb => ?_)
    · have hf := g_t cb hf
      refine lv_iconst (v := (0 : Int32)) C.x C.b dX0_take_37 (by decide) ?_
      exact g_ezi C G hr hlocks hf rfl dX0_take_38
    · have hf := g_f cb hf
      refine lv_iconst (v := (1 : Int32)) C.x C.b dX0_take_33 (by decide) ?_
      refine lv_goto (tgt := 38) C.x C.b dX0_take_34 (by decide) ?_
      exact g_ezi C G hr hlocks hf rfl dX0_take_38
  · have hf := g_t cb hf
    refine lv_aload_n C.x C.b dX0_take_11 rfl (lv_at hl 1 rfl) ?_
    refine lv_dup C.x C.b dX0_take_12 rfl ?_
    refine g_geti C G 0 0 2 hT rfl ginX0 (by decide) tw222 dX0_take_13 ?_
    refine lv_iconst (v := (1 : Int32)) C.x C.b dX0_take_16 (by decide) ?_
    refine lv_iadd C.x C.b dX0_take_17 ?_
    refine g_puti C G 0 0 2 hT (v := ((σ 0 0 2) + (1 : Int32))) rfl ginX0 tyX0_ok nmX0 (by decide) ⟨rfl, rfl⟩ tw222 dX0_take_18 (fun H locs G => ?_)
    obtain ⟨σ6, eσ6, hf⟩ := g_lt hf
    rw [← eσ6] at G
    refine lv_aload_n C.x C.b dX0_take_21 rfl (lv_at hl 1 rfl) ?_
    refine g_getr C G 0 0 6 12 hT rfl ginX0 (by decide) tw229 dX0_take_22 (fun hL7 => ?_)
    refine lv_iload_n C.x C.b dX0_take_25 rfl (lv_at hl 2 rfl) ?_
    refine lv_iload_n C.x C.b dX0_take_26 rfl (lv_at hl 3 rfl) ?_
    obtain ⟨hi8, hf⟩ := g_ok hf
    refine g_iast (n := 35) C G 12 0 hL7 (by decide) rfl hi8 dX0_take_27 (fun H locs G => ?_)
    obtain ⟨σ9, eσ9, hf⟩ := g_lt hf
    rw [← eσ9] at G
    refine lv_iload_n C.x C.b dX0_take_28 rfl (lv_at hl 0 rfl) ?_
    refine lv_iload_n C.x C.b dX0_take_29 rfl (lv_at hl 3 rfl) ?_
    refine lv_icmp_eq (tgt := 37) C.x C.b dX0_take_30 (by decide) (fun cb => ?_) (fun cb => ?_)
    · have hf := g_t cb hf
      refine lv_iconst (v := (0 : Int32)) C.x C.b dX0_take_37 (by decide) ?_
      exact g_ezi C G hr hlocks hf rfl dX0_take_38
    · have hf := g_f cb hf
      refine lv_iconst (v := (1 : Int32)) C.x C.b dX0_take_33 (by decide) ?_
      refine lv_goto (tgt := 38) C.x C.b dX0_take_34 (by decide) ?_
      exact g_ezi C G hr hlocks hf rfl dX0_take_38
def f_X0_elect (ad : gA) (σ : gS) (a1 : Int32) (a2 : Int32) : Option gS := (if g_ix (σ 0 0 5) 2 then (g_let (g_up σ 10 0 ((σ 0 0 5).toNatClampNeg) a1) fun σ3 => (if g_ix (σ3 0 0 5) 2 then (g_let (g_up σ3 11 0 ((σ3 0 0 5).toNatClampNeg) a2) fun σ6 => (g_let (g_up σ6 0 0 5 ((σ6 0 0 5) + (1 : Int32))) fun σ7 => (some σ7))) else none)) else none)
theorem hd_X0_elect : yX0_elect.cls ≠ "java/lang/invoke/MethodHandle" ∧ yX0_elect.cls ≠ "java/lang/invoke/VarHandle" ∧ (parseMethodDescriptor yX0_elect.desc).map (fun d => d.parameters.length) = some 2 := by decide +kernel
set_option maxHeartbeats 4000000 in
set_option maxRecDepth 100000 in
theorem c_X0_elect (l : Launch) (D : va_G) (cy : Nat → ClassId) (A : Nat → Prop) (ad : gA) (L : gL)  (σ : gS) (hT : (0, 0) ∈ L) (a1 : Int32) (a2 : Int32) (σ0 : gS) (hf : f_X0_elect ad σ a1 a2 = some σ0) : g_Mv l yX0_elect cX0_elect 3 none ({ frames := 0, cells := 0, slots := 0, locals := 0 } : Room) D cy A ad L σ [.ref (ad 0 0), .int a1, .int a2] σ0 := by
  refine g_met (by decide) (Nat.le_of_ble_eq_true rfl) (fun p e s m below meth c C hr hlocks hnm G ls hl => ?_)
  have hl : lv_has ls 3 [(0, .ref (ad 0 0)), (1, .int a1), (2, .int a2)] := hl
  unfold f_X0_elect at hf
  refine lv_aload_n C.x C.b dX0_elect_0 rfl (lv_at hl 0 rfl) ?_
  refine g_getr C G 0 0 3 10 hT rfl ginX0 (by decide) tw224 dX0_elect_1 (fun hL1 => ?_)
  refine lv_aload_n C.x C.b dX0_elect_4 rfl (lv_at hl 0 rfl) ?_
  refine g_geti C G 0 0 5 hT rfl ginX0 (by decide) tw228 dX0_elect_5 ?_
  refine lv_iload_n C.x C.b dX0_elect_8 rfl (lv_at hl 1 rfl) ?_
  obtain ⟨hi2, hf⟩ := g_ok hf
  refine g_iast (n := 2) C G 10 0 hL1 (by decide) rfl hi2 dX0_elect_9 (fun H locs G => ?_)
  obtain ⟨σ3, eσ3, hf⟩ := g_lt hf
  rw [← eσ3] at G
  refine lv_aload_n C.x C.b dX0_elect_10 rfl (lv_at hl 0 rfl) ?_
  refine g_getr C G 0 0 4 11 hT rfl ginX0 (by decide) tw226 dX0_elect_11 (fun hL4 => ?_)
  refine lv_aload_n C.x C.b dX0_elect_14 rfl (lv_at hl 0 rfl) ?_
  refine g_geti C G 0 0 5 hT rfl ginX0 (by decide) tw228 dX0_elect_15 ?_
  refine lv_iload_n C.x C.b dX0_elect_18 rfl (lv_at hl 2 rfl) ?_
  obtain ⟨hi5, hf⟩ := g_ok hf
  refine g_iast (n := 2) C G 11 0 hL4 (by decide) rfl hi5 dX0_elect_19 (fun H locs G => ?_)
  obtain ⟨σ6, eσ6, hf⟩ := g_lt hf
  rw [← eσ6] at G
  refine lv_aload_n C.x C.b dX0_elect_20 rfl (lv_at hl 0 rfl) ?_
  refine lv_dup C.x C.b dX0_elect_21 rfl ?_
  refine g_geti C G 0 0 5 hT rfl ginX0 (by decide) tw228 dX0_elect_22 ?_
  refine lv_iconst (v := (1 : Int32)) C.x C.b dX0_elect_25 (by decide) ?_
  refine lv_iadd C.x C.b dX0_elect_26 ?_
  refine g_puti C G 0 0 5 hT (v := ((σ6 0 0 5) + (1 : Int32))) rfl ginX0 tyX0_ok nmX0 (by decide) ⟨rfl, rfl⟩ tw228 dX0_elect_27 (fun H locs G => ?_)
  obtain ⟨σ7, eσ7, hf⟩ := g_lt hf
  rw [← eσ7] at G
  exact g_evi C G hr hlocks hf dX0_elect_30
def f_X0_countUnit_P83 (σ : gS) : Option gS := (some σ)
def f_X0_countUnit_L16 (ad : gA) (a1 : Int32) (K16 : gS → Option gS) : Nat → gS → Int32 → Int32 → Option gS
  | 0, _, _, _ => none
  | n + 1, σ, v2, v3 => (if (σ 0 0 0) ≤ v3 then (K16 σ) else (if ((v2 >>> (v3 &&& 31)) &&& (1 : Int32)) = 0 then (f_X0_countUnit_L16 ad a1 K16 n σ v2 (v3 + (1 : Int32))) else (if g_ix v3 4 then (if g_ix v3 4 then (g_let (g_up σ 14 0 v3.toNatClampNeg ((σ 14 0 v3.toNatClampNeg) + (1 : Int32))) fun σ8 => (if g_ix v3 4 then (g_let (g_up σ8 15 0 v3.toNatClampNeg a1) fun σ11 => (if g_ix v3 4 then (if (σ11 14 0 v3.toNatClampNeg) = (18 : Int32) then (if (σ11 0 0 1) ≤ (σ11 0 0 5) then (f_X0_countUnit_L16 ad a1 K16 n σ11 v2 (v3 + (1 : Int32))) else ((f_X0_elect ad σ11 v3 a1).bind fun σ14 => (f_X0_countUnit_L16 ad a1 K16 n σ14 v2 (v3 + (1 : Int32))))) else (f_X0_countUnit_L16 ad a1 K16 n σ11 v2 (v3 + (1 : Int32)))) else none)) else none)) else none) else none)))
def f_X0_countUnit (ad : gA) (σ : gS) (a1 : Int32) : Option gS := (if g_ix (a1 - (1 : Int32)) 35 then (if g_ix (σ 13 0 ((a1 - (1 : Int32)).toNatClampNeg)) 35 then (f_X0_countUnit_L16 ad a1 (f_X0_countUnit_P83) g_fuel σ (σ 12 0 ((σ 13 0 ((a1 - (1 : Int32)).toNatClampNeg)).toNatClampNeg)) (0 : Int32)) else none) else none)
theorem hd_X0_countUnit : yX0_countUnit.cls ≠ "java/lang/invoke/MethodHandle" ∧ yX0_countUnit.cls ≠ "java/lang/invoke/VarHandle" ∧ (parseMethodDescriptor yX0_countUnit.desc).map (fun d => d.parameters.length) = some 1 := by decide +kernel
set_option maxHeartbeats 4000000 in
set_option maxRecDepth 100000 in
theorem c_X0_countUnit (l : Launch) (D : va_G) (cy : Nat → ClassId) (A : Nat → Prop) (ad : gA) (L : gL)  (σ : gS) (hT : (0, 0) ∈ L) (a1 : Int32) (σ0 : gS) (hf : f_X0_countUnit ad σ a1 = some σ0) : g_Mv l yX0_countUnit cX0_countUnit 4 none ({ frames := 1, cells := 0, slots := 0, locals := 22 } : Room) D cy A ad L σ [.ref (ad 0 0), .int a1] σ0 := by
  refine g_met (by decide) (Nat.le_of_ble_eq_true rfl) (fun p e s m below meth c C hr hlocks hnm G ls hl => ?_)
  have hl : lv_has ls 4 [(0, .ref (ad 0 0)), (1, .int a1)] := hl
  have pt83 : ∀ (σ : gS) (H : Heap) (locs : List Loc) (ls : Array Slot), g_H D cy A ad L σ s.heap H locs → lv_has ls 4 [] → f_X0_countUnit_P83 σ = some σ0 → g_Wv p l e ({ frames := 1, cells := 0, slots := 0, locals := 22 } : Room) s m below meth c H locs 0 0 D cy A ad L [.ref (ad 0 0), .int a1] σ0 (F0 m 83 ls []) := by
    intro σ H locs ls G hl hf
    unfold f_X0_countUnit_P83 at hf
    exact g_evi C G hr hlocks hf dX0_countUnit_83
  have lp16 : ∀ n16 : Nat, ∀ (σ : gS) (v2 : Int32) (v3 : Int32) (H : Heap) (locs : List Loc) (ls : Array Slot), g_H D cy A ad L σ s.heap H locs → lv_has ls 4 [(0, .ref (ad 0 0)), (1, .int a1), (2, .int v2), (3, .int v3)] → f_X0_countUnit_L16 ad a1 (f_X0_countUnit_P83) n16 σ v2 v3 = some σ0 → g_Wv p l e ({ frames := 1, cells := 0, slots := 0, locals := 22 } : Room) s m below meth c H locs 0 0 D cy A ad L [.ref (ad 0 0), .int a1] σ0 (F0 m 16 ls []) := by
    intro n16
    induction n16 with
    | zero =>
      intro σ v2 v3 H locs ls G hl hf
      rw [f_X0_countUnit_L16] at hf
      cases hf
    | succ n16 ih16 =>
      intro σ v2 v3 H locs ls G hl hf
      rw [f_X0_countUnit_L16] at hf
      refine lv_iload_n C.x C.b dX0_countUnit_16 rfl (lv_at hl 3 rfl) ?_
      refine lv_aload_n C.x C.b dX0_countUnit_17 rfl (lv_at hl 0 rfl) ?_
      refine g_geti C G 0 0 0 hT rfl ginX0 (by decide) tw219 dX0_countUnit_18 ?_
      refine lv_icmp_ge (tgt := 83) C.x C.b dX0_countUnit_21 (by decide) (fun cb => ?_) (fun cb => ?_)
      · have hf := g_t cb hf
        exact pt83 σ _ _ ls G (lv_sub hl [] rfl) hf
      · have hf := g_f cb hf
        refine lv_iload_n C.x C.b dX0_countUnit_24 rfl (lv_at hl 2 rfl) ?_
        refine lv_iload_n C.x C.b dX0_countUnit_25 rfl (lv_at hl 3 rfl) ?_
        refine lv_ishr C.x C.b dX0_countUnit_26 ?_
        refine lv_iconst (v := (1 : Int32)) C.x C.b dX0_countUnit_27 (by decide) ?_
        refine lv_iand C.x C.b dX0_countUnit_28 ?_
        refine lv_if_eq (tgt := 77) C.x C.b dX0_countUnit_29 (by decide) (fun cb => ?_) (fun cb => ?_)
        · have hf := g_t cb hf
          refine lv_iinc (v := (v3 + (1 : Int32))) (lv' := [(3, .int (v3 + (1 : Int32))), (0, .ref (ad 0 0)), (1, .int a1), (2, .int v2)]) C.x C.b dX0_countUnit_77 hl (k := 3) rfl rfl (by decide) rfl (fun ls hl => ?_)
          refine lv_goto (tgt := 16) C.x C.b dX0_countUnit_80 (by decide) ?_
          exact ih16 σ v2 (v3 + (1 : Int32)) _ _ ls G (lv_sub hl [1, 2, 3, 0] rfl) hf
        · have hf := g_f cb hf
          refine lv_aload_n C.x C.b dX0_countUnit_32 rfl (lv_at hl 0 rfl) ?_
          refine g_getr C G 0 0 8 14 hT rfl ginX0 (by decide) tw231 dX0_countUnit_33 (fun hL5 => ?_)
          refine lv_iload_n C.x C.b dX0_countUnit_36 rfl (lv_at hl 3 rfl) ?_
          refine lv_dup2_11 C.x C.b dX0_countUnit_37 rfl rfl ?_
          obtain ⟨hi6, hf⟩ := g_ok hf
          refine g_iald (n := 4) C G 14 0 hL5 (by decide) rfl hi6 dX0_countUnit_38 ?_
          refine lv_iconst (v := (1 : Int32)) C.x C.b dX0_countUnit_39 (by decide) ?_
          refine lv_iadd C.x C.b dX0_countUnit_40 ?_
          obtain ⟨hi7, hf⟩ := g_ok hf
          refine g_iast (n := 4) C G 14 0 hL5 (by decide) rfl hi7 dX0_countUnit_41 (fun H locs G => ?_)
          obtain ⟨σ8, eσ8, hf⟩ := g_lt hf
          rw [← eσ8] at G
          refine lv_aload_n C.x C.b dX0_countUnit_42 rfl (lv_at hl 0 rfl) ?_
          refine g_getr C G 0 0 9 15 hT rfl ginX0 (by decide) tw232 dX0_countUnit_43 (fun hL9 => ?_)
          refine lv_iload_n C.x C.b dX0_countUnit_46 rfl (lv_at hl 3 rfl) ?_
          refine lv_iload_n C.x C.b dX0_countUnit_47 rfl (lv_at hl 1 rfl) ?_
          obtain ⟨hi10, hf⟩ := g_ok hf
          refine g_iast (n := 4) C G 15 0 hL9 (by decide) rfl hi10 dX0_countUnit_48 (fun H locs G => ?_)
          obtain ⟨σ11, eσ11, hf⟩ := g_lt hf
          rw [← eσ11] at G
          refine lv_aload_n C.x C.b dX0_countUnit_49 rfl (lv_at hl 0 rfl) ?_
          refine g_getr C G 0 0 8 14 hT rfl ginX0 (by decide) tw231 dX0_countUnit_50 (fun hL12 => ?_)
          refine lv_iload_n C.x C.b dX0_countUnit_53 rfl (lv_at hl 3 rfl) ?_
          obtain ⟨hi13, hf⟩ := g_ok hf
          refine g_iald (n := 4) C G 14 0 hL12 (by decide) rfl hi13 dX0_countUnit_54 ?_
          refine lv_bipush (v := (18 : Int32)) C.x C.b dX0_countUnit_55 (by decide) ?_
          refine lv_icmp_ne (tgt := 77) C.x C.b dX0_countUnit_57 (by decide) (fun cb => ?_) (fun cb => ?_)
          · have hf := g_f cb hf
            refine lv_iinc (v := (v3 + (1 : Int32))) (lv' := [(3, .int (v3 + (1 : Int32))), (0, .ref (ad 0 0)), (1, .int a1), (2, .int v2)]) C.x C.b dX0_countUnit_77 hl (k := 3) rfl rfl (by decide) rfl (fun ls hl => ?_)
            refine lv_goto (tgt := 16) C.x C.b dX0_countUnit_80 (by decide) ?_
            exact ih16 σ11 v2 (v3 + (1 : Int32)) _ _ ls G (lv_sub hl [1, 2, 3, 0] rfl) hf
          · have hf := g_t cb hf
            refine lv_aload_n C.x C.b dX0_countUnit_60 rfl (lv_at hl 0 rfl) ?_
            refine g_geti C G 0 0 5 hT rfl ginX0 (by decide) tw228 dX0_countUnit_61 ?_
            refine lv_aload_n C.x C.b dX0_countUnit_64 rfl (lv_at hl 0 rfl) ?_
            refine g_geti C G 0 0 1 hT rfl ginX0 (by decide) tw220 dX0_countUnit_65 ?_
            refine lv_icmp_ge (tgt := 77) C.x C.b dX0_countUnit_68 (by decide) (fun cb => ?_) (fun cb => ?_)
            · have hf := g_t cb hf
              refine lv_iinc (v := (v3 + (1 : Int32))) (lv' := [(3, .int (v3 + (1 : Int32))), (0, .ref (ad 0 0)), (1, .int a1), (2, .int v2)]) C.x C.b dX0_countUnit_77 hl (k := 3) rfl rfl (by decide) rfl (fun ls hl => ?_)
              refine lv_goto (tgt := 16) C.x C.b dX0_countUnit_80 (by decide) ?_
              exact ih16 σ11 v2 (v3 + (1 : Int32)) _ _ ls G (lv_sub hl [1, 2, 3, 0] rfl) hf
            · have hf := g_f cb hf
              refine lv_aload_n C.x C.b dX0_countUnit_71 rfl (lv_at hl 0 rfl) ?_
              refine lv_iload_n C.x C.b dX0_countUnit_72 rfl (lv_at hl 3 rfl) ?_
              refine lv_iload_n C.x C.b dX0_countUnit_73 rfl (lv_at hl 1 rfl) ?_
              obtain ⟨σ14, eσ14, hf⟩ := g_b hf
              refine g_callv G (g_runV (As := [.int v3, .int a1]) (rest := []) C G 0 0 (c_X0_elect l D cy A ad L σ11 hT v3 a1 σ14 eσ14) ⟨tw714, tw58, tw711, ⟨tw713, tw9⟩, hd_X0_elect⟩ (by decide) hT rfl ⟨rfl, by decide⟩ hl.1 rfl (Nat.le_of_ble_eq_true rfl) dX0_countUnit_74 ⟨Nat.le_of_ble_eq_true rfl, Nat.le_of_ble_eq_true rfl⟩) (fun H locs G => ?_)
              refine lv_iinc (v := (v3 + (1 : Int32))) (lv' := [(3, .int (v3 + (1 : Int32))), (0, .ref (ad 0 0)), (1, .int a1), (2, .int v2)]) C.x C.b dX0_countUnit_77 hl (k := 3) rfl rfl (by decide) rfl (fun ls hl => ?_)
              refine lv_goto (tgt := 16) C.x C.b dX0_countUnit_80 (by decide) ?_
              exact ih16 σ14 v2 (v3 + (1 : Int32)) _ _ ls G (lv_sub hl [1, 2, 3, 0] rfl) hf
  unfold f_X0_countUnit at hf
  refine lv_aload_n C.x C.b dX0_countUnit_0 rfl (lv_at hl 0 rfl) ?_
  refine g_getr C G 0 0 6 12 hT rfl ginX0 (by decide) tw229 dX0_countUnit_1 (fun hL1 => ?_)
  refine lv_aload_n C.x C.b dX0_countUnit_4 rfl (lv_at hl 0 rfl) ?_
  refine g_getr C G 0 0 7 13 hT rfl ginX0 (by decide) tw230 dX0_countUnit_5 (fun hL2 => ?_)
  refine lv_iload_n C.x C.b dX0_countUnit_8 rfl (lv_at hl 1 rfl) ?_
  refine lv_iconst (v := (1 : Int32)) C.x C.b dX0_countUnit_9 (by decide) ?_
  refine lv_isub C.x C.b dX0_countUnit_10 ?_
  obtain ⟨hi3, hf⟩ := g_ok hf
  refine g_iald (n := 35) C G 13 0 hL2 (by decide) rfl hi3 dX0_countUnit_11 ?_
  obtain ⟨hi4, hf⟩ := g_ok hf
  refine g_iald (n := 35) C G 12 0 hL1 (by decide) rfl hi4 dX0_countUnit_12 ?_
  refine lv_istore_n (lv' := [(2, .int (σ 12 0 ((σ 13 0 ((a1 - (1 : Int32)).toNatClampNeg)).toNatClampNeg))), (0, .ref (ad 0 0)), (1, .int a1)]) C.x C.b dX0_countUnit_13 rfl hl (by decide) rfl (fun ls hl => ?_)
  refine lv_iconst (v := (0 : Int32)) C.x C.b dX0_countUnit_14 (by decide) ?_
  refine lv_istore_n (lv' := [(3, .int (0 : Int32)), (2, .int (σ 12 0 ((σ 13 0 ((a1 - (1 : Int32)).toNatClampNeg)).toNatClampNeg))), (0, .ref (ad 0 0)), (1, .int a1)]) C.x C.b dX0_countUnit_15 rfl hl (by decide) rfl (fun ls hl => ?_)
  exact lp16 g_fuel σ (σ 12 0 ((σ 13 0 ((a1 - (1 : Int32)).toNatClampNeg)).toNatClampNeg)) (0 : Int32) _ _ ls G (lv_sub hl [2, 3, 1, 0] rfl) hf
def f_X0_begin (ad : gA) (σ : gS) (a1 : Int64) : Option gS := ((f_X8_draw ad σ 13 0 35 (35 : Int32) a1).bind fun σ2 => (g_let (g_up σ2 0 0 5 (0 : Int32)) fun σ3 => ((f_J7_fill_53178 ad σ3 14 0 4 (0 : Int32)).bind fun σ5 => ((f_J7_fill_53178 ad σ5 15 0 4 (0 : Int32)).bind fun σ7 => (some σ7)))))
theorem hd_X0_begin : yX0_begin.cls ≠ "java/lang/invoke/MethodHandle" ∧ yX0_begin.cls ≠ "java/lang/invoke/VarHandle" ∧ (parseMethodDescriptor yX0_begin.desc).map (fun d => d.parameters.length) = some 1 := by decide +kernel
set_option maxHeartbeats 4000000 in
set_option maxRecDepth 100000 in
theorem c_X0_begin (l : Launch) (D : va_G) (cy : Nat → ClassId) (A : Nat → Prop) (ad : gA) (L : gL)  (σ : gS) (hT : (0, 0) ∈ L) (a1 : Int64) (σ0 : gS) (hf : f_X0_begin ad σ a1 = some σ0) : g_Mv l yX0_begin cX0_begin 3 none ({ frames := 1, cells := 0, slots := 0, locals := 30 } : Room) D cy A ad L σ [.ref (ad 0 0), .long a1] σ0 := by
  refine g_met (by decide) (Nat.le_of_ble_eq_true rfl) (fun p e s m below meth c C hr hlocks hnm G ls hl => ?_)
  have hl : lv_has ls 3 [(0, .ref (ad 0 0)), (1, .long a1)] := hl
  unfold f_X0_begin at hf
  refine lv_aload_n C.x C.b dX0_begin_0 rfl (lv_at hl 0 rfl) ?_
  refine g_getr C G 0 0 7 13 hT rfl ginX0 (by decide) tw230 dX0_begin_1 (fun hL1 => ?_)
  refine lv_bipush (v := (35 : Int32)) C.x C.b dX0_begin_4 (by decide) ?_
  refine lv_lload_n C.x C.b dX0_begin_6 rfl (lv_at hl 1 rfl) ?_
  obtain ⟨σ2, eσ2, hf⟩ := g_b hf
  refine g_callv G (g_runN (As := [.ref (ad 13 0), .int (35 : Int32), .long a1]) (rest := []) C G (c_X8_draw l D cy A ad L σ 13 0 35 hL1 (by decide) rfl (35 : Int32) a1 σ2 eσ2) ⟨tw706, tw54, List.mem_of_getElem? (i := 7) rfl, tw705, hd_X8_draw⟩ (by decide) hl.1 rfl (Nat.le_of_ble_eq_true rfl) dX0_begin_7 ⟨Nat.le_of_ble_eq_true rfl, Nat.le_of_ble_eq_true rfl⟩) (fun H locs G => ?_)
  refine lv_aload_n C.x C.b dX0_begin_10 rfl (lv_at hl 0 rfl) ?_
  refine lv_iconst (v := (0 : Int32)) C.x C.b dX0_begin_11 (by decide) ?_
  refine g_puti C G 0 0 5 hT (v := (0 : Int32)) rfl ginX0 tyX0_ok nmX0 (by decide) ⟨rfl, rfl⟩ tw228 dX0_begin_12 (fun H locs G => ?_)
  obtain ⟨σ3, eσ3, hf⟩ := g_lt hf
  rw [← eσ3] at G
  refine lv_aload_n C.x C.b dX0_begin_15 rfl (lv_at hl 0 rfl) ?_
  refine g_getr C G 0 0 8 14 hT rfl ginX0 (by decide) tw231 dX0_begin_16 (fun hL4 => ?_)
  refine lv_iconst (v := (0 : Int32)) C.x C.b dX0_begin_19 (by decide) ?_
  obtain ⟨σ5, eσ5, hf⟩ := g_b hf
  refine g_callv G (g_runS (As := [.ref (ad 14 0), .int (0 : Int32)]) (rest := []) C G (c_J7_fill_53178 l D cy A ad L σ3 14 0 4 hL4 (by decide) rfl (0 : Int32) σ5 eσ5) ⟨tw673, tw62, tw671, tw672, hd_J7_fill_53178⟩ (by decide) hl.1 rfl (Nat.le_of_ble_eq_true rfl) dX0_begin_20 ⟨Nat.le_of_ble_eq_true rfl, Nat.le_of_ble_eq_true rfl⟩) (fun H locs G => ?_)
  refine lv_aload_n C.x C.b dX0_begin_23 rfl (lv_at hl 0 rfl) ?_
  refine g_getr C G 0 0 9 15 hT rfl ginX0 (by decide) tw232 dX0_begin_24 (fun hL6 => ?_)
  refine lv_iconst (v := (0 : Int32)) C.x C.b dX0_begin_27 (by decide) ?_
  obtain ⟨σ7, eσ7, hf⟩ := g_b hf
  refine g_callv G (g_runS (As := [.ref (ad 15 0), .int (0 : Int32)]) (rest := []) C G (c_J7_fill_53178 l D cy A ad L σ5 15 0 4 hL6 (by decide) rfl (0 : Int32) σ7 eσ7) ⟨tw673, tw62, tw671, tw672, hd_J7_fill_53178⟩ (by decide) hl.1 rfl (Nat.le_of_ble_eq_true rfl) dX0_begin_28 ⟨Nat.le_of_ble_eq_true rfl, Nat.le_of_ble_eq_true rfl⟩) (fun H locs G => ?_)
  exact g_evi C G hr hlocks hf dX0_begin_31
def f_X0_isElected_P28  : Option Int32 := (some (0 : Int32))
def f_X0_isElected_L2 (σ : gS) (a1 : Int32) (K2 : Option Int32) : Nat → Int32 → Option Int32
  | 0, _ => none
  | n + 1, v2 => (if (σ 0 0 5) ≤ v2 then (K2) else (if g_ix v2 2 then (if (σ 10 0 v2.toNatClampNeg) = a1 then (some (1 : Int32)) else (f_X0_isElected_L2 σ a1 K2 n (v2 + (1 : Int32)))) else none))
def f_X0_isElected (ad : gA) (σ : gS) (a1 : Int32) : Option Int32 := (f_X0_isElected_L2 σ a1 (f_X0_isElected_P28) g_fuel (0 : Int32))
theorem hd_X0_isElected : yX0_isElected.cls ≠ "java/lang/invoke/MethodHandle" ∧ yX0_isElected.cls ≠ "java/lang/invoke/VarHandle" ∧ (parseMethodDescriptor yX0_isElected.desc).map (fun d => d.parameters.length) = some 1 := by decide +kernel
set_option maxHeartbeats 4000000 in
set_option maxRecDepth 100000 in
theorem c_X0_isElected (l : Launch) (D : va_G) (cy : Nat → ClassId) (A : Nat → Prop) (ad : gA) (L : gL)  (σ : gS) (hT : (0, 0) ∈ L) (a1 : Int32) (r0 : Int32) (hf : f_X0_isElected ad σ a1 = some r0) : g_Mi l yX0_isElected cX0_isElected 3 (some .boolean) ({ frames := 0, cells := 0, slots := 0, locals := 0 } : Room) D cy A ad L σ [.ref (ad 0 0), .int a1] r0 σ := by
  refine g_met (by decide) (Nat.le_of_ble_eq_true rfl) (fun p e s m below meth c C hr hlocks hnm G ls hl => ?_)
  have hl : lv_has ls 3 [(0, .ref (ad 0 0)), (1, .int a1)] := hl
  have pt28 : ∀ (H : Heap) (locs : List Loc) (ls : Array Slot), g_H D cy A ad L σ s.heap H locs → lv_has ls 3 [] → f_X0_isElected_P28  = some r0 → g_Wi p l e ({ frames := 0, cells := 0, slots := 0, locals := 0 } : Room) s m below meth c H locs 0 0 D cy A ad L [.ref (ad 0 0), .int a1] r0 σ (F0 m 28 ls []) := by
    intro H locs ls G hl hf
    unfold f_X0_isElected_P28 at hf
    refine lv_iconst (v := (0 : Int32)) C.x C.b dX0_isElected_28 (by decide) ?_
    exact g_ezp C G hr hlocks hf rfl dX0_isElected_29
  have lp2 : ∀ n2 : Nat, ∀ (v2 : Int32) (H : Heap) (locs : List Loc) (ls : Array Slot), g_H D cy A ad L σ s.heap H locs → lv_has ls 3 [(0, .ref (ad 0 0)), (1, .int a1), (2, .int v2)] → f_X0_isElected_L2 σ a1 (f_X0_isElected_P28) n2 v2 = some r0 → g_Wi p l e ({ frames := 0, cells := 0, slots := 0, locals := 0 } : Room) s m below meth c H locs 0 0 D cy A ad L [.ref (ad 0 0), .int a1] r0 σ (F0 m 2 ls []) := by
    intro n2
    induction n2 with
    | zero =>
      intro v2 H locs ls G hl hf
      rw [f_X0_isElected_L2] at hf
      cases hf
    | succ n2 ih2 =>
      intro v2 H locs ls G hl hf
      rw [f_X0_isElected_L2] at hf
      refine lv_iload_n C.x C.b dX0_isElected_2 rfl (lv_at hl 2 rfl) ?_
      refine lv_aload_n C.x C.b dX0_isElected_3 rfl (lv_at hl 0 rfl) ?_
      refine g_geti C G 0 0 5 hT rfl ginX0 (by decide) tw228 dX0_isElected_4 ?_
      refine lv_icmp_ge (tgt := 28) C.x C.b dX0_isElected_7 (by decide) (fun cb => ?_) (fun cb => ?_)
      · have hf := g_t cb hf
        exact pt28  _ _ ls G (lv_sub hl [] rfl) hf
      · have hf := g_f cb hf
        refine lv_aload_n C.x C.b dX0_isElected_10 rfl (lv_at hl 0 rfl) ?_
        refine g_getr C G 0 0 3 10 hT rfl ginX0 (by decide) tw224 dX0_isElected_11 (fun hL1 => ?_)
        refine lv_iload_n C.x C.b dX0_isElected_14 rfl (lv_at hl 2 rfl) ?_
        obtain ⟨hi2, hf⟩ := g_ok hf
        refine g_iald (n := 2) C G 10 0 hL1 (by decide) rfl hi2 dX0_isElected_15 ?_
        refine lv_iload_n C.x C.b dX0_isElected_16 rfl (lv_at hl 1 rfl) ?_
        refine lv_icmp_ne (tgt := 22) C.x C.b dX0_isElected_17 (by decide) (fun cb => ?_) (fun cb => ?_)
        · have hf := g_f cb hf
          refine lv_iinc (v := (v2 + (1 : Int32))) (lv' := [(2, .int (v2 + (1 : Int32))), (0, .ref (ad 0 0)), (1, .int a1)]) C.x C.b dX0_isElected_22 hl (k := 2) rfl rfl (by decide) rfl (fun ls hl => ?_)
          refine lv_goto (tgt := 2) C.x C.b dX0_isElected_25 (by decide) ?_
          exact ih2 (v2 + (1 : Int32)) _ _ ls G (lv_sub hl [1, 2, 0] rfl) hf
        · have hf := g_t cb hf
          refine lv_iconst (v := (1 : Int32)) C.x C.b dX0_isElected_20 (by decide) ?_
          exact g_ezp C G hr hlocks hf rfl dX0_isElected_21
  unfold f_X0_isElected at hf
  refine lv_iconst (v := (0 : Int32)) C.x C.b dX0_isElected_0 (by decide) ?_
  refine lv_istore_n (lv' := [(2, .int (0 : Int32)), (0, .ref (ad 0 0)), (1, .int a1)]) C.x C.b dX0_isElected_1 rfl hl (by decide) rfl (fun ls hl => ?_)
  exact lp2 g_fuel (0 : Int32) _ _ ls G (lv_sub hl [1, 2, 0] rfl) hf
def f_X0_isAhead (ad : gA) (σ : gS) (a1 : Int32) (a2 : Int32) : Option Int32 := (if g_ix a1 4 then (if g_ix a2 4 then (if (σ 14 0 a1.toNatClampNeg) = (σ 14 0 a2.toNatClampNeg) then (if g_ix a1 4 then (if g_ix a2 4 then (if (σ 15 0 a2.toNatClampNeg) ≤ (σ 15 0 a1.toNatClampNeg) then (some (0 : Int32)) else (some (1 : Int32))) else none) else none) else (if g_ix a1 4 then (if g_ix a2 4 then (if (σ 14 0 a1.toNatClampNeg) ≤ (σ 14 0 a2.toNatClampNeg) then (some (0 : Int32)) else (some (1 : Int32))) else none) else none)) else none) else none)
theorem hd_X0_isAhead : yX0_isAhead.cls ≠ "java/lang/invoke/MethodHandle" ∧ yX0_isAhead.cls ≠ "java/lang/invoke/VarHandle" ∧ (parseMethodDescriptor yX0_isAhead.desc).map (fun d => d.parameters.length) = some 2 := by decide +kernel
set_option maxHeartbeats 4000000 in
set_option maxRecDepth 100000 in
theorem c_X0_isAhead (l : Launch) (D : va_G) (cy : Nat → ClassId) (A : Nat → Prop) (ad : gA) (L : gL)  (σ : gS) (hT : (0, 0) ∈ L) (a1 : Int32) (a2 : Int32) (r0 : Int32) (hf : f_X0_isAhead ad σ a1 a2 = some r0) : g_Mi l yX0_isAhead cX0_isAhead 3 (some .boolean) ({ frames := 0, cells := 0, slots := 0, locals := 0 } : Room) D cy A ad L σ [.ref (ad 0 0), .int a1, .int a2] r0 σ := by
  refine g_met (by decide) (Nat.le_of_ble_eq_true rfl) (fun p e s m below meth c C hr hlocks hnm G ls hl => ?_)
  have hl : lv_has ls 3 [(0, .ref (ad 0 0)), (1, .int a1), (2, .int a2)] := hl
  unfold f_X0_isAhead at hf
  refine lv_aload_n C.x C.b dX0_isAhead_0 rfl (lv_at hl 0 rfl) ?_
  refine g_getr C G 0 0 8 14 hT rfl ginX0 (by decide) tw231 dX0_isAhead_1 (fun hL1 => ?_)
  refine lv_iload_n C.x C.b dX0_isAhead_4 rfl (lv_at hl 1 rfl) ?_
  obtain ⟨hi2, hf⟩ := g_ok hf
  refine g_iald (n := 4) C G 14 0 hL1 (by decide) rfl hi2 dX0_isAhead_5 ?_
  refine lv_aload_n C.x C.b dX0_isAhead_6 rfl (lv_at hl 0 rfl) ?_
  refine g_getr C G 0 0 8 14 hT rfl ginX0 (by decide) tw231 dX0_isAhead_7 (fun hL3 => ?_)
  refine lv_iload_n C.x C.b dX0_isAhead_10 rfl (lv_at hl 2 rfl) ?_
  obtain ⟨hi4, hf⟩ := g_ok hf
  refine g_iald (n := 4) C G 14 0 hL3 (by decide) rfl hi4 dX0_isAhead_11 ?_
  refine lv_icmp_eq (tgt := 36) C.x C.b dX0_isAhead_12 (by decide) (fun cb => ?_) (fun cb => ?_)
  · have hf := g_t cb hf
    refine lv_aload_n C.x C.b dX0_isAhead_36 rfl (lv_at hl 0 rfl) ?_
    refine g_getr C G 0 0 9 15 hT rfl ginX0 (by decide) tw232 dX0_isAhead_37 (fun hL5 => ?_)
    refine lv_iload_n C.x C.b dX0_isAhead_40 rfl (lv_at hl 1 rfl) ?_
    obtain ⟨hi6, hf⟩ := g_ok hf
    refine g_iald (n := 4) C G 15 0 hL5 (by decide) rfl hi6 dX0_isAhead_41 ?_
    refine lv_aload_n C.x C.b dX0_isAhead_42 rfl (lv_at hl 0 rfl) ?_
    refine g_getr C G 0 0 9 15 hT rfl ginX0 (by decide) tw232 dX0_isAhead_43 (fun hL7 => ?_)
    refine lv_iload_n C.x C.b dX0_isAhead_46 rfl (lv_at hl 2 rfl) ?_
    obtain ⟨hi8, hf⟩ := g_ok hf
    refine g_iald (n := 4) C G 15 0 hL7 (by decide) rfl hi8 dX0_isAhead_47 ?_
    refine lv_icmp_ge (tgt := 55) C.x C.b dX0_isAhead_48 (by decide) (fun cb => ?_) (fun cb => ?_)
    · have hf := g_t cb hf
      refine lv_iconst (v := (0 : Int32)) C.x C.b dX0_isAhead_55 (by decide) ?_
      exact g_ezp C G hr hlocks hf rfl dX0_isAhead_56
    · have hf := g_f cb hf
      refine lv_iconst (v := (1 : Int32)) C.x C.b dX0_isAhead_51 (by decide) ?_
      refine lv_goto (tgt := 56) C.x C.b dX0_isAhead_52 (by decide) ?_
      exact g_ezp C G hr hlocks hf rfl dX0_isAhead_56
  · have hf := g_f cb hf
    refine lv_aload_n C.x C.b dX0_isAhead_15 rfl (lv_at hl 0 rfl) ?_
    refine g_getr C G 0 0 8 14 hT rfl ginX0 (by decide) tw231 dX0_isAhead_16 (fun hL9 => ?_)
    refine lv_iload_n C.x C.b dX0_isAhead_19 rfl (lv_at hl 1 rfl) ?_
    obtain ⟨hi10, hf⟩ := g_ok hf
    refine g_iald (n := 4) C G 14 0 hL9 (by decide) rfl hi10 dX0_isAhead_20 ?_
    refine lv_aload_n C.x C.b dX0_isAhead_21 rfl (lv_at hl 0 rfl) ?_
    refine g_getr C G 0 0 8 14 hT rfl ginX0 (by decide) tw231 dX0_isAhead_22 (fun hL11 => ?_)
    refine lv_iload_n C.x C.b dX0_isAhead_25 rfl (lv_at hl 2 rfl) ?_
    obtain ⟨hi12, hf⟩ := g_ok hf
    refine g_iald (n := 4) C G 14 0 hL11 (by decide) rfl hi12 dX0_isAhead_26 ?_
    refine lv_icmp_le (tgt := 34) C.x C.b dX0_isAhead_27 (by decide) (fun cb => ?_) (fun cb => ?_)
    · have hf := g_t cb hf
      refine lv_iconst (v := (0 : Int32)) C.x C.b dX0_isAhead_34 (by decide) ?_
      exact g_ezp C G hr hlocks hf rfl dX0_isAhead_35
    · have hf := g_f cb hf
      refine lv_iconst (v := (1 : Int32)) C.x C.b dX0_isAhead_30 (by decide) ?_
      refine lv_goto (tgt := 35) C.x C.b dX0_isAhead_31 (by decide) ?_
      exact g_ezp C G hr hlocks hf rfl dX0_isAhead_35
def f_X0_bestOfRest_P42 (v1 : Int32) : Option Int32 := (some v1)
def f_X0_bestOfRest_L4 (ad : gA) (σ : gS) (K4 : Int32 → Option Int32) : Nat → Int32 → Int32 → Option Int32
  | 0, _, _ => none
  | n + 1, v1, v2 => (if (σ 0 0 0) ≤ v2 then (K4 v1) else ((f_X0_isElected ad σ v2).bind fun q1 => (if q1 = 0 then (if v1 = (-1 : Int32) then (f_X0_bestOfRest_L4 ad σ K4 n v2 (v2 + (1 : Int32))) else ((f_X0_isAhead ad σ v2 v1).bind fun q2 => (if q2 = 0 then (f_X0_bestOfRest_L4 ad σ K4 n v1 (v2 + (1 : Int32))) else (f_X0_bestOfRest_L4 ad σ K4 n v2 (v2 + (1 : Int32)))))) else (f_X0_bestOfRest_L4 ad σ K4 n v1 (v2 + (1 : Int32))))))
def f_X0_bestOfRest (ad : gA) (σ : gS) : Option Int32 := (f_X0_bestOfRest_L4 ad σ (f_X0_bestOfRest_P42) g_fuel (-1 : Int32) (0 : Int32))
theorem hd_X0_bestOfRest : yX0_bestOfRest.cls ≠ "java/lang/invoke/MethodHandle" ∧ yX0_bestOfRest.cls ≠ "java/lang/invoke/VarHandle" ∧ (parseMethodDescriptor yX0_bestOfRest.desc).map (fun d => d.parameters.length) = some 0 := by decide +kernel
set_option maxHeartbeats 4000000 in
set_option maxRecDepth 100000 in
theorem c_X0_bestOfRest (l : Launch) (D : va_G) (cy : Nat → ClassId) (A : Nat → Prop) (ad : gA) (L : gL)  (σ : gS) (hT : (0, 0) ∈ L) (r0 : Int32) (hf : f_X0_bestOfRest ad σ = some r0) : g_Mi l yX0_bestOfRest cX0_bestOfRest 3 (some .int) ({ frames := 1, cells := 0, slots := 0, locals := 22 } : Room) D cy A ad L σ [.ref (ad 0 0)] r0 σ := by
  refine g_met (by decide) (Nat.le_of_ble_eq_true rfl) (fun p e s m below meth c C hr hlocks hnm G ls hl => ?_)
  have hl : lv_has ls 3 [(0, .ref (ad 0 0))] := hl
  have pt42 : ∀ (v1 : Int32) (H : Heap) (locs : List Loc) (ls : Array Slot), g_H D cy A ad L σ s.heap H locs → lv_has ls 3 [(1, .int v1)] → f_X0_bestOfRest_P42 v1 = some r0 → g_Wi p l e ({ frames := 1, cells := 0, slots := 0, locals := 22 } : Room) s m below meth c H locs 0 0 D cy A ad L [.ref (ad 0 0)] r0 σ (F0 m 42 ls []) := by
    intro v1 H locs ls G hl hf
    unfold f_X0_bestOfRest_P42 at hf
    refine lv_iload_n C.x C.b dX0_bestOfRest_42 rfl (lv_at hl 0 rfl) ?_
    exact g_eip C G hr hlocks hf dX0_bestOfRest_43
  have lp4 : ∀ n4 : Nat, ∀ (v1 : Int32) (v2 : Int32) (H : Heap) (locs : List Loc) (ls : Array Slot), g_H D cy A ad L σ s.heap H locs → lv_has ls 3 [(0, .ref (ad 0 0)), (1, .int v1), (2, .int v2)] → f_X0_bestOfRest_L4 ad σ (f_X0_bestOfRest_P42) n4 v1 v2 = some r0 → g_Wi p l e ({ frames := 1, cells := 0, slots := 0, locals := 22 } : Room) s m below meth c H locs 0 0 D cy A ad L [.ref (ad 0 0)] r0 σ (F0 m 4 ls []) := by
    intro n4
    induction n4 with
    | zero =>
      intro v1 v2 H locs ls G hl hf
      rw [f_X0_bestOfRest_L4] at hf
      cases hf
    | succ n4 ih4 =>
      intro v1 v2 H locs ls G hl hf
      rw [f_X0_bestOfRest_L4] at hf
      refine lv_iload_n C.x C.b dX0_bestOfRest_4 rfl (lv_at hl 2 rfl) ?_
      refine lv_aload_n C.x C.b dX0_bestOfRest_5 rfl (lv_at hl 0 rfl) ?_
      refine g_geti C G 0 0 0 hT rfl ginX0 (by decide) tw219 dX0_bestOfRest_6 ?_
      refine lv_icmp_ge (tgt := 42) C.x C.b dX0_bestOfRest_9 (by decide) (fun cb => ?_) (fun cb => ?_)
      · have hf := g_t cb hf
        exact pt42 v1 _ _ ls G (lv_sub hl [1] rfl) hf
      · have hf := g_f cb hf
        refine lv_aload_n C.x C.b dX0_bestOfRest_12 rfl (lv_at hl 0 rfl) ?_
        refine lv_iload_n C.x C.b dX0_bestOfRest_13 rfl (lv_at hl 2 rfl) ?_
        obtain ⟨q1, eq1, hf⟩ := g_b hf
        refine g_calli G (g_runV (As := [.int v2]) (rest := []) C G 0 0 (c_X0_isElected l D cy A ad L σ hT v2 q1 eq1) ⟨tw726, tw58, tw723, ⟨tw725, tw12⟩, hd_X0_isElected⟩ (by decide) hT rfl ⟨rfl, by decide⟩ hl.1 rfl (Nat.le_of_ble_eq_true rfl) dX0_bestOfRest_14 ⟨Nat.le_of_ble_eq_true rfl, Nat.le_of_ble_eq_true rfl⟩) (fun H locs G => ?_)
        refine lv_if_ne (tgt := 36) C.x C.b dX0_bestOfRest_17 (by decide) (fun cb => ?_) (fun cb => ?_)
        · have hf := g_f cb hf
          refine lv_iinc (v := (v2 + (1 : Int32))) (lv' := [(2, .int (v2 + (1 : Int32))), (0, .ref (ad 0 0)), (1, .int v1)]) C.x C.b dX0_bestOfRest_36 hl (k := 2) rfl rfl (by decide) rfl (fun ls hl => ?_)
          refine lv_goto (tgt := 4) C.x C.b dX0_bestOfRest_39 (by decide) ?_
          exact ih4 v1 (v2 + (1 : Int32)) _ _ ls G (lv_sub hl [1, 2, 0] rfl) hf
        · have hf := g_t cb hf
          refine lv_iload_n C.x C.b dX0_bestOfRest_20 rfl (lv_at hl 1 rfl) ?_
          refine lv_iconst (v := (-1 : Int32)) C.x C.b dX0_bestOfRest_21 (by decide) ?_
          refine lv_icmp_eq (tgt := 34) C.x C.b dX0_bestOfRest_22 (by decide) (fun cb => ?_) (fun cb => ?_)
          · have hf := g_t cb hf
            refine lv_iload_n C.x C.b dX0_bestOfRest_34 rfl (lv_at hl 2 rfl) ?_
            refine lv_istore_n (lv' := [(1, .int v2), (0, .ref (ad 0 0)), (2, .int v2)]) C.x C.b dX0_bestOfRest_35 rfl hl (by decide) rfl (fun ls hl => ?_)
            refine lv_iinc (v := (v2 + (1 : Int32))) (lv' := [(2, .int (v2 + (1 : Int32))), (1, .int v2), (0, .ref (ad 0 0))]) C.x C.b dX0_bestOfRest_36 hl (k := 2) rfl rfl (by decide) rfl (fun ls hl => ?_)
            refine lv_goto (tgt := 4) C.x C.b dX0_bestOfRest_39 (by decide) ?_
            exact ih4 v2 (v2 + (1 : Int32)) _ _ ls G (lv_sub hl [2, 1, 0] rfl) hf
          · have hf := g_f cb hf
            refine lv_aload_n C.x C.b dX0_bestOfRest_25 rfl (lv_at hl 0 rfl) ?_
            refine lv_iload_n C.x C.b dX0_bestOfRest_26 rfl (lv_at hl 2 rfl) ?_
            refine lv_iload_n C.x C.b dX0_bestOfRest_27 rfl (lv_at hl 1 rfl) ?_
            obtain ⟨q2, eq2, hf⟩ := g_b hf
            refine g_calli G (g_runV (As := [.int v2, .int v1]) (rest := []) C G 0 0 (c_X0_isAhead l D cy A ad L σ hT v2 v1 q2 eq2) ⟨tw730, tw58, tw727, ⟨tw729, tw13⟩, hd_X0_isAhead⟩ (by decide) hT rfl ⟨rfl, by decide⟩ hl.1 rfl (Nat.le_of_ble_eq_true rfl) dX0_bestOfRest_28 ⟨Nat.le_of_ble_eq_true rfl, Nat.le_of_ble_eq_true rfl⟩) (fun H locs G => ?_)
            refine lv_if_eq (tgt := 36) C.x C.b dX0_bestOfRest_31 (by decide) (fun cb => ?_) (fun cb => ?_)
            · have hf := g_t cb hf
              refine lv_iinc (v := (v2 + (1 : Int32))) (lv' := [(2, .int (v2 + (1 : Int32))), (0, .ref (ad 0 0)), (1, .int v1)]) C.x C.b dX0_bestOfRest_36 hl (k := 2) rfl rfl (by decide) rfl (fun ls hl => ?_)
              refine lv_goto (tgt := 4) C.x C.b dX0_bestOfRest_39 (by decide) ?_
              exact ih4 v1 (v2 + (1 : Int32)) _ _ ls G (lv_sub hl [1, 2, 0] rfl) hf
            · have hf := g_f cb hf
              refine lv_iload_n C.x C.b dX0_bestOfRest_34 rfl (lv_at hl 2 rfl) ?_
              refine lv_istore_n (lv' := [(1, .int v2), (0, .ref (ad 0 0)), (2, .int v2)]) C.x C.b dX0_bestOfRest_35 rfl hl (by decide) rfl (fun ls hl => ?_)
              refine lv_iinc (v := (v2 + (1 : Int32))) (lv' := [(2, .int (v2 + (1 : Int32))), (1, .int v2), (0, .ref (ad 0 0))]) C.x C.b dX0_bestOfRest_36 hl (k := 2) rfl rfl (by decide) rfl (fun ls hl => ?_)
              refine lv_goto (tgt := 4) C.x C.b dX0_bestOfRest_39 (by decide) ?_
              exact ih4 v2 (v2 + (1 : Int32)) _ _ ls G (lv_sub hl [2, 1, 0] rfl) hf
  unfold f_X0_bestOfRest at hf
  refine lv_iconst (v := (-1 : Int32)) C.x C.b dX0_bestOfRest_0 (by decide) ?_
  refine lv_istore_n (lv' := [(1, .int (-1 : Int32)), (0, .ref (ad 0 0))]) C.x C.b dX0_bestOfRest_1 rfl hl (by decide) rfl (fun ls hl => ?_)
  refine lv_iconst (v := (0 : Int32)) C.x C.b dX0_bestOfRest_2 (by decide) ?_
  refine lv_istore_n (lv' := [(2, .int (0 : Int32)), (1, .int (-1 : Int32)), (0, .ref (ad 0 0))]) C.x C.b dX0_bestOfRest_3 rfl hl (by decide) rfl (fun ls hl => ?_)
  exact lp4 g_fuel (-1 : Int32) (0 : Int32) _ _ ls G (lv_sub hl [2, 1, 0] rfl) hf
def f_X0_electRest_P29 (σ : gS) : Option gS := (some σ)
def f_X0_electRest_L5 (ad : gA) (K5 : gS → Option gS) : Nat → gS → Int32 → Option gS
  | 0, _, _ => none
  | n + 1, σ, v1 => (if (σ 0 0 1) ≤ v1 then (K5 σ) else ((f_X0_bestOfRest ad σ).bind fun q1 => ((f_X0_elect ad σ q1 (35 : Int32)).bind fun σ2 => (f_X0_electRest_L5 ad K5 n σ2 (v1 + (1 : Int32))))))
def f_X0_electRest (ad : gA) (σ : gS) : Option gS := (f_X0_electRest_L5 ad (f_X0_electRest_P29) g_fuel σ (σ 0 0 5))
theorem hd_X0_electRest : yX0_electRest.cls ≠ "java/lang/invoke/MethodHandle" ∧ yX0_electRest.cls ≠ "java/lang/invoke/VarHandle" ∧ (parseMethodDescriptor yX0_electRest.desc).map (fun d => d.parameters.length) = some 0 := by decide +kernel
set_option maxHeartbeats 4000000 in
set_option maxRecDepth 100000 in
theorem c_X0_electRest (l : Launch) (D : va_G) (cy : Nat → ClassId) (A : Nat → Prop) (ad : gA) (L : gL)  (σ : gS) (hT : (0, 0) ∈ L) (σ0 : gS) (hf : f_X0_electRest ad σ = some σ0) : g_Mv l yX0_electRest cX0_electRest 2 none ({ frames := 2, cells := 0, slots := 0, locals := 44 } : Room) D cy A ad L σ [.ref (ad 0 0)] σ0 := by
  refine g_met (by decide) (Nat.le_of_ble_eq_true rfl) (fun p e s m below meth c C hr hlocks hnm G ls hl => ?_)
  have hl : lv_has ls 2 [(0, .ref (ad 0 0))] := hl
  have pt29 : ∀ (σ : gS) (H : Heap) (locs : List Loc) (ls : Array Slot), g_H D cy A ad L σ s.heap H locs → lv_has ls 2 [] → f_X0_electRest_P29 σ = some σ0 → g_Wv p l e ({ frames := 2, cells := 0, slots := 0, locals := 44 } : Room) s m below meth c H locs 0 0 D cy A ad L [.ref (ad 0 0)] σ0 (F0 m 29 ls []) := by
    intro σ H locs ls G hl hf
    unfold f_X0_electRest_P29 at hf
    exact g_evi C G hr hlocks hf dX0_electRest_29
  have lp5 : ∀ n5 : Nat, ∀ (σ : gS) (v1 : Int32) (H : Heap) (locs : List Loc) (ls : Array Slot), g_H D cy A ad L σ s.heap H locs → lv_has ls 2 [(0, .ref (ad 0 0)), (1, .int v1)] → f_X0_electRest_L5 ad (f_X0_electRest_P29) n5 σ v1 = some σ0 → g_Wv p l e ({ frames := 2, cells := 0, slots := 0, locals := 44 } : Room) s m below meth c H locs 0 0 D cy A ad L [.ref (ad 0 0)] σ0 (F0 m 5 ls []) := by
    intro n5
    induction n5 with
    | zero =>
      intro σ v1 H locs ls G hl hf
      rw [f_X0_electRest_L5] at hf
      cases hf
    | succ n5 ih5 =>
      intro σ v1 H locs ls G hl hf
      rw [f_X0_electRest_L5] at hf
      refine lv_iload_n C.x C.b dX0_electRest_5 rfl (lv_at hl 1 rfl) ?_
      refine lv_aload_n C.x C.b dX0_electRest_6 rfl (lv_at hl 0 rfl) ?_
      refine g_geti C G 0 0 1 hT rfl ginX0 (by decide) tw220 dX0_electRest_7 ?_
      refine lv_icmp_ge (tgt := 29) C.x C.b dX0_electRest_10 (by decide) (fun cb => ?_) (fun cb => ?_)
      · have hf := g_t cb hf
        exact pt29 σ _ _ ls G (lv_sub hl [] rfl) hf
      · have hf := g_f cb hf
        refine lv_aload_n C.x C.b dX0_electRest_13 rfl (lv_at hl 0 rfl) ?_
        refine lv_aload_n C.x C.b dX0_electRest_14 rfl (lv_at hl 0 rfl) ?_
        obtain ⟨q1, eq1, hf⟩ := g_b hf
        refine g_calli G (g_runV (As := []) (rest := [.ref (ad 0 0)]) C G 0 0 (c_X0_bestOfRest l D cy A ad L σ hT q1 eq1) ⟨tw722, tw58, tw719, ⟨tw721, tw11⟩, hd_X0_bestOfRest⟩ (by decide) hT rfl ⟨rfl, by decide⟩ hl.1 rfl (Nat.le_of_ble_eq_true rfl) dX0_electRest_15 ⟨Nat.le_of_ble_eq_true rfl, Nat.le_of_ble_eq_true rfl⟩) (fun H locs G => ?_)
        refine lv_bipush (v := (35 : Int32)) C.x C.b dX0_electRest_18 (by decide) ?_
        obtain ⟨σ2, eσ2, hf⟩ := g_b hf
        refine g_callv G (g_runV (As := [.int q1, .int (35 : Int32)]) (rest := []) C G 0 0 (c_X0_elect l D cy A ad L σ hT q1 (35 : Int32) σ2 eσ2) ⟨tw714, tw58, tw711, ⟨tw713, tw9⟩, hd_X0_elect⟩ (by decide) hT rfl ⟨rfl, by decide⟩ hl.1 rfl (Nat.le_of_ble_eq_true rfl) dX0_electRest_20 ⟨Nat.le_of_ble_eq_true rfl, Nat.le_of_ble_eq_true rfl⟩) (fun H locs G => ?_)
        refine lv_iinc (v := (v1 + (1 : Int32))) (lv' := [(1, .int (v1 + (1 : Int32))), (0, .ref (ad 0 0))]) C.x C.b dX0_electRest_23 hl (k := 1) rfl rfl (by decide) rfl (fun ls hl => ?_)
        refine lv_goto (tgt := 5) C.x C.b dX0_electRest_26 (by decide) ?_
        exact ih5 σ2 (v1 + (1 : Int32)) _ _ ls G (lv_sub hl [1, 0] rfl) hf
  unfold f_X0_electRest at hf
  refine lv_aload_n C.x C.b dX0_electRest_0 rfl (lv_at hl 0 rfl) ?_
  refine g_geti C G 0 0 5 hT rfl ginX0 (by decide) tw228 dX0_electRest_1 ?_
  refine lv_istore_n (lv' := [(1, .int (σ 0 0 5)), (0, .ref (ad 0 0))]) C.x C.b dX0_electRest_4 rfl hl (by decide) rfl (fun ls hl => ?_)
  exact lp5 g_fuel σ (σ 0 0 5) _ _ ls G (lv_sub hl [1, 0] rfl) hf
def f_X0_lead_P77 (σ : gS) : Option (Int32 × gS) := (if g_ix ((σ 0 0 1) - (1 : Int32)) 4 then (if g_ix (σ 0 0 1) 4 then (some (((σ 16 0 (((σ 0 0 1) - (1 : Int32)).toNatClampNeg)) - (σ 16 0 ((σ 0 0 1).toNatClampNeg))), σ)) else none) else none)
def f_X0_lead_P59 (rec2 : gS → Int32 → Option (Int32 × gS)) (σ : gS) (v1 : Int32) (v2 : Int32) : Option (Int32 × gS) := (if g_ix v1 4 then (if g_ix v2 4 then (g_let (g_up σ 16 0 v2.toNatClampNeg (σ 14 0 v1.toNatClampNeg)) fun σ18 => (rec2 σ18 (v1 + (1 : Int32)))) else none) else none)
def f_X0_lead_L14 (K14 : gS → Int32 → Int32 → Option (Int32 × gS)) : Nat → gS → Int32 → Int32 → Int32 → Option (Int32 × gS)
  | 0, _, _, _, _ => none
  | n + 1, σ, v1, v2, v3 => (if v3 ≤ 0 then (K14 σ v1 v2) else (if g_ix (v3 - (1 : Int32)) 4 then (if g_ix v1 4 then (if (σ 14 0 v1.toNatClampNeg) ≤ (σ 16 0 ((v3 - (1 : Int32)).toNatClampNeg)) then (K14 σ v1 v2) else (if g_ix (v3 - (1 : Int32)) 4 then (if g_ix v3 4 then (g_let (g_up σ 16 0 v3.toNatClampNeg (σ 16 0 ((v3 - (1 : Int32)).toNatClampNeg))) fun σ9 => (f_X0_lead_L14 K14 n σ9 v1 (v3 - (1 : Int32)) (v3 + (-1 : Int32)))) else none) else none)) else none) else none))
def f_X0_lead_L2 (K2 : gS → Option (Int32 × gS)) : Nat → gS → Int32 → Option (Int32 × gS)
  | 0, _, _ => none
  | n + 1, σ, v1 => (if (σ 0 0 0) ≤ v1 then (K2 σ) else (f_X0_lead_L14 (f_X0_lead_P59 (f_X0_lead_L2 K2 n)) g_fuel σ v1 v1 v1))
def f_X0_lead (ad : gA) (σ : gS) : Option (Int32 × gS) := (f_X0_lead_L2 (f_X0_lead_P77) g_fuel σ (0 : Int32))
theorem hd_X0_lead : yX0_lead.cls ≠ "java/lang/invoke/MethodHandle" ∧ yX0_lead.cls ≠ "java/lang/invoke/VarHandle" ∧ (parseMethodDescriptor yX0_lead.desc).map (fun d => d.parameters.length) = some 0 := by decide +kernel
set_option maxHeartbeats 4000000 in
set_option maxRecDepth 100000 in
theorem c_X0_lead (l : Launch) (D : va_G) (cy : Nat → ClassId) (A : Nat → Prop) (ad : gA) (L : gL)  (σ : gS) (hT : (0, 0) ∈ L) (r0 : Int32) (σ0 : gS) (hf : f_X0_lead ad σ = some (r0, σ0)) : g_Mi l yX0_lead cX0_lead 4 (some .int) ({ frames := 0, cells := 0, slots := 0, locals := 0 } : Room) D cy A ad L σ [.ref (ad 0 0)] r0 σ0 := by
  refine g_met (by decide) (Nat.le_of_ble_eq_true rfl) (fun p e s m below meth c C hr hlocks hnm G ls hl => ?_)
  have hl : lv_has ls 4 [(0, .ref (ad 0 0))] := hl
  have pt77 : ∀ (σ : gS) (H : Heap) (locs : List Loc) (ls : Array Slot), g_H D cy A ad L σ s.heap H locs → lv_has ls 4 [(0, .ref (ad 0 0))] → f_X0_lead_P77 σ = some (r0, σ0) → g_Wi p l e ({ frames := 0, cells := 0, slots := 0, locals := 0 } : Room) s m below meth c H locs 0 0 D cy A ad L [.ref (ad 0 0)] r0 σ0 (F0 m 77 ls []) := by
    intro σ H locs ls G hl hf
    unfold f_X0_lead_P77 at hf
    refine lv_aload_n C.x C.b dX0_lead_77 rfl (lv_at hl 0 rfl) ?_
    refine g_getr C G 0 0 10 16 hT rfl ginX0 (by decide) tw233 dX0_lead_78 (fun hL10 => ?_)
    refine lv_aload_n C.x C.b dX0_lead_81 rfl (lv_at hl 0 rfl) ?_
    refine g_geti C G 0 0 1 hT rfl ginX0 (by decide) tw220 dX0_lead_82 ?_
    refine lv_iconst (v := (1 : Int32)) C.x C.b dX0_lead_85 (by decide) ?_
    refine lv_isub C.x C.b dX0_lead_86 ?_
    obtain ⟨hi11, hf⟩ := g_ok hf
    refine g_iald (n := 4) C G 16 0 hL10 (by decide) rfl hi11 dX0_lead_87 ?_
    refine lv_aload_n C.x C.b dX0_lead_88 rfl (lv_at hl 0 rfl) ?_
    refine g_getr C G 0 0 10 16 hT rfl ginX0 (by decide) tw233 dX0_lead_89 (fun hL12 => ?_)
    refine lv_aload_n C.x C.b dX0_lead_92 rfl (lv_at hl 0 rfl) ?_
    refine g_geti C G 0 0 1 hT rfl ginX0 (by decide) tw220 dX0_lead_93 ?_
    obtain ⟨hi13, hf⟩ := g_ok hf
    refine g_iald (n := 4) C G 16 0 hL12 (by decide) rfl hi13 dX0_lead_96 ?_
    refine lv_isub C.x C.b dX0_lead_97 ?_
    exact g_eii C G hr hlocks hf dX0_lead_98
  have lp2 : ∀ n2 : Nat, ∀ (σ : gS) (v1 : Int32) (H : Heap) (locs : List Loc) (ls : Array Slot), g_H D cy A ad L σ s.heap H locs → lv_has ls 4 [(0, .ref (ad 0 0)), (1, .int v1)] → f_X0_lead_L2 (f_X0_lead_P77) n2 σ v1 = some (r0, σ0) → g_Wi p l e ({ frames := 0, cells := 0, slots := 0, locals := 0 } : Room) s m below meth c H locs 0 0 D cy A ad L [.ref (ad 0 0)] r0 σ0 (F0 m 2 ls []) := by
    intro n2
    induction n2 with
    | zero =>
      intro σ v1 H locs ls G hl hf
      rw [f_X0_lead_L2] at hf
      cases hf
    | succ n2 ih2 =>
      have pt59 : ∀ (σ : gS) (v1 : Int32) (v2 : Int32) (H : Heap) (locs : List Loc) (ls : Array Slot), g_H D cy A ad L σ s.heap H locs → lv_has ls 4 [(0, .ref (ad 0 0)), (1, .int v1), (2, .int v2)] → f_X0_lead_P59 (f_X0_lead_L2 (f_X0_lead_P77) n2) σ v1 v2 = some (r0, σ0) → g_Wi p l e ({ frames := 0, cells := 0, slots := 0, locals := 0 } : Room) s m below meth c H locs 0 0 D cy A ad L [.ref (ad 0 0)] r0 σ0 (F0 m 59 ls []) := by
        intro σ v1 v2 H locs ls G hl hf
        unfold f_X0_lead_P59 at hf
        refine lv_aload_n C.x C.b dX0_lead_59 rfl (lv_at hl 0 rfl) ?_
        refine g_getr C G 0 0 10 16 hT rfl ginX0 (by decide) tw233 dX0_lead_60 (fun hL14 => ?_)
        refine lv_iload_n C.x C.b dX0_lead_63 rfl (lv_at hl 2 rfl) ?_
        refine lv_aload_n C.x C.b dX0_lead_64 rfl (lv_at hl 0 rfl) ?_
        refine g_getr C G 0 0 8 14 hT rfl ginX0 (by decide) tw231 dX0_lead_65 (fun hL15 => ?_)
        refine lv_iload_n C.x C.b dX0_lead_68 rfl (lv_at hl 1 rfl) ?_
        obtain ⟨hi16, hf⟩ := g_ok hf
        refine g_iald (n := 4) C G 14 0 hL15 (by decide) rfl hi16 dX0_lead_69 ?_
        obtain ⟨hi17, hf⟩ := g_ok hf
        refine g_iast (n := 4) C G 16 0 hL14 (by decide) rfl hi17 dX0_lead_70 (fun H locs G => ?_)
        obtain ⟨σ18, eσ18, hf⟩ := g_lt hf
        rw [← eσ18] at G
        refine lv_iinc (v := (v1 + (1 : Int32))) (lv' := [(1, .int (v1 + (1 : Int32))), (0, .ref (ad 0 0)), (2, .int v2)]) C.x C.b dX0_lead_71 hl (k := 1) rfl rfl (by decide) rfl (fun ls hl => ?_)
        refine lv_goto (tgt := 2) C.x C.b dX0_lead_74 (by decide) ?_
        exact ih2 σ18 (v1 + (1 : Int32)) _ _ ls G (lv_sub hl [1, 0] rfl) hf
      have lp14 : ∀ n14 : Nat, ∀ (σ : gS) (v1 : Int32) (v2 : Int32) (v3 : Int32) (H : Heap) (locs : List Loc) (ls : Array Slot), g_H D cy A ad L σ s.heap H locs → lv_has ls 4 [(0, .ref (ad 0 0)), (1, .int v1), (2, .int v2), (3, .int v3)] → f_X0_lead_L14 (f_X0_lead_P59 (f_X0_lead_L2 (f_X0_lead_P77) n2)) n14 σ v1 v2 v3 = some (r0, σ0) → g_Wi p l e ({ frames := 0, cells := 0, slots := 0, locals := 0 } : Room) s m below meth c H locs 0 0 D cy A ad L [.ref (ad 0 0)] r0 σ0 (F0 m 14 ls []) := by
        intro n14
        induction n14 with
        | zero =>
          intro σ v1 v2 v3 H locs ls G hl hf
          rw [f_X0_lead_L14] at hf
          cases hf
        | succ n14 ih14 =>
          intro σ v1 v2 v3 H locs ls G hl hf
          rw [f_X0_lead_L14] at hf
          refine lv_iload_n C.x C.b dX0_lead_14 rfl (lv_at hl 3 rfl) ?_
          refine lv_if_le (tgt := 59) C.x C.b dX0_lead_15 (by decide) (fun cb => ?_) (fun cb => ?_)
          · have hf := g_t cb hf
            exact pt59 σ v1 v2 _ _ ls G (lv_sub hl [0, 1, 2] rfl) hf
          · have hf := g_f cb hf
            refine lv_aload_n C.x C.b dX0_lead_18 rfl (lv_at hl 0 rfl) ?_
            refine g_getr C G 0 0 10 16 hT rfl ginX0 (by decide) tw233 dX0_lead_19 (fun hL1 => ?_)
            refine lv_iload_n C.x C.b dX0_lead_22 rfl (lv_at hl 3 rfl) ?_
            refine lv_iconst (v := (1 : Int32)) C.x C.b dX0_lead_23 (by decide) ?_
            refine lv_isub C.x C.b dX0_lead_24 ?_
            obtain ⟨hi2, hf⟩ := g_ok hf
            refine g_iald (n := 4) C G 16 0 hL1 (by decide) rfl hi2 dX0_lead_25 ?_
            refine lv_aload_n C.x C.b dX0_lead_26 rfl (lv_at hl 0 rfl) ?_
            refine g_getr C G 0 0 8 14 hT rfl ginX0 (by decide) tw231 dX0_lead_27 (fun hL3 => ?_)
            refine lv_iload_n C.x C.b dX0_lead_30 rfl (lv_at hl 1 rfl) ?_
            obtain ⟨hi4, hf⟩ := g_ok hf
            refine g_iald (n := 4) C G 14 0 hL3 (by decide) rfl hi4 dX0_lead_31 ?_
            refine lv_icmp_ge (tgt := 59) C.x C.b dX0_lead_32 (by decide) (fun cb => ?_) (fun cb => ?_)
            · have hf := g_t cb hf
              exact pt59 σ v1 v2 _ _ ls G (lv_sub hl [0, 1, 2] rfl) hf
            · have hf := g_f cb hf
              refine lv_aload_n C.x C.b dX0_lead_35 rfl (lv_at hl 0 rfl) ?_
              refine g_getr C G 0 0 10 16 hT rfl ginX0 (by decide) tw233 dX0_lead_36 (fun hL5 => ?_)
              refine lv_iload_n C.x C.b dX0_lead_39 rfl (lv_at hl 3 rfl) ?_
              refine lv_aload_n C.x C.b dX0_lead_40 rfl (lv_at hl 0 rfl) ?_
              refine g_getr C G 0 0 10 16 hT rfl ginX0 (by decide) tw233 dX0_lead_41 (fun hL6 => ?_)
              refine lv_iload_n C.x C.b dX0_lead_44 rfl (lv_at hl 3 rfl) ?_
              refine lv_iconst (v := (1 : Int32)) C.x C.b dX0_lead_45 (by decide) ?_
              refine lv_isub C.x C.b dX0_lead_46 ?_
              obtain ⟨hi7, hf⟩ := g_ok hf
              refine g_iald (n := 4) C G 16 0 hL6 (by decide) rfl hi7 dX0_lead_47 ?_
              obtain ⟨hi8, hf⟩ := g_ok hf
              refine g_iast (n := 4) C G 16 0 hL5 (by decide) rfl hi8 dX0_lead_48 (fun H locs G => ?_)
              obtain ⟨σ9, eσ9, hf⟩ := g_lt hf
              rw [← eσ9] at G
              refine lv_iload_n C.x C.b dX0_lead_49 rfl (lv_at hl 3 rfl) ?_
              refine lv_iconst (v := (1 : Int32)) C.x C.b dX0_lead_50 (by decide) ?_
              refine lv_isub C.x C.b dX0_lead_51 ?_
              refine lv_istore_n (lv' := [(2, .int (v3 - (1 : Int32))), (0, .ref (ad 0 0)), (1, .int v1), (3, .int v3)]) C.x C.b dX0_lead_52 rfl hl (by decide) rfl (fun ls hl => ?_)
              refine lv_iinc (v := (v3 + (-1 : Int32))) (lv' := [(3, .int (v3 + (-1 : Int32))), (2, .int (v3 - (1 : Int32))), (0, .ref (ad 0 0)), (1, .int v1)]) C.x C.b dX0_lead_53 hl (k := 3) rfl rfl (by decide) rfl (fun ls hl => ?_)
              refine lv_goto (tgt := 14) C.x C.b dX0_lead_56 (by decide) ?_
              exact ih14 σ9 v1 (v3 - (1 : Int32)) (v3 + (-1 : Int32)) _ _ ls G (lv_sub hl [2, 3, 1, 0] rfl) hf
      intro σ v1 H locs ls G hl hf
      rw [f_X0_lead_L2] at hf
      refine lv_iload_n C.x C.b dX0_lead_2 rfl (lv_at hl 1 rfl) ?_
      refine lv_aload_n C.x C.b dX0_lead_3 rfl (lv_at hl 0 rfl) ?_
      refine g_geti C G 0 0 0 hT rfl ginX0 (by decide) tw219 dX0_lead_4 ?_
      refine lv_icmp_ge (tgt := 77) C.x C.b dX0_lead_7 (by decide) (fun cb => ?_) (fun cb => ?_)
      · have hf := g_t cb hf
        exact pt77 σ _ _ ls G (lv_sub hl [0] rfl) hf
      · have hf := g_f cb hf
        refine lv_iload_n C.x C.b dX0_lead_10 rfl (lv_at hl 1 rfl) ?_
        refine lv_istore_n (lv' := [(2, .int v1), (0, .ref (ad 0 0)), (1, .int v1)]) C.x C.b dX0_lead_11 rfl hl (by decide) rfl (fun ls hl => ?_)
        refine lv_iload_n C.x C.b dX0_lead_12 rfl (lv_at hl 2 rfl) ?_
        refine lv_istore_n (lv' := [(3, .int v1), (2, .int v1), (0, .ref (ad 0 0)), (1, .int v1)]) C.x C.b dX0_lead_13 rfl hl (by decide) rfl (fun ls hl => ?_)
        exact lp14 g_fuel σ v1 v1 v1 _ _ ls G (lv_sub hl [2, 3, 1, 0] rfl) hf
  unfold f_X0_lead at hf
  refine lv_iconst (v := (0 : Int32)) C.x C.b dX0_lead_0 (by decide) ?_
  refine lv_istore_n (lv' := [(1, .int (0 : Int32)), (0, .ref (ad 0 0))]) C.x C.b dX0_lead_1 rfl hl (by decide) rfl (fun ls hl => ?_)
  exact lp2 g_fuel σ (0 : Int32) _ _ ls G (lv_sub hl [1, 0] rfl) hf
def f_X0_run_P24 (ad : gA) (σ : gS) : Option gS := ((f_X0_electRest ad σ).bind fun σ3 => (some σ3))
def f_X0_run_L7 (ad : gA) (K7 : gS → Option gS) : Nat → gS → Int32 → Option gS
  | 0, _, _ => none
  | n + 1, σ, v3 => (if (35 : Int32) < v3 then (K7 σ) else ((f_X0_countUnit ad σ v3).bind fun σ2 => (f_X0_run_L7 ad K7 n σ2 (v3 + (1 : Int32)))))
def f_X0_run (ad : gA) (σ : gS) (a1 : Int64) : Option gS := ((f_X0_begin ad σ a1).bind fun σ1 => (f_X0_run_L7 ad (f_X0_run_P24 ad) g_fuel σ1 (1 : Int32)))
theorem hd_X0_run : yX0_run.cls ≠ "java/lang/invoke/MethodHandle" ∧ yX0_run.cls ≠ "java/lang/invoke/VarHandle" ∧ (parseMethodDescriptor yX0_run.desc).map (fun d => d.parameters.length) = some 1 := by decide +kernel
set_option maxHeartbeats 4000000 in
set_option maxRecDepth 100000 in
theorem c_X0_run (l : Launch) (D : va_G) (cy : Nat → ClassId) (A : Nat → Prop) (ad : gA) (L : gL)  (σ : gS) (hT : (0, 0) ∈ L) (a1 : Int64) (σ0 : gS) (hf : f_X0_run ad σ a1 = some σ0) : g_Mv l yX0_run cX0_run 4 none ({ frames := 3, cells := 0, slots := 0, locals := 65 } : Room) D cy A ad L σ [.ref (ad 0 0), .long a1] σ0 := by
  refine g_met (by decide) (Nat.le_of_ble_eq_true rfl) (fun p e s m below meth c C hr hlocks hnm G ls hl => ?_)
  have hl : lv_has ls 4 [(0, .ref (ad 0 0)), (1, .long a1)] := hl
  have pt24 : ∀ (σ : gS) (H : Heap) (locs : List Loc) (ls : Array Slot), g_H D cy A ad L σ s.heap H locs → lv_has ls 4 [(0, .ref (ad 0 0))] → f_X0_run_P24 ad σ = some σ0 → g_Wv p l e ({ frames := 3, cells := 0, slots := 0, locals := 65 } : Room) s m below meth c H locs 0 0 D cy A ad L [.ref (ad 0 0), .long a1] σ0 (F0 m 24 ls []) := by
    intro σ H locs ls G hl hf
    unfold f_X0_run_P24 at hf
    refine lv_aload_n C.x C.b dX0_run_24 rfl (lv_at hl 0 rfl) ?_
    obtain ⟨σ3, eσ3, hf⟩ := g_b hf
    refine g_callv G (g_runV (As := []) (rest := []) C G 0 0 (c_X0_electRest l D cy A ad L σ hT σ3 eσ3) ⟨tw718, tw58, tw715, ⟨tw717, tw10⟩, hd_X0_electRest⟩ (by decide) hT rfl ⟨rfl, by decide⟩ hl.1 rfl (Nat.le_of_ble_eq_true rfl) dX0_run_25 ⟨Nat.le_of_ble_eq_true rfl, Nat.le_of_ble_eq_true rfl⟩) (fun H locs G => ?_)
    exact g_evi C G hr hlocks hf dX0_run_28
  have lp7 : ∀ n7 : Nat, ∀ (σ : gS) (v3 : Int32) (H : Heap) (locs : List Loc) (ls : Array Slot), g_H D cy A ad L σ s.heap H locs → lv_has ls 4 [(0, .ref (ad 0 0)), (3, .int v3)] → f_X0_run_L7 ad (f_X0_run_P24 ad) n7 σ v3 = some σ0 → g_Wv p l e ({ frames := 3, cells := 0, slots := 0, locals := 65 } : Room) s m below meth c H locs 0 0 D cy A ad L [.ref (ad 0 0), .long a1] σ0 (F0 m 7 ls []) := by
    intro n7
    induction n7 with
    | zero =>
      intro σ v3 H locs ls G hl hf
      rw [f_X0_run_L7] at hf
      cases hf
    | succ n7 ih7 =>
      intro σ v3 H locs ls G hl hf
      rw [f_X0_run_L7] at hf
      refine lv_iload_n C.x C.b dX0_run_7 rfl (lv_at hl 1 rfl) ?_
      refine lv_bipush (v := (35 : Int32)) C.x C.b dX0_run_8 (by decide) ?_
      refine lv_icmp_gt (tgt := 24) C.x C.b dX0_run_10 (by decide) (fun cb => ?_) (fun cb => ?_)
      · have hf := g_t cb hf
        exact pt24 σ _ _ ls G (lv_sub hl [0] rfl) hf
      · have hf := g_f cb hf
        refine lv_aload_n C.x C.b dX0_run_13 rfl (lv_at hl 0 rfl) ?_
        refine lv_iload_n C.x C.b dX0_run_14 rfl (lv_at hl 1 rfl) ?_
        obtain ⟨σ2, eσ2, hf⟩ := g_b hf
        refine g_callv G (g_runV (As := [.int v3]) (rest := []) C G 0 0 (c_X0_countUnit l D cy A ad L σ hT v3 σ2 eσ2) ⟨tw710, tw58, tw707, ⟨tw709, tw8⟩, hd_X0_countUnit⟩ (by decide) hT rfl ⟨rfl, by decide⟩ hl.1 rfl (Nat.le_of_ble_eq_true rfl) dX0_run_15 ⟨Nat.le_of_ble_eq_true rfl, Nat.le_of_ble_eq_true rfl⟩) (fun H locs G => ?_)
        refine lv_iinc (v := (v3 + (1 : Int32))) (lv' := [(3, .int (v3 + (1 : Int32))), (0, .ref (ad 0 0))]) C.x C.b dX0_run_18 hl (k := 1) rfl rfl (by decide) rfl (fun ls hl => ?_)
        refine lv_goto (tgt := 7) C.x C.b dX0_run_21 (by decide) ?_
        exact ih7 σ2 (v3 + (1 : Int32)) _ _ ls G (lv_sub hl [1, 0] rfl) hf
  unfold f_X0_run at hf
  refine lv_aload_n C.x C.b dX0_run_0 rfl (lv_at hl 0 rfl) ?_
  refine lv_lload_n C.x C.b dX0_run_1 rfl (lv_at hl 1 rfl) ?_
  obtain ⟨σ1, eσ1, hf⟩ := g_b hf
  refine g_callv G (g_runV (As := [.long a1]) (rest := []) C G 0 0 (c_X0_begin l D cy A ad L σ hT a1 σ1 eσ1) ⟨tw703, tw58, tw700, ⟨tw702, tw7⟩, hd_X0_begin⟩ (by decide) hT rfl ⟨rfl, by decide⟩ hl.1 rfl (Nat.le_of_ble_eq_true rfl) dX0_run_2 ⟨Nat.le_of_ble_eq_true rfl, Nat.le_of_ble_eq_true rfl⟩) (fun H locs G => ?_)
  refine lv_iconst (v := (1 : Int32)) C.x C.b dX0_run_5 (by decide) ?_
  refine lv_istore_n (lv' := [(3, .int (1 : Int32)), (0, .ref (ad 0 0)), (1, .long a1)]) C.x C.b dX0_run_6 rfl hl (by decide) rfl (fun ls hl => ?_)
  exact lp7 g_fuel σ1 (1 : Int32) _ _ ls G (lv_sub hl [1, 0] rfl) hf
def f_X0_sureAfter_P52 (σ : gS) : Option (Int32 × gS) := (some ((35 : Int32), σ))
def f_X0_sureAfter_L7 (ad : gA) (K7 : gS → Option (Int32 × gS)) : Nat → gS → Int32 → Option (Int32 × gS)
  | 0, _, _ => none
  | n + 1, σ, v3 => (if (35 : Int32) ≤ v3 then (K7 σ) else (if v3 ≤ 0 then (if (σ 0 0 1) ≤ (σ 0 0 5) then (some (v3, σ)) else ((f_X0_lead ad σ).bind fun q2 => (if q2.1 < ((35 : Int32) - v3) then (f_X0_sureAfter_L7 ad K7 n q2.2 (v3 + (1 : Int32))) else (some (v3, q2.2))))) else ((f_X0_countUnit ad σ v3).bind fun σ3 => (if (σ3 0 0 1) ≤ (σ3 0 0 5) then (some (v3, σ3)) else ((f_X0_lead ad σ3).bind fun q4 => (if q4.1 < ((35 : Int32) - v3) then (f_X0_sureAfter_L7 ad K7 n q4.2 (v3 + (1 : Int32))) else (some (v3, q4.2))))))))
def f_X0_sureAfter (ad : gA) (σ : gS) (a1 : Int64) : Option (Int32 × gS) := ((f_X0_begin ad σ a1).bind fun σ1 => (f_X0_sureAfter_L7 ad (f_X0_sureAfter_P52) g_fuel σ1 (0 : Int32)))
theorem hd_X0_sureAfter : yX0_sureAfter.cls ≠ "java/lang/invoke/MethodHandle" ∧ yX0_sureAfter.cls ≠ "java/lang/invoke/VarHandle" ∧ (parseMethodDescriptor yX0_sureAfter.desc).map (fun d => d.parameters.length) = some 1 := by decide +kernel
set_option maxHeartbeats 4000000 in
set_option maxRecDepth 100000 in
theorem c_X0_sureAfter (l : Launch) (D : va_G) (cy : Nat → ClassId) (A : Nat → Prop) (ad : gA) (L : gL)  (σ : gS) (hT : (0, 0) ∈ L) (a1 : Int64) (r0 : Int32) (σ0 : gS) (hf : f_X0_sureAfter ad σ a1 = some (r0, σ0)) : g_Mi l yX0_sureAfter cX0_sureAfter 4 (some .int) ({ frames := 2, cells := 0, slots := 0, locals := 52 } : Room) D cy A ad L σ [.ref (ad 0 0), .long a1] r0 σ0 := by
  refine g_met (by decide) (Nat.le_of_ble_eq_true rfl) (fun p e s m below meth c C hr hlocks hnm G ls hl => ?_)
  have hl : lv_has ls 4 [(0, .ref (ad 0 0)), (1, .long a1)] := hl
  have pt52 : ∀ (σ : gS) (H : Heap) (locs : List Loc) (ls : Array Slot), g_H D cy A ad L σ s.heap H locs → lv_has ls 4 [] → f_X0_sureAfter_P52 σ = some (r0, σ0) → g_Wi p l e ({ frames := 2, cells := 0, slots := 0, locals := 52 } : Room) s m below meth c H locs 0 0 D cy A ad L [.ref (ad 0 0), .long a1] r0 σ0 (F0 m 52 ls []) := by
    intro σ H locs ls G hl hf
    unfold f_X0_sureAfter_P52 at hf
    refine lv_bipush (v := (35 : Int32)) C.x C.b dX0_sureAfter_52 (by decide) ?_
    exact g_eii C G hr hlocks hf dX0_sureAfter_54
  have lp7 : ∀ n7 : Nat, ∀ (σ : gS) (v3 : Int32) (H : Heap) (locs : List Loc) (ls : Array Slot), g_H D cy A ad L σ s.heap H locs → lv_has ls 4 [(0, .ref (ad 0 0)), (3, .int v3)] → f_X0_sureAfter_L7 ad (f_X0_sureAfter_P52) n7 σ v3 = some (r0, σ0) → g_Wi p l e ({ frames := 2, cells := 0, slots := 0, locals := 52 } : Room) s m below meth c H locs 0 0 D cy A ad L [.ref (ad 0 0), .long a1] r0 σ0 (F0 m 7 ls []) := by
    intro n7
    induction n7 with
    | zero =>
      intro σ v3 H locs ls G hl hf
      rw [f_X0_sureAfter_L7] at hf
      cases hf
    | succ n7 ih7 =>
      intro σ v3 H locs ls G hl hf
      rw [f_X0_sureAfter_L7] at hf
      refine lv_iload_n C.x C.b dX0_sureAfter_7 rfl (lv_at hl 1 rfl) ?_
      refine lv_bipush (v := (35 : Int32)) C.x C.b dX0_sureAfter_8 (by decide) ?_
      refine lv_icmp_ge (tgt := 52) C.x C.b dX0_sureAfter_10 (by decide) (fun cb => ?_) (fun cb => ?_)
      · have hf := g_t cb hf
        exact pt52 σ _ _ ls G (lv_sub hl [] rfl) hf
      · have hf := g_f cb hf
        refine lv_iload_n C.x C.b dX0_sureAfter_13 rfl (lv_at hl 1 rfl) ?_
        refine lv_if_le (tgt := 22) C.x C.b dX0_sureAfter_14 (by decide) (fun cb => ?_) (fun cb => ?_)
        · have hf := g_t cb hf
          refine lv_aload_n C.x C.b dX0_sureAfter_22 rfl (lv_at hl 0 rfl) ?_
          refine g_geti C G 0 0 5 hT rfl ginX0 (by decide) tw228 dX0_sureAfter_23 ?_
          refine lv_aload_n C.x C.b dX0_sureAfter_26 rfl (lv_at hl 0 rfl) ?_
          refine g_geti C G 0 0 1 hT rfl ginX0 (by decide) tw220 dX0_sureAfter_27 ?_
          refine lv_icmp_ge (tgt := 44) C.x C.b dX0_sureAfter_30 (by decide) (fun cb => ?_) (fun cb => ?_)
          · have hf := g_t cb hf
            refine lv_iload_n C.x C.b dX0_sureAfter_44 rfl (lv_at hl 1 rfl) ?_
            exact g_eii C G hr hlocks hf dX0_sureAfter_45
          · have hf := g_f cb hf
            refine lv_aload_n C.x C.b dX0_sureAfter_33 rfl (lv_at hl 0 rfl) ?_
            obtain ⟨q2, eq2, hf⟩ := g_b hf
            refine g_calli G (g_runV (As := []) (rest := []) C G 0 0 (c_X0_lead l D cy A ad L σ hT q2.1 q2.2 eq2) ⟨tw742, tw58, tw739, ⟨tw741, tw14⟩, hd_X0_lead⟩ (by decide) hT rfl ⟨rfl, by decide⟩ hl.1 rfl (Nat.le_of_ble_eq_true rfl) dX0_sureAfter_34 ⟨Nat.le_of_ble_eq_true rfl, Nat.le_of_ble_eq_true rfl⟩) (fun H locs G => ?_)
            refine lv_bipush (v := (35 : Int32)) C.x C.b dX0_sureAfter_37 (by decide) ?_
            refine lv_iload_n C.x C.b dX0_sureAfter_39 rfl (lv_at hl 1 rfl) ?_
            refine lv_isub C.x C.b dX0_sureAfter_40 ?_
            refine lv_icmp_lt (tgt := 46) C.x C.b dX0_sureAfter_41 (by decide) (fun cb => ?_) (fun cb => ?_)
            · have hf := g_t cb hf
              refine lv_iinc (v := (v3 + (1 : Int32))) (lv' := [(3, .int (v3 + (1 : Int32))), (0, .ref (ad 0 0))]) C.x C.b dX0_sureAfter_46 hl (k := 1) rfl rfl (by decide) rfl (fun ls hl => ?_)
              refine lv_goto (tgt := 7) C.x C.b dX0_sureAfter_49 (by decide) ?_
              exact ih7 q2.2 (v3 + (1 : Int32)) _ _ ls G (lv_sub hl [1, 0] rfl) hf
            · have hf := g_f cb hf
              refine lv_iload_n C.x C.b dX0_sureAfter_44 rfl (lv_at hl 1 rfl) ?_
              exact g_eii C G hr hlocks hf dX0_sureAfter_45
        · have hf := g_f cb hf
          refine lv_aload_n C.x C.b dX0_sureAfter_17 rfl (lv_at hl 0 rfl) ?_
          refine lv_iload_n C.x C.b dX0_sureAfter_18 rfl (lv_at hl 1 rfl) ?_
          obtain ⟨σ3, eσ3, hf⟩ := g_b hf
          refine g_callv G (g_runV (As := [.int v3]) (rest := []) C G 0 0 (c_X0_countUnit l D cy A ad L σ hT v3 σ3 eσ3) ⟨tw710, tw58, tw707, ⟨tw709, tw8⟩, hd_X0_countUnit⟩ (by decide) hT rfl ⟨rfl, by decide⟩ hl.1 rfl (Nat.le_of_ble_eq_true rfl) dX0_sureAfter_19 ⟨Nat.le_of_ble_eq_true rfl, Nat.le_of_ble_eq_true rfl⟩) (fun H locs G => ?_)
          refine lv_aload_n C.x C.b dX0_sureAfter_22 rfl (lv_at hl 0 rfl) ?_
          refine g_geti C G 0 0 5 hT rfl ginX0 (by decide) tw228 dX0_sureAfter_23 ?_
          refine lv_aload_n C.x C.b dX0_sureAfter_26 rfl (lv_at hl 0 rfl) ?_
          refine g_geti C G 0 0 1 hT rfl ginX0 (by decide) tw220 dX0_sureAfter_27 ?_
          refine lv_icmp_ge (tgt := 44) C.x C.b dX0_sureAfter_30 (by decide) (fun cb => ?_) (fun cb => ?_)
          · have hf := g_t cb hf
            refine lv_iload_n C.x C.b dX0_sureAfter_44 rfl (lv_at hl 1 rfl) ?_
            exact g_eii C G hr hlocks hf dX0_sureAfter_45
          · have hf := g_f cb hf
            refine lv_aload_n C.x C.b dX0_sureAfter_33 rfl (lv_at hl 0 rfl) ?_
            obtain ⟨q4, eq4, hf⟩ := g_b hf
            refine g_calli G (g_runV (As := []) (rest := []) C G 0 0 (c_X0_lead l D cy A ad L σ3 hT q4.1 q4.2 eq4) ⟨tw742, tw58, tw739, ⟨tw741, tw14⟩, hd_X0_lead⟩ (by decide) hT rfl ⟨rfl, by decide⟩ hl.1 rfl (Nat.le_of_ble_eq_true rfl) dX0_sureAfter_34 ⟨Nat.le_of_ble_eq_true rfl, Nat.le_of_ble_eq_true rfl⟩) (fun H locs G => ?_)
            refine lv_bipush (v := (35 : Int32)) C.x C.b dX0_sureAfter_37 (by decide) ?_
            refine lv_iload_n C.x C.b dX0_sureAfter_39 rfl (lv_at hl 1 rfl) ?_
            refine lv_isub C.x C.b dX0_sureAfter_40 ?_
            refine lv_icmp_lt (tgt := 46) C.x C.b dX0_sureAfter_41 (by decide) (fun cb => ?_) (fun cb => ?_)
            · have hf := g_t cb hf
              refine lv_iinc (v := (v3 + (1 : Int32))) (lv' := [(3, .int (v3 + (1 : Int32))), (0, .ref (ad 0 0))]) C.x C.b dX0_sureAfter_46 hl (k := 1) rfl rfl (by decide) rfl (fun ls hl => ?_)
              refine lv_goto (tgt := 7) C.x C.b dX0_sureAfter_49 (by decide) ?_
              exact ih7 q4.2 (v3 + (1 : Int32)) _ _ ls G (lv_sub hl [1, 0] rfl) hf
            · have hf := g_f cb hf
              refine lv_iload_n C.x C.b dX0_sureAfter_44 rfl (lv_at hl 1 rfl) ?_
              exact g_eii C G hr hlocks hf dX0_sureAfter_45
  unfold f_X0_sureAfter at hf
  refine lv_aload_n C.x C.b dX0_sureAfter_0 rfl (lv_at hl 0 rfl) ?_
  refine lv_lload_n C.x C.b dX0_sureAfter_1 rfl (lv_at hl 1 rfl) ?_
  obtain ⟨σ1, eσ1, hf⟩ := g_b hf
  refine g_callv G (g_runV (As := [.long a1]) (rest := []) C G 0 0 (c_X0_begin l D cy A ad L σ hT a1 σ1 eσ1) ⟨tw703, tw58, tw700, ⟨tw702, tw7⟩, hd_X0_begin⟩ (by decide) hT rfl ⟨rfl, by decide⟩ hl.1 rfl (Nat.le_of_ble_eq_true rfl) dX0_sureAfter_2 ⟨Nat.le_of_ble_eq_true rfl, Nat.le_of_ble_eq_true rfl⟩) (fun H locs G => ?_)
  refine lv_iconst (v := (0 : Int32)) C.x C.b dX0_sureAfter_5 (by decide) ?_
  refine lv_istore_n (lv' := [(3, .int (0 : Int32)), (0, .ref (ad 0 0)), (1, .long a1)]) C.x C.b dX0_sureAfter_6 rfl hl (by decide) rfl (fun ls hl => ?_)
  exact lp7 g_fuel σ1 (0 : Int32) _ _ ls G (lv_sub hl [1, 0] rfl) hf
