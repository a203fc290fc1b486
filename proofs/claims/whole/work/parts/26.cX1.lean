def f_X1_addSlots_P60 (σ : gS) : Option gS := (some σ)
def f_X1_addSlots_L3 (ad : gA) (a1 : Nat) (a2 : Int32) (a3 : Int32) (K3 : gS → Option gS) : Nat → gS → Int32 → Option gS
  | 0, _, _ => none
  | n + 1, σ, v4 => (if (σ 3 a1 0) ≤ v4 then (K3 σ) else ((f_X3_code ad σ a1 a3 v4).bind fun q1 => (if q1 = (-1 : Int32) then (if g_ix (σ 1 0 0) 24 then (g_let (g_up σ 17 0 ((σ 1 0 0).toNatClampNeg) a2) fun σ4 => (if g_ix (σ4 1 0 0) 24 then (g_let (g_up σ4 18 0 ((σ4 1 0 0).toNatClampNeg) v4) fun σ7 => (g_let (g_up σ7 1 0 0 ((σ7 1 0 0) + (1 : Int32))) fun σ8 => (f_X1_addSlots_L3 ad a1 a2 a3 K3 n σ8 (v4 + (1 : Int32))))) else none)) else none) else (f_X1_addSlots_L3 ad a1 a2 a3 K3 n σ (v4 + (1 : Int32))))))
def f_X1_addSlots (ad : gA) (σ : gS) (a1 : Nat) (a2 : Int32) (a3 : Int32) : Option gS := (f_X1_addSlots_L3 ad a1 a2 a3 (f_X1_addSlots_P60) g_fuel σ (0 : Int32))
theorem hd_X1_addSlots : yX1_addSlots.cls ≠ "java/lang/invoke/MethodHandle" ∧ yX1_addSlots.cls ≠ "java/lang/invoke/VarHandle" ∧ (parseMethodDescriptor yX1_addSlots.desc).map (fun d => d.parameters.length) = some 3 := by decide +kernel
set_option maxHeartbeats 4000000 in
set_option maxRecDepth 100000 in
theorem c_X1_addSlots (l : Launch) (D : va_G) (cy : Nat → ClassId) (A : Nat → Prop) (ad : gA) (L : gL)  (σ : gS) (hT : (1, 0) ∈ L) (a1 : Nat) (ha1 : (3, a1) ∈ L) (a2 : Int32) (a3 : Int32) (σ0 : gS) (hf : f_X1_addSlots ad σ a1 a2 a3 = some σ0) : g_Mv l yX1_addSlots cX1_addSlots 5 none ({ frames := 1, cells := 0, slots := 0, locals := 22 } : Room) D cy A ad L σ [.ref (ad 1 0), .ref (ad 3 a1), .int a2, .int a3] σ0 := by
  refine g_met (by decide) (Nat.le_of_ble_eq_true rfl) (fun p e s m below meth c C hr hlocks hnm G ls hl => ?_)
  have hl : lv_has ls 5 [(0, .ref (ad 1 0)), (1, .ref (ad 3 a1)), (2, .int a2), (3, .int a3)] := hl
  have pt60 : ∀ (σ : gS) (H : Heap) (locs : List Loc) (ls : Array Slot), g_H D cy A ad L σ s.heap H locs → lv_has ls 5 [] → f_X1_addSlots_P60 σ = some σ0 → g_Wv p l e ({ frames := 1, cells := 0, slots := 0, locals := 22 } : Room) s m below meth c H locs 0 0 D cy A ad L [.ref (ad 1 0), .ref (ad 3 a1), .int a2, .int a3] σ0 (F0 m 60 ls []) := by
    intro σ H locs ls G hl hf
    unfold f_X1_addSlots_P60 at hf
    exact g_evi C G hr hlocks hf dX1_addSlots_60
  have lp3 : ∀ n3 : Nat, ∀ (σ : gS) (v4 : Int32) (H : Heap) (locs : List Loc) (ls : Array Slot), g_H D cy A ad L σ s.heap H locs → lv_has ls 5 [(0, .ref (ad 1 0)), (1, .ref (ad 3 a1)), (2, .int a2), (3, .int a3), (4, .int v4)] → f_X1_addSlots_L3 ad a1 a2 a3 (f_X1_addSlots_P60) n3 σ v4 = some σ0 → g_Wv p l e ({ frames := 1, cells := 0, slots := 0, locals := 22 } : Room) s m below meth c H locs 0 0 D cy A ad L [.ref (ad 1 0), .ref (ad 3 a1), .int a2, .int a3] σ0 (F0 m 3 ls []) := by
    intro n3
    induction n3 with
    | zero =>
      intro σ v4 H locs ls G hl hf
      rw [f_X1_addSlots_L3] at hf
      cases hf
    | succ n3 ih3 =>
      intro σ v4 H locs ls G hl hf
      rw [f_X1_addSlots_L3] at hf
      refine lv_iload C.x C.b dX1_addSlots_3 (lv_at hl 4 rfl) ?_
      refine lv_aload_n C.x C.b dX1_addSlots_5 rfl (lv_at hl 1 rfl) ?_
      refine g_geti C G 3 a1 0 ha1 rfl ginX3 (by decide) tw314 dX1_addSlots_6 ?_
      refine lv_icmp_ge (tgt := 60) C.x C.b dX1_addSlots_9 (by decide) (fun cb => ?_) (fun cb => ?_)
      · have hf := g_t cb hf
        exact pt60 σ _ _ ls G (lv_sub hl [] rfl) hf
      · have hf := g_f cb hf
        refine lv_aload_n C.x C.b dX1_addSlots_12 rfl (lv_at hl 1 rfl) ?_
        refine lv_iload_n C.x C.b dX1_addSlots_13 rfl (lv_at hl 3 rfl) ?_
        refine lv_iload C.x C.b dX1_addSlots_14 (lv_at hl 4 rfl) ?_
        obtain ⟨q1, eq1, hf⟩ := g_b hf
        refine g_calli G (g_runV (As := [.int a3, .int v4]) (rest := []) C G 3 a1 (c_X3_code l D cy A ad L σ a1 ha1 a3 v4 q1 eq1) ⟨tw498, tw61, tw620, ⟨tw496, tw497⟩, hd_X3_code⟩ (by decide) ha1 rfl ⟨rfl, by decide⟩ hl.1 rfl (Nat.le_of_ble_eq_true rfl) dX1_addSlots_16 ⟨Nat.le_of_ble_eq_true rfl, Nat.le_of_ble_eq_true rfl⟩) (fun H locs G => ?_)
        refine lv_iconst (v := (-1 : Int32)) C.x C.b dX1_addSlots_19 (by decide) ?_
        refine lv_icmp_ne (tgt := 54) C.x C.b dX1_addSlots_20 (by decide) (fun cb => ?_) (fun cb => ?_)
        · have hf := g_f cb hf
          refine lv_iinc (v := (v4 + (1 : Int32))) (lv' := [(4, .int (v4 + (1 : Int32))), (0, .ref (ad 1 0)), (1, .ref (ad 3 a1)), (2, .int a2), (3, .int a3)]) C.x C.b dX1_addSlots_54 hl (k := 4) rfl rfl (by decide) rfl (fun ls hl => ?_)
          refine lv_goto (tgt := 3) C.x C.b dX1_addSlots_57 (by decide) ?_
          exact ih3 σ (v4 + (1 : Int32)) _ _ ls G (lv_sub hl [1, 2, 3, 4, 0] rfl) hf
        · have hf := g_t cb hf
          refine lv_aload_n C.x C.b dX1_addSlots_23 rfl (lv_at hl 0 rfl) ?_
          refine g_getr C G 1 0 9 17 hT rfl ginX1 (by decide) tw174 dX1_addSlots_24 (fun hL2 => ?_)
          refine lv_aload_n C.x C.b dX1_addSlots_27 rfl (lv_at hl 0 rfl) ?_
          refine g_geti C G 1 0 0 hT rfl ginX1 (by decide) tw161 dX1_addSlots_28 ?_
          refine lv_iload_n C.x C.b dX1_addSlots_31 rfl (lv_at hl 2 rfl) ?_
          obtain ⟨hi3, hf⟩ := g_ok hf
          refine g_iast (n := 24) C G 17 0 hL2 (by decide) rfl hi3 dX1_addSlots_32 (fun H locs G => ?_)
          obtain ⟨σ4, eσ4, hf⟩ := g_lt hf
          rw [← eσ4] at G
          refine lv_aload_n C.x C.b dX1_addSlots_33 rfl (lv_at hl 0 rfl) ?_
          refine g_getr C G 1 0 10 18 hT rfl ginX1 (by decide) tw175 dX1_addSlots_34 (fun hL5 => ?_)
          refine lv_aload_n C.x C.b dX1_addSlots_37 rfl (lv_at hl 0 rfl) ?_
          refine g_geti C G 1 0 0 hT rfl ginX1 (by decide) tw161 dX1_addSlots_38 ?_
          refine lv_iload C.x C.b dX1_addSlots_41 (lv_at hl 4 rfl) ?_
          obtain ⟨hi6, hf⟩ := g_ok hf
          refine g_iast (n := 24) C G 18 0 hL5 (by decide) rfl hi6 dX1_addSlots_43 (fun H locs G => ?_)
          obtain ⟨σ7, eσ7, hf⟩ := g_lt hf
          rw [← eσ7] at G
          refine lv_aload_n C.x C.b dX1_addSlots_44 rfl (lv_at hl 0 rfl) ?_
          refine lv_dup C.x C.b dX1_addSlots_45 rfl ?_
          refine g_geti C G 1 0 0 hT rfl ginX1 (by decide) tw161 dX1_addSlots_46 ?_
          refine lv_iconst (v := (1 : Int32)) C.x C.b dX1_addSlots_49 (by decide) ?_
          refine lv_iadd C.x C.b dX1_addSlots_50 ?_
          refine g_puti C G 1 0 0 hT (v := ((σ7 1 0 0) + (1 : Int32))) rfl ginX1 tyX1_ok nmX1 (by decide) ⟨rfl, rfl⟩ tw161 dX1_addSlots_51 (fun H locs G => ?_)
          obtain ⟨σ8, eσ8, hf⟩ := g_lt hf
          rw [← eσ8] at G
          refine lv_iinc (v := (v4 + (1 : Int32))) (lv' := [(4, .int (v4 + (1 : Int32))), (0, .ref (ad 1 0)), (1, .ref (ad 3 a1)), (2, .int a2), (3, .int a3)]) C.x C.b dX1_addSlots_54 hl (k := 4) rfl rfl (by decide) rfl (fun ls hl => ?_)
          refine lv_goto (tgt := 3) C.x C.b dX1_addSlots_57 (by decide) ?_
          exact ih3 σ8 (v4 + (1 : Int32)) _ _ ls G (lv_sub hl [1, 2, 3, 4, 0] rfl) hf
  unfold f_X1_addSlots at hf
  refine lv_iconst (v := (0 : Int32)) C.x C.b dX1_addSlots_0 (by decide) ?_
  refine lv_istore (lv' := [(4, .int (0 : Int32)), (0, .ref (ad 1 0)), (1, .ref (ad 3 a1)), (2, .int a2), (3, .int a3)]) C.x C.b dX1_addSlots_1 hl (by decide) rfl (fun ls hl => ?_)
  exact lp3 g_fuel σ (0 : Int32) _ _ ls G (lv_sub hl [1, 2, 3, 4, 0] rfl) hf
def f_X1_ableIn_P57 (σ : gS) (v3 : Int32) : Option (Int32 × gS) := (some (v3, σ))
def f_X1_ableIn_L21 (ad : gA) (a1 : Int32) (a2 : Int32) (K21 : gS → Int32 → Option (Int32 × gS)) : Nat → gS → Int32 → Int32 → Option (Int32 × gS)
  | 0, _, _, _ => none
  | n + 1, σ, v3, v4 => (if (σ 6 0 4) ≤ v4 then (K21 σ v3) else ((f_X6_firstBar ad σ v4 a1 a2 (1 : Int32)).bind fun q6 => (if q6.1 = (-2 : Int32) then (f_X1_ableIn_L21 ad a1 a2 K21 n q6.2 (v3 ||| ((1 : Int32) <<< (v4 &&& 31))) (v4 + (1 : Int32))) else (f_X1_ableIn_L21 ad a1 a2 K21 n q6.2 v3 (v4 + (1 : Int32))))))
def f_X1_ableIn (ad : gA) (σ : gS) (a1 : Int32) (a2 : Int32) : Option (Int32 × gS) := (if g_ix a1 8 then (if σ 25 0 a1.toNatClampNeg < 0 then none else ((f_X3_firstEmpty ad σ a1.toNatClampNeg a2).bind fun q5 => (if q5 = (-1 : Int32) then (some ((0 : Int32), σ)) else (f_X1_ableIn_L21 ad a1 a2 (f_X1_ableIn_P57) g_fuel σ (0 : Int32) (0 : Int32))))) else none)
theorem hd_X1_ableIn : yX1_ableIn.cls ≠ "java/lang/invoke/MethodHandle" ∧ yX1_ableIn.cls ≠ "java/lang/invoke/VarHandle" ∧ (parseMethodDescriptor yX1_ableIn.desc).map (fun d => d.parameters.length) = some 3 := by decide +kernel
set_option maxHeartbeats 4000000 in
set_option maxRecDepth 100000 in
theorem c_X1_ableIn (l : Launch) (D : va_G) (cy : Nat → ClassId) (A : Nat → Prop) (ad : gA) (L : gL)  (σ : gS) (ha0 : (6, 0) ∈ L) (a1 : Int32) (a2 : Int32) (r0 : Int32) (σ0 : gS) (hf : f_X1_ableIn ad σ a1 a2 = some (r0, σ0)) : g_Mi l yX1_ableIn cX1_ableIn 5 (some .int) ({ frames := 4, cells := 0, slots := 0, locals := 98 } : Room) D cy A ad L σ [.ref (ad 6 0), .int a1, .int a2] r0 σ0 := by
  refine g_met (by decide) (Nat.le_of_ble_eq_true rfl) (fun p e s m below meth c C hr hlocks hnm G ls hl => ?_)
  have hl : lv_has ls 5 [(0, .ref (ad 6 0)), (1, .int a1), (2, .int a2)] := hl
  have pt57 : ∀ (σ : gS) (v3 : Int32) (H : Heap) (locs : List Loc) (ls : Array Slot), g_H D cy A ad L σ s.heap H locs → lv_has ls 5 [(3, .int v3)] → f_X1_ableIn_P57 σ v3 = some (r0, σ0) → g_Wi p l e ({ frames := 4, cells := 0, slots := 0, locals := 98 } : Room) s m below meth c H locs 0 0 D cy A ad L [.ref (ad 6 0), .int a1, .int a2] r0 σ0 (F0 m 57 ls []) := by
    intro σ v3 H locs ls G hl hf
    unfold f_X1_ableIn_P57 at hf
    refine lv_iload_n C.x C.b dX1_ableIn_57 rfl (lv_at hl 0 rfl) ?_
    exact g_eii C G hr hlocks hf dX1_ableIn_58
  have lp21 : ∀ n21 : Nat, ∀ (σ : gS) (v3 : Int32) (v4 : Int32) (H : Heap) (locs : List Loc) (ls : Array Slot), g_H D cy A ad L σ s.heap H locs → lv_has ls 5 [(0, .ref (ad 6 0)), (1, .int a1), (2, .int a2), (3, .int v3), (4, .int v4)] → f_X1_ableIn_L21 ad a1 a2 (f_X1_ableIn_P57) n21 σ v3 v4 = some (r0, σ0) → g_Wi p l e ({ frames := 4, cells := 0, slots := 0, locals := 98 } : Room) s m below meth c H locs 0 0 D cy A ad L [.ref (ad 6 0), .int a1, .int a2] r0 σ0 (F0 m 21 ls []) := by
    intro n21
    induction n21 with
    | zero =>
      intro σ v3 v4 H locs ls G hl hf
      rw [f_X1_ableIn_L21] at hf
      cases hf
    | succ n21 ih21 =>
      intro σ v3 v4 H locs ls G hl hf
      rw [f_X1_ableIn_L21] at hf
      refine lv_iload C.x C.b dX1_ableIn_21 (lv_at hl 4 rfl) ?_
      refine lv_aload_n C.x C.b dX1_ableIn_23 rfl (lv_at hl 0 rfl) ?_
      refine g_geti C G 6 0 4 ha0 rfl ginX6 (by decide) tw128 dX1_ableIn_24 ?_
      refine lv_icmp_ge (tgt := 57) C.x C.b dX1_ableIn_27 (by decide) (fun cb => ?_) (fun cb => ?_)
      · have hf := g_t cb hf
        exact pt57 σ v3 _ _ ls G (lv_sub hl [3] rfl) hf
      · have hf := g_f cb hf
        refine lv_aload_n C.x C.b dX1_ableIn_30 rfl (lv_at hl 0 rfl) ?_
        refine lv_iload C.x C.b dX1_ableIn_31 (lv_at hl 4 rfl) ?_
        refine lv_iload_n C.x C.b dX1_ableIn_33 rfl (lv_at hl 1 rfl) ?_
        refine lv_iload_n C.x C.b dX1_ableIn_34 rfl (lv_at hl 2 rfl) ?_
        refine lv_iconst (v := (1 : Int32)) C.x C.b dX1_ableIn_35 (by decide) ?_
        obtain ⟨q6, eq6, hf⟩ := g_b hf
        refine g_calli G (g_runV (As := [.int v4, .int a1, .int a2, .int (1 : Int32)]) (rest := []) C G 6 0 (c_X6_firstBar l D cy A ad L σ ha0 v4 a1 a2 (1 : Int32) q6.1 q6.2 eq6) ⟨tw565, tw55, tw629, ⟨tw563, tw564⟩, hd_X6_firstBar⟩ (by decide) ha0 rfl ⟨rfl, by decide⟩ hl.1 rfl (Nat.le_of_ble_eq_true rfl) dX1_ableIn_36 ⟨Nat.le_of_ble_eq_true rfl, Nat.le_of_ble_eq_true rfl⟩) (fun H locs G => ?_)
        refine lv_bipush (v := (-2 : Int32)) C.x C.b dX1_ableIn_39 (by decide) ?_
        refine lv_icmp_ne (tgt := 51) C.x C.b dX1_ableIn_41 (by decide) (fun cb => ?_) (fun cb => ?_)
        · have hf := g_f cb hf
          refine lv_iinc (v := (v4 + (1 : Int32))) (lv' := [(4, .int (v4 + (1 : Int32))), (0, .ref (ad 6 0)), (1, .int a1), (2, .int a2), (3, .int v3)]) C.x C.b dX1_ableIn_51 hl (k := 4) rfl rfl (by decide) rfl (fun ls hl => ?_)
          refine lv_goto (tgt := 21) C.x C.b dX1_ableIn_54 (by decide) ?_
          exact ih21 q6.2 v3 (v4 + (1 : Int32)) _ _ ls G (lv_sub hl [1, 2, 3, 4, 0] rfl) hf
        · have hf := g_t cb hf
          refine lv_iload_n C.x C.b dX1_ableIn_44 rfl (lv_at hl 3 rfl) ?_
          refine lv_iconst (v := (1 : Int32)) C.x C.b dX1_ableIn_45 (by decide) ?_
          refine lv_iload C.x C.b dX1_ableIn_46 (lv_at hl 4 rfl) ?_
          refine lv_ishl C.x C.b dX1_ableIn_48 ?_
          refine lv_ior C.x C.b dX1_ableIn_49 ?_
          refine lv_istore_n (lv' := [(3, .int (v3 ||| ((1 : Int32) <<< (v4 &&& 31)))), (0, .ref (ad 6 0)), (1, .int a1), (2, .int a2), (4, .int v4)]) C.x C.b dX1_ableIn_50 rfl hl (by decide) rfl (fun ls hl => ?_)
          refine lv_iinc (v := (v4 + (1 : Int32))) (lv' := [(4, .int (v4 + (1 : Int32))), (3, .int (v3 ||| ((1 : Int32) <<< (v4 &&& 31)))), (0, .ref (ad 6 0)), (1, .int a1), (2, .int a2)]) C.x C.b dX1_ableIn_51 hl (k := 4) rfl rfl (by decide) rfl (fun ls hl => ?_)
          refine lv_goto (tgt := 21) C.x C.b dX1_ableIn_54 (by decide) ?_
          exact ih21 q6.2 (v3 ||| ((1 : Int32) <<< (v4 &&& 31))) (v4 + (1 : Int32)) _ _ ls G (lv_sub hl [2, 3, 4, 1, 0] rfl) hf
  unfold f_X1_ableIn at hf
  refine lv_iconst (v := (0 : Int32)) C.x C.b dX1_ableIn_0 (by decide) ?_
  refine lv_istore_n (lv' := [(3, .int (0 : Int32)), (0, .ref (ad 6 0)), (1, .int a1), (2, .int a2)]) C.x C.b dX1_ableIn_1 rfl hl (by decide) rfl (fun ls hl => ?_)
  refine lv_aload_n C.x C.b dX1_ableIn_2 rfl (lv_at hl 1 rfl) ?_
  refine g_getr C G 6 0 0 25 ha0 rfl ginX6 (by decide) tw116 dX1_ableIn_3 (fun hL1 => ?_)
  refine lv_iload_n C.x C.b dX1_ableIn_6 rfl (lv_at hl 2 rfl) ?_
  obtain ⟨hi2, hf⟩ := g_ok hf
  obtain ⟨hq3, hf⟩ := g_okn hf
  refine g_aldq (n := 8) C G 25 0 3 hL1 (by decide) rfl rfl hi2 hq3 dX1_ableIn_7 (fun hL4 => ?_)
  refine lv_iload_n C.x C.b dX1_ableIn_8 rfl (lv_at hl 3 rfl) ?_
  obtain ⟨q5, eq5, hf⟩ := g_b hf
  refine g_calli G (g_runV (As := [.int a2]) (rest := []) C G 3 a1.toNatClampNeg (c_X3_firstEmpty l D cy A ad L σ a1.toNatClampNeg hL4 a2 q5 eq5) ⟨tw494, tw61, tw628, ⟨tw492, tw493⟩, hd_X3_firstEmpty⟩ (by decide) hL4 rfl ⟨rfl, by decide⟩ hl.1 rfl (Nat.le_of_ble_eq_true rfl) dX1_ableIn_9 ⟨Nat.le_of_ble_eq_true rfl, Nat.le_of_ble_eq_true rfl⟩) (fun H locs G => ?_)
  refine lv_iconst (v := (-1 : Int32)) C.x C.b dX1_ableIn_12 (by decide) ?_
  refine lv_icmp_ne (tgt := 18) C.x C.b dX1_ableIn_13 (by decide) (fun cb => ?_) (fun cb => ?_)
  · have hf := g_f cb hf
    refine lv_iconst (v := (0 : Int32)) C.x C.b dX1_ableIn_18 (by decide) ?_
    refine lv_istore (lv' := [(4, .int (0 : Int32)), (3, .int (0 : Int32)), (0, .ref (ad 6 0)), (1, .int a1), (2, .int a2)]) C.x C.b dX1_ableIn_19 hl (by decide) rfl (fun ls hl => ?_)
    exact lp21 g_fuel σ (0 : Int32) (0 : Int32) _ _ ls G (lv_sub hl [2, 3, 4, 1, 0] rfl) hf
  · have hf := g_t cb hf
    refine lv_iload_n C.x C.b dX1_ableIn_16 rfl (lv_at hl 0 rfl) ?_
    exact g_eii C G hr hlocks hf dX1_ableIn_17
def f_X1_isOver (ad : gA) (σ : gS) : Option Int32 := (if (σ 1 0 3) = 0 then (if (σ 1 0 5) = 0 then (some (0 : Int32)) else (if (σ 1 0 1) ≤ 0 then (some (0 : Int32)) else (some (1 : Int32)))) else (some (1 : Int32)))
theorem hd_X1_isOver : yX1_isOver.cls ≠ "java/lang/invoke/MethodHandle" ∧ yX1_isOver.cls ≠ "java/lang/invoke/VarHandle" ∧ (parseMethodDescriptor yX1_isOver.desc).map (fun d => d.parameters.length) = some 0 := by decide +kernel
set_option maxHeartbeats 4000000 in
set_option maxRecDepth 100000 in
theorem c_X1_isOver (l : Launch) (D : va_G) (cy : Nat → ClassId) (A : Nat → Prop) (ad : gA) (L : gL)  (σ : gS) (hT : (1, 0) ∈ L) (r0 : Int32) (hf : f_X1_isOver ad σ = some r0) : g_Mi l yX1_isOver cX1_isOver 1 (some .boolean) ({ frames := 0, cells := 0, slots := 0, locals := 0 } : Room) D cy A ad L σ [.ref (ad 1 0)] r0 σ := by
  refine g_met (by decide) (Nat.le_of_ble_eq_true rfl) (fun p e s m below meth c C hr hlocks hnm G ls hl => ?_)
  have hl : lv_has ls 1 [(0, .ref (ad 1 0))] := hl
  unfold f_X1_isOver at hf
  refine lv_aload_n C.x C.b dX1_isOver_0 rfl (lv_at hl 0 rfl) ?_
  refine g_geti C G 1 0 3 hT rfl ginX1 (by decide) tw167 dX1_isOver_1 ?_
  refine lv_if_ne (tgt := 21) C.x C.b dX1_isOver_4 (by decide) (fun cb => ?_) (fun cb => ?_)
  · have hf := g_f cb hf
    refine lv_iconst (v := (1 : Int32)) C.x C.b dX1_isOver_21 (by decide) ?_
    refine lv_goto (tgt := 26) C.x C.b dX1_isOver_22 (by decide) ?_
    exact g_ezp C G hr hlocks hf rfl dX1_isOver_26
  · have hf := g_t cb hf
    refine lv_aload_n C.x C.b dX1_isOver_7 rfl (lv_at hl 0 rfl) ?_
    refine g_geti C G 1 0 5 hT rfl ginX1 (by decide) tw170 dX1_isOver_8 ?_
    refine lv_if_eq (tgt := 25) C.x C.b dX1_isOver_11 (by decide) (fun cb => ?_) (fun cb => ?_)
    · have hf := g_t cb hf
      refine lv_iconst (v := (0 : Int32)) C.x C.b dX1_isOver_25 (by decide) ?_
      exact g_ezp C G hr hlocks hf rfl dX1_isOver_26
    · have hf := g_f cb hf
      refine lv_aload_n C.x C.b dX1_isOver_14 rfl (lv_at hl 0 rfl) ?_
      refine g_geti C G 1 0 1 hT rfl ginX1 (by decide) tw163 dX1_isOver_15 ?_
      refine lv_if_le (tgt := 25) C.x C.b dX1_isOver_18 (by decide) (fun cb => ?_) (fun cb => ?_)
      · have hf := g_t cb hf
        refine lv_iconst (v := (0 : Int32)) C.x C.b dX1_isOver_25 (by decide) ?_
        exact g_ezp C G hr hlocks hf rfl dX1_isOver_26
      · have hf := g_f cb hf
        refine lv_iconst (v := (1 : Int32)) C.x C.b dX1_isOver_21 (by decide) ?_
        refine lv_goto (tgt := 26) C.x C.b dX1_isOver_22 (by decide) ?_
        exact g_ezp C G hr hlocks hf rfl dX1_isOver_26
def f_X1_fits (ad : gA) (σ : gS) (a2 : Int32) (a3 : Int32) : Option Int32 := (if g_ix a3 8 then (if (((σ 20 0 a3.toNatClampNeg) &&& ((σ 1 0 8) ^^^ (-1 : Int32))) &&& ((1 : Int32) <<< (a2 &&& 31))) = 0 then (some (0 : Int32)) else (if g_ix a3 8 then (if (σ 21 0 a3.toNatClampNeg) = 0 then (some (1 : Int32)) else (if g_ix a2 24 then (if σ 26 0 a2.toNatClampNeg < 0 then none else (if g_ix a3 8 then (if ((σ 5 a2.toNatClampNeg 8) &&& (σ 22 0 a3.toNatClampNeg)) = 0 then (some (1 : Int32)) else (some (0 : Int32))) else none)) else none)) else none)) else none)
theorem hd_X1_fits : yX1_fits.cls ≠ "java/lang/invoke/MethodHandle" ∧ yX1_fits.cls ≠ "java/lang/invoke/VarHandle" ∧ (parseMethodDescriptor yX1_fits.desc).map (fun d => d.parameters.length) = some 3 := by decide +kernel
set_option maxHeartbeats 4000000 in
set_option maxRecDepth 100000 in
theorem c_X1_fits (l : Launch) (D : va_G) (cy : Nat → ClassId) (A : Nat → Prop) (ad : gA) (L : gL)  (σ : gS) (hT : (1, 0) ∈ L) (ha1 : (6, 0) ∈ L) (a2 : Int32) (a3 : Int32) (r0 : Int32) (hf : f_X1_fits ad σ a2 a3 = some r0) : g_Mi l yX1_fits cX1_fits 4 (some .boolean) ({ frames := 0, cells := 0, slots := 0, locals := 0 } : Room) D cy A ad L σ [.ref (ad 1 0), .ref (ad 6 0), .int a2, .int a3] r0 σ := by
  refine g_met (by decide) (Nat.le_of_ble_eq_true rfl) (fun p e s m below meth c C hr hlocks hnm G ls hl => ?_)
  have hl : lv_has ls 4 [(0, .ref (ad 1 0)), (1, .ref (ad 6 0)), (2, .int a2), (3, .int a3)] := hl
  unfold f_X1_fits at hf
  refine lv_aload_n C.x C.b dX1_fits_0 rfl (lv_at hl 0 rfl) ?_
  refine g_getr C G 1 0 12 20 hT rfl ginX1 (by decide) tw177 dX1_fits_1 (fun hL1 => ?_)
  refine lv_iload_n C.x C.b dX1_fits_4 rfl (lv_at hl 3 rfl) ?_
  obtain ⟨hi2, hf⟩ := g_ok hf
  refine g_iald (n := 8) C G 20 0 hL1 (by decide) rfl hi2 dX1_fits_5 ?_
  refine lv_aload_n C.x C.b dX1_fits_6 rfl (lv_at hl 0 rfl) ?_
  refine g_geti C G 1 0 8 hT rfl ginX1 (by decide) tw173 dX1_fits_7 ?_
  refine lv_iconst (v := (-1 : Int32)) C.x C.b dX1_fits_10 (by decide) ?_
  refine lv_ixor C.x C.b dX1_fits_11 ?_
  refine lv_iand C.x C.b dX1_fits_12 ?_
  refine lv_iconst (v := (1 : Int32)) C.x C.b dX1_fits_13 (by decide) ?_
  refine lv_iload_n C.x C.b dX1_fits_14 rfl (lv_at hl 2 rfl) ?_
  refine lv_ishl C.x C.b dX1_fits_15 ?_
  refine lv_iand C.x C.b dX1_fits_16 ?_
  refine lv_if_ne (tgt := 22) C.x C.b dX1_fits_17 (by decide) (fun cb => ?_) (fun cb => ?_)
  · have hf := g_f cb hf
    refine lv_aload_n C.x C.b dX1_fits_22 rfl (lv_at hl 0 rfl) ?_
    refine g_getr C G 1 0 13 21 hT rfl ginX1 (by decide) tw178 dX1_fits_23 (fun hL3 => ?_)
    refine lv_iload_n C.x C.b dX1_fits_26 rfl (lv_at hl 3 rfl) ?_
    obtain ⟨hi4, hf⟩ := g_ok hf
    refine g_zald (n := 8) C G 21 0 hL3 (by decide) rfl hi4 dX1_fits_27 ?_
    refine lv_if_eq (tgt := 50) C.x C.b dX1_fits_28 (by decide) (fun cb => ?_) (fun cb => ?_)
    · have hf := g_t cb hf
      refine lv_iconst (v := (1 : Int32)) C.x C.b dX1_fits_50 (by decide) ?_
      refine lv_goto (tgt := 55) C.x C.b dX1_fits_51 (by decide) ?_
      exact g_ezp C G hr hlocks hf rfl dX1_fits_55
    · have hf := g_f cb hf
      refine lv_aload_n C.x C.b dX1_fits_31 rfl (lv_at hl 1 rfl) ?_
      refine g_getr C G 6 0 1 26 ha1 rfl ginX6 (by decide) tw120 dX1_fits_32 (fun hL5 => ?_)
      refine lv_iload_n C.x C.b dX1_fits_35 rfl (lv_at hl 2 rfl) ?_
      obtain ⟨hi6, hf⟩ := g_ok hf
      obtain ⟨hq7, hf⟩ := g_okn hf
      refine g_aldq (n := 24) C G 26 0 5 hL5 (by decide) rfl rfl hi6 hq7 dX1_fits_36 (fun hL8 => ?_)
      refine g_geti C G 5 a2.toNatClampNeg 8 hL8 rfl ginX5 (by decide) tw380 dX1_fits_37 ?_
      refine lv_aload_n C.x C.b dX1_fits_40 rfl (lv_at hl 0 rfl) ?_
      refine g_getr C G 1 0 14 22 hT rfl ginX1 (by decide) tw179 dX1_fits_41 (fun hL9 => ?_)
      refine lv_iload_n C.x C.b dX1_fits_44 rfl (lv_at hl 3 rfl) ?_
      obtain ⟨hi10, hf⟩ := g_ok hf
      refine g_iald (n := 8) C G 22 0 hL9 (by decide) rfl hi10 dX1_fits_45 ?_
      refine lv_iand C.x C.b dX1_fits_46 ?_
      refine lv_if_ne (tgt := 54) C.x C.b dX1_fits_47 (by decide) (fun cb => ?_) (fun cb => ?_)
      · have hf := g_f cb hf
        refine lv_iconst (v := (0 : Int32)) C.x C.b dX1_fits_54 (by decide) ?_
        exact g_ezp C G hr hlocks hf rfl dX1_fits_55
      · have hf := g_t cb hf
        refine lv_iconst (v := (1 : Int32)) C.x C.b dX1_fits_50 (by decide) ?_
        refine lv_goto (tgt := 55) C.x C.b dX1_fits_51 (by decide) ?_
        exact g_ezp C G hr hlocks hf rfl dX1_fits_55
  · have hf := g_t cb hf
    refine lv_iconst (v := (0 : Int32)) C.x C.b dX1_fits_20 (by decide) ?_
    exact g_ezp C G hr hlocks hf rfl dX1_fits_21
def f_X1_tellFound (ad : gA) (σ : gS) : Option gS := (g_let (g_up σ 1 0 1 ((σ 1 0 1) + (1 : Int32))) fun σ1 => (if (σ1 1 0 6) = (-1 : Int32) then (some σ1) else (if (σ1 1 0 7) = (-1 : Int32) then (some σ1) else (if g_ix (σ1 1 0 7) 8 then (if (((σ1 22 0 ((σ1 1 0 7).toNatClampNeg)) >>> ((σ1 1 0 6) &&& 31)) &&& (1 : Int32)) = 0 then (some σ1) else (g_let (g_up σ1 1 0 2 ((σ1 1 0 2) + (1 : Int32))) fun σ4 => (some σ4))) else none))))
theorem hd_X1_tellFound : yX1_tellFound.cls ≠ "java/lang/invoke/MethodHandle" ∧ yX1_tellFound.cls ≠ "java/lang/invoke/VarHandle" ∧ (parseMethodDescriptor yX1_tellFound.desc).map (fun d => d.parameters.length) = some 0 := by decide +kernel
set_option maxHeartbeats 4000000 in
set_option maxRecDepth 100000 in
theorem c_X1_tellFound (l : Launch) (D : va_G) (cy : Nat → ClassId) (A : Nat → Prop) (ad : gA) (L : gL)  (σ : gS) (hT : (1, 0) ∈ L) (σ0 : gS) (hf : f_X1_tellFound ad σ = some σ0) : g_Mv l yX1_tellFound cX1_tellFound 1 none ({ frames := 0, cells := 0, slots := 0, locals := 0 } : Room) D cy A ad L σ [.ref (ad 1 0)] σ0 := by
  refine g_met (by decide) (Nat.le_of_ble_eq_true rfl) (fun p e s m below meth c C hr hlocks hnm G ls hl => ?_)
  have hl : lv_has ls 1 [(0, .ref (ad 1 0))] := hl
  unfold f_X1_tellFound at hf
  refine lv_aload_n C.x C.b dX1_tellFound_0 rfl (lv_at hl 0 rfl) ?_
  refine lv_dup C.x C.b dX1_tellFound_1 rfl ?_
  refine g_geti C G 1 0 1 hT rfl ginX1 (by decide) tw163 dX1_tellFound_2 ?_
  refine lv_iconst (v := (1 : Int32)) C.x C.b dX1_tellFound_5 (by decide) ?_
  refine lv_iadd C.x C.b dX1_tellFound_6 ?_
  refine g_puti C G 1 0 1 hT (v := ((σ 1 0 1) + (1 : Int32))) rfl ginX1 tyX1_ok nmX1 (by decide) ⟨rfl, rfl⟩ tw163 dX1_tellFound_7 (fun H locs G => ?_)
  obtain ⟨σ1, eσ1, hf⟩ := g_lt hf
  rw [← eσ1] at G
  refine lv_aload_n C.x C.b dX1_tellFound_10 rfl (lv_at hl 0 rfl) ?_
  refine g_geti C G 1 0 6 hT rfl ginX1 (by decide) tw171 dX1_tellFound_11 ?_
  refine lv_iconst (v := (-1 : Int32)) C.x C.b dX1_tellFound_14 (by decide) ?_
  refine lv_icmp_eq (tgt := 55) C.x C.b dX1_tellFound_15 (by decide) (fun cb => ?_) (fun cb => ?_)
  · have hf := g_t cb hf
    exact g_evi C G hr hlocks hf dX1_tellFound_55
  · have hf := g_f cb hf
    refine lv_aload_n C.x C.b dX1_tellFound_18 rfl (lv_at hl 0 rfl) ?_
    refine g_geti C G 1 0 7 hT rfl ginX1 (by decide) tw172 dX1_tellFound_19 ?_
    refine lv_iconst (v := (-1 : Int32)) C.x C.b dX1_tellFound_22 (by decide) ?_
    refine lv_icmp_eq (tgt := 55) C.x C.b dX1_tellFound_23 (by decide) (fun cb => ?_) (fun cb => ?_)
    · have hf := g_t cb hf
      exact g_evi C G hr hlocks hf dX1_tellFound_55
    · have hf := g_f cb hf
      refine lv_aload_n C.x C.b dX1_tellFound_26 rfl (lv_at hl 0 rfl) ?_
      refine g_getr C G 1 0 14 22 hT rfl ginX1 (by decide) tw179 dX1_tellFound_27 (fun hL2 => ?_)
      refine lv_aload_n C.x C.b dX1_tellFound_30 rfl (lv_at hl 0 rfl) ?_
      refine g_geti C G 1 0 7 hT rfl ginX1 (by decide) tw172 dX1_tellFound_31 ?_
      obtain ⟨hi3, hf⟩ := g_ok hf
      refine g_iald (n := 8) C G 22 0 hL2 (by decide) rfl hi3 dX1_tellFound_34 ?_
      refine lv_aload_n C.x C.b dX1_tellFound_35 rfl (lv_at hl 0 rfl) ?_
      refine g_geti C G 1 0 6 hT rfl ginX1 (by decide) tw171 dX1_tellFound_36 ?_
      refine lv_ishr C.x C.b dX1_tellFound_39 ?_
      refine lv_iconst (v := (1 : Int32)) C.x C.b dX1_tellFound_40 (by decide) ?_
      refine lv_iand C.x C.b dX1_tellFound_41 ?_
      refine lv_if_eq (tgt := 55) C.x C.b dX1_tellFound_42 (by decide) (fun cb => ?_) (fun cb => ?_)
      · have hf := g_t cb hf
        exact g_evi C G hr hlocks hf dX1_tellFound_55
      · have hf := g_f cb hf
        refine lv_aload_n C.x C.b dX1_tellFound_45 rfl (lv_at hl 0 rfl) ?_
        refine lv_dup C.x C.b dX1_tellFound_46 rfl ?_
        refine g_geti C G 1 0 2 hT rfl ginX1 (by decide) tw165 dX1_tellFound_47 ?_
        refine lv_iconst (v := (1 : Int32)) C.x C.b dX1_tellFound_50 (by decide) ?_
        refine lv_iadd C.x C.b dX1_tellFound_51 ?_
        refine g_puti C G 1 0 2 hT (v := ((σ1 1 0 2) + (1 : Int32))) rfl ginX1 tyX1_ok nmX1 (by decide) ⟨rfl, rfl⟩ tw165 dX1_tellFound_52 (fun H locs G => ?_)
        obtain ⟨σ4, eσ4, hf⟩ := g_lt hf
        rw [← eσ4] at G
        exact g_evi C G hr hlocks hf dX1_tellFound_55
theorem hd_X1_place : yX1_place.cls ≠ "java/lang/invoke/MethodHandle" ∧ yX1_place.cls ≠ "java/lang/invoke/VarHandle" ∧ (parseMethodDescriptor yX1_place.desc).map (fun d => d.parameters.length) = some 2 := by decide +kernel
def f_X1_takeAndGoOn (ad : gA) (σ : gS) (a2 : Int32) (a3 : Int32) (fp : gS → Int32 → Option gS) : Option gS := (if g_ix a2 24 then (if g_ix a2 24 then (g_let (g_up σ 19 0 a2.toNatClampNeg a3) fun σ5 => (g_let (g_up σ5 1 0 8 ((σ5 1 0 8) ||| ((1 : Int32) <<< (a3 &&& 31)))) fun σ6 => (if g_ix (σ 17 0 a2.toNatClampNeg) 8 then (if g_ix (σ 17 0 a2.toNatClampNeg) 8 then (g_let (g_up σ6 22 0 ((σ 17 0 a2.toNatClampNeg).toNatClampNeg) ((σ6 22 0 ((σ 17 0 a2.toNatClampNeg).toNatClampNeg)) ||| ((1 : Int32) <<< (a3 &&& 31)))) fun σ10 => ((fp σ10 (a2 + (1 : Int32))).bind fun σ11 => (g_let (g_up σ11 1 0 8 ((σ11 1 0 8) &&& (((1 : Int32) <<< (a3 &&& 31)) ^^^ (-1 : Int32)))) fun σ12 => (if g_ix (σ 17 0 a2.toNatClampNeg) 8 then (if g_ix (σ 17 0 a2.toNatClampNeg) 8 then (g_let (g_up σ12 22 0 ((σ 17 0 a2.toNatClampNeg).toNatClampNeg) ((σ12 22 0 ((σ 17 0 a2.toNatClampNeg).toNatClampNeg)) &&& (((1 : Int32) <<< (a3 &&& 31)) ^^^ (-1 : Int32)))) fun σ16 => (some σ16)) else none) else none)))) else none) else none))) else none) else none)
theorem hd_X1_takeAndGoOn : yX1_takeAndGoOn.cls ≠ "java/lang/invoke/MethodHandle" ∧ yX1_takeAndGoOn.cls ≠ "java/lang/invoke/VarHandle" ∧ (parseMethodDescriptor yX1_takeAndGoOn.desc).map (fun d => d.parameters.length) = some 3 := by decide +kernel
set_option maxHeartbeats 4000000 in
set_option maxRecDepth 100000 in
theorem c_X1_takeAndGoOn (d : Nat) (l : Launch) (D : va_G) (cy : Nat → ClassId) (A : Nat → Prop) (ad : gA) (L : gL) (fp : gS → Int32 → Option gS) (hp : ∀ (σ : gS) (hT : (1, 0) ∈ L) (ha1 : (6, 0) ∈ L) (a2 : Int32) (σ0 : gS), fp σ a2 = some σ0 → g_Mv l yX1_place cX1_place 7 none (g_rp d) D cy A ad L σ [.ref (ad 1 0), .ref (ad 6 0), .int a2] σ0) (σ : gS) (hT : (1, 0) ∈ L) (ha1 : (6, 0) ∈ L) (a2 : Int32) (a3 : Int32) (σ0 : gS) (hf : f_X1_takeAndGoOn ad σ a2 a3 fp = some σ0) : g_Mv l yX1_takeAndGoOn cX1_takeAndGoOn 6 none (g_rt d) D cy A ad L σ [.ref (ad 1 0), .ref (ad 6 0), .int a2, .int a3] σ0 := by
  refine g_met (by decide) (Nat.le_of_ble_eq_true rfl) (fun p e s m below meth c C hr hlocks hnm G ls hl => ?_)
  have hl : lv_has ls 6 [(0, .ref (ad 1 0)), (1, .ref (ad 6 0)), (2, .int a2), (3, .int a3)] := hl
  unfold f_X1_takeAndGoOn at hf
  refine lv_aload_n C.x C.b dX1_takeAndGoOn_0 rfl (lv_at hl 0 rfl) ?_
  refine g_getr C G 1 0 9 17 hT rfl ginX1 (by decide) tw174 dX1_takeAndGoOn_1 (fun hL1 => ?_)
  refine lv_iload_n C.x C.b dX1_takeAndGoOn_4 rfl (lv_at hl 2 rfl) ?_
  obtain ⟨hi2, hf⟩ := g_ok hf
  refine g_iald (n := 24) C G 17 0 hL1 (by decide) rfl hi2 dX1_takeAndGoOn_5 ?_
  refine lv_istore (lv' := [(4, .int (σ 17 0 a2.toNatClampNeg)), (0, .ref (ad 1 0)), (1, .ref (ad 6 0)), (2, .int a2), (3, .int a3)]) C.x C.b dX1_takeAndGoOn_6 hl (by decide) rfl (fun ls hl => ?_)
  refine lv_iconst (v := (1 : Int32)) C.x C.b dX1_takeAndGoOn_8 (by decide) ?_
  refine lv_iload_n C.x C.b dX1_takeAndGoOn_9 rfl (lv_at hl 4 rfl) ?_
  refine lv_ishl C.x C.b dX1_takeAndGoOn_10 ?_
  refine lv_istore (lv' := [(5, .int ((1 : Int32) <<< (a3 &&& 31))), (4, .int (σ 17 0 a2.toNatClampNeg)), (0, .ref (ad 1 0)), (1, .ref (ad 6 0)), (2, .int a2), (3, .int a3)]) C.x C.b dX1_takeAndGoOn_11 hl (by decide) rfl (fun ls hl => ?_)
  refine lv_aload_n C.x C.b dX1_takeAndGoOn_13 rfl (lv_at hl 2 rfl) ?_
  refine g_getr C G 1 0 11 19 hT rfl ginX1 (by decide) tw176 dX1_takeAndGoOn_14 (fun hL3 => ?_)
  refine lv_iload_n C.x C.b dX1_takeAndGoOn_17 rfl (lv_at hl 4 rfl) ?_
  refine lv_iload_n C.x C.b dX1_takeAndGoOn_18 rfl (lv_at hl 5 rfl) ?_
  obtain ⟨hi4, hf⟩ := g_ok hf
  refine g_iast (n := 24) C G 19 0 hL3 (by decide) rfl hi4 dX1_takeAndGoOn_19 (fun H locs G => ?_)
  obtain ⟨σ5, eσ5, hf⟩ := g_lt hf
  rw [← eσ5] at G
  refine lv_aload_n C.x C.b dX1_takeAndGoOn_20 rfl (lv_at hl 2 rfl) ?_
  refine lv_dup C.x C.b dX1_takeAndGoOn_21 rfl ?_
  refine g_geti C G 1 0 8 hT rfl ginX1 (by decide) tw173 dX1_takeAndGoOn_22 ?_
  refine lv_iload C.x C.b dX1_takeAndGoOn_25 (lv_at hl 0 rfl) ?_
  refine lv_ior C.x C.b dX1_takeAndGoOn_27 ?_
  refine g_puti C G 1 0 8 hT (v := ((σ5 1 0 8) ||| ((1 : Int32) <<< (a3 &&& 31)))) rfl ginX1 tyX1_ok nmX1 (by decide) ⟨rfl, rfl⟩ tw173 dX1_takeAndGoOn_28 (fun H locs G => ?_)
  obtain ⟨σ6, eσ6, hf⟩ := g_lt hf
  rw [← eσ6] at G
  refine lv_aload_n C.x C.b dX1_takeAndGoOn_31 rfl (lv_at hl 2 rfl) ?_
  refine g_getr C G 1 0 14 22 hT rfl ginX1 (by decide) tw179 dX1_takeAndGoOn_32 (fun hL7 => ?_)
  refine lv_iload C.x C.b dX1_takeAndGoOn_35 (lv_at hl 1 rfl) ?_
  refine lv_dup2_11 C.x C.b dX1_takeAndGoOn_37 rfl rfl ?_
  obtain ⟨hi8, hf⟩ := g_ok hf
  refine g_iald (n := 8) C G 22 0 hL7 (by decide) rfl hi8 dX1_takeAndGoOn_38 ?_
  refine lv_iload C.x C.b dX1_takeAndGoOn_39 (lv_at hl 0 rfl) ?_
  refine lv_ior C.x C.b dX1_takeAndGoOn_41 ?_
  obtain ⟨hi9, hf⟩ := g_ok hf
  refine g_iast (n := 8) C G 22 0 hL7 (by decide) rfl hi9 dX1_takeAndGoOn_42 (fun H locs G => ?_)
  obtain ⟨σ10, eσ10, hf⟩ := g_lt hf
  rw [← eσ10] at G
  refine lv_aload_n C.x C.b dX1_takeAndGoOn_43 rfl (lv_at hl 2 rfl) ?_
  refine lv_aload_n C.x C.b dX1_takeAndGoOn_44 rfl (lv_at hl 3 rfl) ?_
  refine lv_iload_n C.x C.b dX1_takeAndGoOn_45 rfl (lv_at hl 4 rfl) ?_
  refine lv_iconst (v := (1 : Int32)) C.x C.b dX1_takeAndGoOn_46 (by decide) ?_
  refine lv_iadd C.x C.b dX1_takeAndGoOn_47 ?_
  obtain ⟨σ11, eσ11, hf⟩ := g_b hf
  refine g_callv G (g_runV (As := [.ref (ad 6 0), .int (a2 + (1 : Int32))]) (rest := []) C G 1 0 (hp σ10 hT ha1 (a2 + (1 : Int32)) σ11 eσ11) ⟨tw633, tw57, tw630, ⟨tw632, tw2⟩, hd_X1_place⟩ (by refine ⟨rfl, rfl, ?_, ?_⟩ <;> simp [g_rp, g_rt] <;> omega) hT rfl ⟨rfl, by decide⟩ hl.1 rfl (Nat.le_of_ble_eq_true rfl) dX1_takeAndGoOn_48 ⟨Nat.le_of_ble_eq_true rfl, Nat.le_of_ble_eq_true rfl⟩) (fun H locs G => ?_)
  refine lv_aload_n C.x C.b dX1_takeAndGoOn_51 rfl (lv_at hl 2 rfl) ?_
  refine lv_dup C.x C.b dX1_takeAndGoOn_52 rfl ?_
  refine g_geti C G 1 0 8 hT rfl ginX1 (by decide) tw173 dX1_takeAndGoOn_53 ?_
  refine lv_iload C.x C.b dX1_takeAndGoOn_56 (lv_at hl 0 rfl) ?_
  refine lv_iconst (v := (-1 : Int32)) C.x C.b dX1_takeAndGoOn_58 (by decide) ?_
  refine lv_ixor C.x C.b dX1_takeAndGoOn_59 ?_
  refine lv_iand C.x C.b dX1_takeAndGoOn_60 ?_
  refine g_puti C G 1 0 8 hT (v := ((σ11 1 0 8) &&& (((1 : Int32) <<< (a3 &&& 31)) ^^^ (-1 : Int32)))) rfl ginX1 tyX1_ok nmX1 (by decide) ⟨rfl, rfl⟩ tw173 dX1_takeAndGoOn_61 (fun H locs G => ?_)
  obtain ⟨σ12, eσ12, hf⟩ := g_lt hf
  rw [← eσ12] at G
  refine lv_aload_n C.x C.b dX1_takeAndGoOn_64 rfl (lv_at hl 2 rfl) ?_
  refine g_getr C G 1 0 14 22 hT rfl ginX1 (by decide) tw179 dX1_takeAndGoOn_65 (fun hL13 => ?_)
  refine lv_iload C.x C.b dX1_takeAndGoOn_68 (lv_at hl 1 rfl) ?_
  refine lv_dup2_11 C.x C.b dX1_takeAndGoOn_70 rfl rfl ?_
  obtain ⟨hi14, hf⟩ := g_ok hf
  refine g_iald (n := 8) C G 22 0 hL13 (by decide) rfl hi14 dX1_takeAndGoOn_71 ?_
  refine lv_iload C.x C.b dX1_takeAndGoOn_72 (lv_at hl 0 rfl) ?_
  refine lv_iconst (v := (-1 : Int32)) C.x C.b dX1_takeAndGoOn_74 (by decide) ?_
  refine lv_ixor C.x C.b dX1_takeAndGoOn_75 ?_
  refine lv_iand C.x C.b dX1_takeAndGoOn_76 ?_
  obtain ⟨hi15, hf⟩ := g_ok hf
  refine g_iast (n := 8) C G 22 0 hL13 (by decide) rfl hi15 dX1_takeAndGoOn_77 (fun H locs G => ?_)
  obtain ⟨σ16, eσ16, hf⟩ := g_lt hf
  rw [← eσ16] at G
  exact g_evi C G hr hlocks hf dX1_takeAndGoOn_78
def f_X1_place_P135 (σ : gS) : Option gS := (some σ)
def f_X1_place_L68 (ad : gA) (a2 : Int32) (ft : gS → Int32 → Int32 → Option gS) (K68 : gS → Option gS) : Nat → gS → Int32 → Int32 → Option gS
  | 0, _, _, _ => none
  | n + 1, σ, v3, v6 => (if (σ 6 0 4) ≤ v6 then (K68 σ) else ((f_X1_isOver ad σ).bind fun q8 => (if q8 = 0 then (if (σ 1 0 4) < (20000 : Int32) then (g_let (g_up σ 1 0 4 ((σ 1 0 4) + (1 : Int32))) fun σ9 => ((f_X1_fits ad σ9 v6 v3).bind fun q10 => (if q10 = 0 then (f_X1_place_L68 ad a2 ft K68 n σ9 v3 (v6 + (1 : Int32))) else ((ft σ9 a2 v6).bind fun σ11 => (f_X1_place_L68 ad a2 ft K68 n σ11 v3 (v6 + (1 : Int32))))))) else (g_let (g_up σ 1 0 3 (1 : Int32)) fun σ12 => (some σ12))) else (K68 σ))))
def f_X1_place_P62 (ad : gA) (a2 : Int32) (ft : gS → Int32 → Int32 → Option gS) (σ : gS) (v3 : Int32) (k0 : Int32) : Option gS := (f_X1_place_L68 ad a2 ft (f_X1_place_P135) g_fuel σ v3 k0)
def f_X1_place_P41 (ad : gA) (a2 : Int32) (ft : gS → Int32 → Int32 → Option gS) (σ : gS) (v3 : Int32) (k0 : Int32) : Option gS := (if k0 = 0 then (f_X1_place_P62 ad a2 ft σ v3 (0 : Int32)) else (if g_ix (a2 - (1 : Int32)) 24 then (f_X1_place_P62 ad a2 ft σ v3 ((σ 19 0 ((a2 - (1 : Int32)).toNatClampNeg)) + (1 : Int32))) else none))
def f_X1_place_P40 (ad : gA) (a2 : Int32) (ft : gS → Int32 → Int32 → Option gS) (σ : gS) (v3 : Int32) : Option gS := (f_X1_place_P41 ad a2 ft σ v3 (0 : Int32))
def f_X1_place (ad : gA) (σ : gS) (a2 : Int32) (ft : gS → Int32 → Int32 → Option gS) : Option gS := (if a2 < (σ 1 0 0) then (if g_ix a2 24 then (if a2 ≤ 0 then (f_X1_place_P40 ad a2 ft σ (σ 17 0 a2.toNatClampNeg)) else (if g_ix (a2 - (1 : Int32)) 24 then (if (σ 17 0 ((a2 - (1 : Int32)).toNatClampNeg)) = (σ 17 0 a2.toNatClampNeg) then (f_X1_place_P41 ad a2 ft σ (σ 17 0 a2.toNatClampNeg) (1 : Int32)) else (f_X1_place_P40 ad a2 ft σ (σ 17 0 a2.toNatClampNeg))) else none)) else none) else ((f_X1_tellFound ad σ).bind fun σ5 => (some σ5)))
set_option maxHeartbeats 4000000 in
set_option maxRecDepth 100000 in
theorem c_X1_place (d : Nat) (l : Launch) (D : va_G) (cy : Nat → ClassId) (A : Nat → Prop) (ad : gA) (L : gL) (ft : gS → Int32 → Int32 → Option gS) (ht : ∀ (σ : gS) (hT : (1, 0) ∈ L) (ha1 : (6, 0) ∈ L) (a2 a3 : Int32) (σ0 : gS), ft σ a2 a3 = some σ0 → g_Mv l yX1_takeAndGoOn cX1_takeAndGoOn 6 none (g_rt d) D cy A ad L σ [.ref (ad 1 0), .ref (ad 6 0), .int a2, .int a3] σ0) (σ : gS) (hT : (1, 0) ∈ L) (ha1 : (6, 0) ∈ L) (a2 : Int32) (σ0 : gS) (hf : f_X1_place ad σ a2 ft = some σ0) : g_Mv l yX1_place cX1_place 7 none (g_rp (d + 1)) D cy A ad L σ [.ref (ad 1 0), .ref (ad 6 0), .int a2] σ0 := by
  refine g_met (by decide) (Nat.le_of_ble_eq_true rfl) (fun p e s m below meth c C hr hlocks hnm G ls hl => ?_)
  have hl : lv_has ls 7 [(0, .ref (ad 1 0)), (1, .ref (ad 6 0)), (2, .int a2)] := hl
  have pt135 : ∀ (σ : gS) (H : Heap) (locs : List Loc) (ls : Array Slot), g_H D cy A ad L σ s.heap H locs → lv_has ls 7 [] → f_X1_place_P135 σ = some σ0 → g_Wv p l e (g_rp (d + 1)) s m below meth c H locs 0 0 D cy A ad L [.ref (ad 1 0), .ref (ad 6 0), .int a2] σ0 (F0 m 135 ls []) := by
    intro σ H locs ls G hl hf
    unfold f_X1_place_P135 at hf
    exact g_evi C G hr hlocks hf dX1_place_135
  have lp68 : ∀ n68 : Nat, ∀ (σ : gS) (v3 : Int32) (v6 : Int32) (H : Heap) (locs : List Loc) (ls : Array Slot), g_H D cy A ad L σ s.heap H locs → lv_has ls 7 [(0, .ref (ad 1 0)), (1, .ref (ad 6 0)), (2, .int a2), (3, .int v3), (6, .int v6)] → f_X1_place_L68 ad a2 ft (f_X1_place_P135) n68 σ v3 v6 = some σ0 → g_Wv p l e (g_rp (d + 1)) s m below meth c H locs 0 0 D cy A ad L [.ref (ad 1 0), .ref (ad 6 0), .int a2] σ0 (F0 m 68 ls []) := by
    intro n68
    induction n68 with
    | zero =>
      intro σ v3 v6 H locs ls G hl hf
      rw [f_X1_place_L68] at hf
      cases hf
    | succ n68 ih68 =>
      intro σ v3 v6 H locs ls G hl hf
      rw [f_X1_place_L68] at hf
      refine lv_iload C.x C.b dX1_place_68 (lv_at hl 4 rfl) ?_
      refine lv_aload_n C.x C.b dX1_place_70 rfl (lv_at hl 1 rfl) ?_
      refine g_geti C G 6 0 4 ha1 rfl ginX6 (by decide) tw128 dX1_place_71 ?_
      refine lv_icmp_ge (tgt := 135) C.x C.b dX1_place_74 (by decide) (fun cb => ?_) (fun cb => ?_)
      · have hf := g_t cb hf
        exact pt135 σ _ _ ls G (lv_sub hl [] rfl) hf
      · have hf := g_f cb hf
        refine lv_aload_n C.x C.b dX1_place_77 rfl (lv_at hl 0 rfl) ?_
        obtain ⟨q8, eq8, hf⟩ := g_b hf
        refine g_calli G (g_runV (As := []) (rest := []) C G 1 0 (c_X1_isOver l D cy A ad L σ hT q8 eq8) ⟨tw641, tw57, tw638, ⟨tw640, tw4⟩, hd_X1_isOver⟩ (by refine ⟨rfl, rfl, ?_, ?_⟩ <;> simp [g_rp, g_rt] <;> omega) hT rfl ⟨rfl, by decide⟩ hl.1 rfl (Nat.le_of_ble_eq_true rfl) dX1_place_78 ⟨Nat.le_of_ble_eq_true rfl, Nat.le_of_ble_eq_true rfl⟩) (fun H locs G => ?_)
        refine lv_if_ne (tgt := 135) C.x C.b dX1_place_81 (by decide) (fun cb => ?_) (fun cb => ?_)
        · have hf := g_f cb hf
          exact pt135 σ _ _ ls G (lv_sub hl [] rfl) hf
        · have hf := g_t cb hf
          refine lv_aload_n C.x C.b dX1_place_84 rfl (lv_at hl 0 rfl) ?_
          refine g_geti C G 1 0 4 hT rfl ginX1 (by decide) tw169 dX1_place_85 ?_
          refine lv_sipush (v := (20000 : Int32)) C.x C.b dX1_place_88 (by decide) ?_
          refine lv_icmp_lt (tgt := 100) C.x C.b dX1_place_91 (by decide) (fun cb => ?_) (fun cb => ?_)
          · have hf := g_t cb hf
            refine lv_aload_n C.x C.b dX1_place_100 rfl (lv_at hl 0 rfl) ?_
            refine lv_dup C.x C.b dX1_place_101 rfl ?_
            refine g_geti C G 1 0 4 hT rfl ginX1 (by decide) tw169 dX1_place_102 ?_
            refine lv_iconst (v := (1 : Int32)) C.x C.b dX1_place_105 (by decide) ?_
            refine lv_iadd C.x C.b dX1_place_106 ?_
            refine g_puti C G 1 0 4 hT (v := ((σ 1 0 4) + (1 : Int32))) rfl ginX1 tyX1_ok nmX1 (by decide) ⟨rfl, rfl⟩ tw169 dX1_place_107 (fun H locs G => ?_)
            obtain ⟨σ9, eσ9, hf⟩ := g_lt hf
            rw [← eσ9] at G
            refine lv_aload_n C.x C.b dX1_place_110 rfl (lv_at hl 0 rfl) ?_
            refine lv_aload_n C.x C.b dX1_place_111 rfl (lv_at hl 1 rfl) ?_
            refine lv_iload C.x C.b dX1_place_112 (lv_at hl 4 rfl) ?_
            refine lv_iload_n C.x C.b dX1_place_114 rfl (lv_at hl 3 rfl) ?_
            obtain ⟨q10, eq10, hf⟩ := g_b hf
            refine g_calli G (g_runV (As := [.ref (ad 6 0), .int v6, .int v3]) (rest := []) C G 1 0 (c_X1_fits l D cy A ad L σ9 hT ha1 v6 v3 q10 eq10) ⟨tw645, tw57, tw642, ⟨tw644, tw5⟩, hd_X1_fits⟩ (by refine ⟨rfl, rfl, ?_, ?_⟩ <;> simp [g_rp, g_rt] <;> omega) hT rfl ⟨rfl, by decide⟩ hl.1 rfl (Nat.le_of_ble_eq_true rfl) dX1_place_115 ⟨Nat.le_of_ble_eq_true rfl, Nat.le_of_ble_eq_true rfl⟩) (fun H locs G => ?_)
            refine lv_if_eq (tgt := 129) C.x C.b dX1_place_118 (by decide) (fun cb => ?_) (fun cb => ?_)
            · have hf := g_t cb hf
              refine lv_iinc (v := (v6 + (1 : Int32))) (lv' := [(6, .int (v6 + (1 : Int32))), (0, .ref (ad 1 0)), (1, .ref (ad 6 0)), (2, .int a2), (3, .int v3)]) C.x C.b dX1_place_129 hl (k := 4) rfl rfl (by decide) rfl (fun ls hl => ?_)
              refine lv_goto (tgt := 68) C.x C.b dX1_place_132 (by decide) ?_
              exact ih68 σ9 v3 (v6 + (1 : Int32)) _ _ ls G (lv_sub hl [1, 2, 3, 4, 0] rfl) hf
            · have hf := g_f cb hf
              refine lv_aload_n C.x C.b dX1_place_121 rfl (lv_at hl 0 rfl) ?_
              refine lv_aload_n C.x C.b dX1_place_122 rfl (lv_at hl 1 rfl) ?_
              refine lv_iload_n C.x C.b dX1_place_123 rfl (lv_at hl 2 rfl) ?_
              refine lv_iload C.x C.b dX1_place_124 (lv_at hl 4 rfl) ?_
              obtain ⟨σ11, eσ11, hf⟩ := g_b hf
              refine g_callv G (g_runV (As := [.ref (ad 6 0), .int a2, .int v6]) (rest := []) C G 1 0 (ht σ9 hT ha1 a2 v6 σ11 eσ11) ⟨tw649, tw57, tw646, ⟨tw648, tw6⟩, hd_X1_takeAndGoOn⟩ (by refine ⟨rfl, rfl, ?_, ?_⟩ <;> simp [g_rp, g_rt] <;> omega) hT rfl ⟨rfl, by decide⟩ hl.1 rfl (Nat.le_of_ble_eq_true rfl) dX1_place_126 ⟨Nat.le_of_ble_eq_true rfl, Nat.le_of_ble_eq_true rfl⟩) (fun H locs G => ?_)
              refine lv_iinc (v := (v6 + (1 : Int32))) (lv' := [(6, .int (v6 + (1 : Int32))), (0, .ref (ad 1 0)), (1, .ref (ad 6 0)), (2, .int a2), (3, .int v3)]) C.x C.b dX1_place_129 hl (k := 4) rfl rfl (by decide) rfl (fun ls hl => ?_)
              refine lv_goto (tgt := 68) C.x C.b dX1_place_132 (by decide) ?_
              exact ih68 σ11 v3 (v6 + (1 : Int32)) _ _ ls G (lv_sub hl [1, 2, 3, 4, 0] rfl) hf
          · have hf := g_f cb hf
            refine lv_aload_n C.x C.b dX1_place_94 rfl (lv_at hl 0 rfl) ?_
            refine lv_iconst (v := (1 : Int32)) C.x C.b dX1_place_95 (by decide) ?_
            refine g_puti C G 1 0 3 hT (v := (1 : Int32)) rfl ginX1 tyX1_ok nmX1 (by decide) ⟨rfl, rfl⟩ tw167 dX1_place_96 (fun H locs G => ?_)
            obtain ⟨σ12, eσ12, hf⟩ := g_lt hf
            rw [← eσ12] at G
            exact g_evi C G hr hlocks hf dX1_place_99
  have pt62 : ∀ (σ : gS) (v3 : Int32) (k0 : Int32) (H : Heap) (locs : List Loc) (ls : Array Slot), g_H D cy A ad L σ s.heap H locs → lv_has ls 7 [(0, .ref (ad 1 0)), (1, .ref (ad 6 0)), (2, .int a2), (3, .int v3)] → f_X1_place_P62 ad a2 ft σ v3 k0 = some σ0 → g_Wv p l e (g_rp (d + 1)) s m below meth c H locs 0 0 D cy A ad L [.ref (ad 1 0), .ref (ad 6 0), .int a2] σ0 (F0 m 62 ls [.int k0]) := by
    intro σ v3 k0 H locs ls G hl hf
    unfold f_X1_place_P62 at hf
    refine lv_istore (lv' := [(5, .int k0), (0, .ref (ad 1 0)), (1, .ref (ad 6 0)), (2, .int a2), (3, .int v3)]) C.x C.b dX1_place_62 hl (by decide) rfl (fun ls hl => ?_)
    refine lv_iload C.x C.b dX1_place_64 (lv_at hl 0 rfl) ?_
    refine lv_istore (lv' := [(6, .int k0), (5, .int k0), (0, .ref (ad 1 0)), (1, .ref (ad 6 0)), (2, .int a2), (3, .int v3)]) C.x C.b dX1_place_66 hl (by decide) rfl (fun ls hl => ?_)
    exact lp68 g_fuel σ v3 k0 _ _ ls G (lv_sub hl [2, 3, 4, 5, 0] rfl) hf
  have pt41 : ∀ (σ : gS) (v3 : Int32) (k0 : Int32) (H : Heap) (locs : List Loc) (ls : Array Slot), g_H D cy A ad L σ s.heap H locs → lv_has ls 7 [(0, .ref (ad 1 0)), (1, .ref (ad 6 0)), (2, .int a2), (3, .int v3)] → f_X1_place_P41 ad a2 ft σ v3 k0 = some σ0 → g_Wv p l e (g_rp (d + 1)) s m below meth c H locs 0 0 D cy A ad L [.ref (ad 1 0), .ref (ad 6 0), .int a2] σ0 (F0 m 41 ls [.int k0]) := by
    intro σ v3 k0 H locs ls G hl hf
    unfold f_X1_place_P41 at hf
    refine lv_istore (lv' := [(4, .int k0), (0, .ref (ad 1 0)), (1, .ref (ad 6 0)), (2, .int a2), (3, .int v3)]) C.x C.b dX1_place_41 hl (by decide) rfl (fun ls hl => ?_)
    refine lv_iload C.x C.b dX1_place_43 (lv_at hl 0 rfl) ?_
    refine lv_if_eq (tgt := 61) C.x C.b dX1_place_45 (by decide) (fun cb => ?_) (fun cb => ?_)
    · have hf := g_t cb hf
      refine lv_iconst (v := (0 : Int32)) C.x C.b dX1_place_61 (by decide) ?_
      exact pt62 σ v3 (0 : Int32) _ _ ls G (lv_sub hl [1, 2, 3, 4] rfl) hf
    · have hf := g_f cb hf
      refine lv_aload_n C.x C.b dX1_place_48 rfl (lv_at hl 1 rfl) ?_
      refine g_getr C G 1 0 11 19 hT rfl ginX1 (by decide) tw176 dX1_place_49 (fun hL6 => ?_)
      refine lv_iload_n C.x C.b dX1_place_52 rfl (lv_at hl 3 rfl) ?_
      refine lv_iconst (v := (1 : Int32)) C.x C.b dX1_place_53 (by decide) ?_
      refine lv_isub C.x C.b dX1_place_54 ?_
      obtain ⟨hi7, hf⟩ := g_ok hf
      refine g_iald (n := 24) C G 19 0 hL6 (by decide) rfl hi7 dX1_place_55 ?_
      refine lv_iconst (v := (1 : Int32)) C.x C.b dX1_place_56 (by decide) ?_
      refine lv_iadd C.x C.b dX1_place_57 ?_
      refine lv_goto (tgt := 62) C.x C.b dX1_place_58 (by decide) ?_
      exact pt62 σ v3 ((σ 19 0 ((a2 - (1 : Int32)).toNatClampNeg)) + (1 : Int32)) _ _ ls G (lv_sub hl [1, 2, 3, 4] rfl) hf
  have pt40 : ∀ (σ : gS) (v3 : Int32) (H : Heap) (locs : List Loc) (ls : Array Slot), g_H D cy A ad L σ s.heap H locs → lv_has ls 7 [(0, .ref (ad 1 0)), (1, .ref (ad 6 0)), (2, .int a2), (3, .int v3)] → f_X1_place_P40 ad a2 ft σ v3 = some σ0 → g_Wv p l e (g_rp (d + 1)) s m below meth c H locs 0 0 D cy A ad L [.ref (ad 1 0), .ref (ad 6 0), .int a2] σ0 (F0 m 40 ls []) := by
    intro σ v3 H locs ls G hl hf
    unfold f_X1_place_P40 at hf
    refine lv_iconst (v := (0 : Int32)) C.x C.b dX1_place_40 (by decide) ?_
    exact pt41 σ v3 (0 : Int32) _ _ ls G (lv_sub hl [0, 1, 2, 3] rfl) hf
  unfold f_X1_place at hf
  refine lv_iload_n C.x C.b dX1_place_0 rfl (lv_at hl 2 rfl) ?_
  refine lv_aload_n C.x C.b dX1_place_1 rfl (lv_at hl 0 rfl) ?_
  refine g_geti C G 1 0 0 hT rfl ginX1 (by decide) tw161 dX1_place_2 ?_
  refine lv_icmp_lt (tgt := 13) C.x C.b dX1_place_5 (by decide) (fun cb => ?_) (fun cb => ?_)
  · have hf := g_t cb hf
    refine lv_aload_n C.x C.b dX1_place_13 rfl (lv_at hl 0 rfl) ?_
    refine g_getr C G 1 0 9 17 hT rfl ginX1 (by decide) tw174 dX1_place_14 (fun hL1 => ?_)
    refine lv_iload_n C.x C.b dX1_place_17 rfl (lv_at hl 2 rfl) ?_
    obtain ⟨hi2, hf⟩ := g_ok hf
    refine g_iald (n := 24) C G 17 0 hL1 (by decide) rfl hi2 dX1_place_18 ?_
    refine lv_istore_n (lv' := [(3, .int (σ 17 0 a2.toNatClampNeg)), (0, .ref (ad 1 0)), (1, .ref (ad 6 0)), (2, .int a2)]) C.x C.b dX1_place_19 rfl hl (by decide) rfl (fun ls hl => ?_)
    refine lv_iload_n C.x C.b dX1_place_20 rfl (lv_at hl 3 rfl) ?_
    refine lv_if_le (tgt := 40) C.x C.b dX1_place_21 (by decide) (fun cb => ?_) (fun cb => ?_)
    · have hf := g_t cb hf
      exact pt40 σ (σ 17 0 a2.toNatClampNeg) _ _ ls G (lv_sub hl [1, 2, 3, 0] rfl) hf
    · have hf := g_f cb hf
      refine lv_aload_n C.x C.b dX1_place_24 rfl (lv_at hl 1 rfl) ?_
      refine g_getr C G 1 0 9 17 hT rfl ginX1 (by decide) tw174 dX1_place_25 (fun hL3 => ?_)
      refine lv_iload_n C.x C.b dX1_place_28 rfl (lv_at hl 3 rfl) ?_
      refine lv_iconst (v := (1 : Int32)) C.x C.b dX1_place_29 (by decide) ?_
      refine lv_isub C.x C.b dX1_place_30 ?_
      obtain ⟨hi4, hf⟩ := g_ok hf
      refine g_iald (n := 24) C G 17 0 hL3 (by decide) rfl hi4 dX1_place_31 ?_
      refine lv_iload_n C.x C.b dX1_place_32 rfl (lv_at hl 0 rfl) ?_
      refine lv_icmp_ne (tgt := 40) C.x C.b dX1_place_33 (by decide) (fun cb => ?_) (fun cb => ?_)
      · have hf := g_f cb hf
        exact pt40 σ (σ 17 0 a2.toNatClampNeg) _ _ ls G (lv_sub hl [1, 2, 3, 0] rfl) hf
      · have hf := g_t cb hf
        refine lv_iconst (v := (1 : Int32)) C.x C.b dX1_place_36 (by decide) ?_
        refine lv_goto (tgt := 41) C.x C.b dX1_place_37 (by decide) ?_
        exact pt41 σ (σ 17 0 a2.toNatClampNeg) (1 : Int32) _ _ ls G (lv_sub hl [1, 2, 3, 0] rfl) hf
  · have hf := g_f cb hf
    refine lv_aload_n C.x C.b dX1_place_8 rfl (lv_at hl 0 rfl) ?_
    obtain ⟨σ5, eσ5, hf⟩ := g_b hf
    refine g_callv G (g_runV (As := []) (rest := []) C G 1 0 (c_X1_tellFound l D cy A ad L σ hT σ5 eσ5) ⟨tw637, tw57, tw634, ⟨tw636, tw3⟩, hd_X1_tellFound⟩ (by refine ⟨rfl, rfl, ?_, ?_⟩ <;> simp [g_rp, g_rt] <;> omega) hT rfl ⟨rfl, by decide⟩ hl.1 rfl (Nat.le_of_ble_eq_true rfl) dX1_place_9 ⟨Nat.le_of_ble_eq_true rfl, Nat.le_of_ble_eq_true rfl⟩) (fun H locs G => ?_)
    exact g_evi C G hr hlocks hf dX1_place_12
def f_X1_placeD (ad : gA) : Nat → gS → Int32 → Option gS
  | 0, _, _ => none
  | d + 1, σ, a2 => f_X1_place ad σ a2 (fun σ a2 a3 => f_X1_takeAndGoOn ad σ a2 a3 (f_X1_placeD ad d))
theorem c_X1_placeD (d : Nat) (l : Launch) (D : va_G) (cy : Nat → ClassId) (A : Nat → Prop) (ad : gA) (L : gL) : ∀ (σ : gS) (hT : (1, 0) ∈ L) (ha1 : (6, 0) ∈ L) (a2 : Int32) (σ0 : gS), f_X1_placeD ad d σ a2 = some σ0 → g_Mv l yX1_place cX1_place 7 none (g_rp d) D cy A ad L σ [.ref (ad 1 0), .ref (ad 6 0), .int a2] σ0 := by
  induction d with
  | zero =>
    intro σ hT ha1 a2 σ0 hf
    rw [f_X1_placeD] at hf
    cases hf
  | succ d ih =>
    intro σ hT ha1 a2 σ0 hf
    rw [f_X1_placeD] at hf
    exact c_X1_place d l D cy A ad L _ (fun σ hT ha1 a2 a3 σ0 h => c_X1_takeAndGoOn d l D cy A ad L _ ih σ hT ha1 a2 a3 σ0 h) σ hT ha1 a2 σ0 hf
def f_X1_search_P115 (ad : gA) (σ : gS) : Option gS := ((f_X1_placeD ad 26 σ (0 : Int32)).bind fun σ26 => (some σ26))
def f_X1_search_L50 (ad : gA) (a2 : Int32) (K50 : gS → Option gS) : Nat → gS → Int32 → Option gS
  | 0, _, _ => none
  | n + 1, σ, v6 => (if (σ 6 0 3) ≤ v6 then (K50 σ) else (if g_ix v6 8 then (g_let (g_up σ 22 0 v6.toNatClampNeg (0 : Int32)) fun σ12 => (if g_ix v6 8 then (if σ12 25 0 v6.toNatClampNeg < 0 then none else ((f_X1_addSlots ad σ12 v6.toNatClampNeg v6 a2).bind fun σ17 => ((f_X6_kinLawBinds ad σ17 v6 a2).bind fun q19 => (if g_ix v6 8 then (g_let (g_up σ17 21 0 v6.toNatClampNeg (vp_nar .boolean q19)) fun σ21 => ((f_X1_ableIn ad σ21 v6 a2).bind fun q23 => (if g_ix v6 8 then (g_let (g_up q23.2 20 0 v6.toNatClampNeg q23.1) fun σ25 => (f_X1_search_L50 ad a2 K50 n σ25 (v6 + (1 : Int32)))) else none))) else none)))) else none)) else none))
def f_X1_search (ad : gA) (σ : gS) (a2 : Int32) (a3 : Int32) (a4 : Int32) (a5 : Int32) : Option gS := (g_let (g_up σ 1 0 6 a3) fun σ1 => (g_let (g_up σ1 1 0 7 a4) fun σ2 => (if g_bo a5 then (g_let (g_up σ2 1 0 5 a5) fun σ3 => (g_let (g_up σ3 1 0 1 (0 : Int32)) fun σ4 => (g_let (g_up σ4 1 0 2 (0 : Int32)) fun σ5 => (g_let (g_up σ5 1 0 4 (0 : Int32)) fun σ6 => (g_let (g_up σ6 1 0 3 (0 : Int32)) fun σ7 => (g_let (g_up σ7 1 0 8 (0 : Int32)) fun σ8 => (g_let (g_up σ8 1 0 0 (0 : Int32)) fun σ9 => (f_X1_search_L50 ad a2 (f_X1_search_P115 ad) g_fuel σ9 (0 : Int32))))))))) else none)))
theorem hd_X1_search : yX1_search.cls ≠ "java/lang/invoke/MethodHandle" ∧ yX1_search.cls ≠ "java/lang/invoke/VarHandle" ∧ (parseMethodDescriptor yX1_search.desc).map (fun d => d.parameters.length) = some 5 := by decide +kernel
set_option maxHeartbeats 4000000 in
set_option maxRecDepth 100000 in
theorem c_X1_search (l : Launch) (D : va_G) (cy : Nat → ClassId) (A : Nat → Prop) (ad : gA) (L : gL)  (σ : gS) (hT : (1, 0) ∈ L) (ha1 : (6, 0) ∈ L) (a2 : Int32) (a3 : Int32) (a4 : Int32) (a5 : Int32) (σ0 : gS) (hf : f_X1_search ad σ a2 a3 a4 a5 = some σ0) : g_Mv l yX1_search cX1_search 7 none ({ frames := 82, cells := 0, slots := 0, locals := 2726 } : Room) D cy A ad L σ [.ref (ad 1 0), .ref (ad 6 0), .int a2, .int a3, .int a4, .int a5] σ0 := by
  refine g_met (by decide) (Nat.le_of_ble_eq_true rfl) (fun p e s m below meth c C hr hlocks hnm G ls hl => ?_)
  have hl : lv_has ls 7 [(0, .ref (ad 1 0)), (1, .ref (ad 6 0)), (2, .int a2), (3, .int a3), (4, .int a4), (5, .int a5)] := hl
  have pt115 : ∀ (σ : gS) (H : Heap) (locs : List Loc) (ls : Array Slot), g_H D cy A ad L σ s.heap H locs → lv_has ls 7 [(0, .ref (ad 1 0)), (1, .ref (ad 6 0))] → f_X1_search_P115 ad σ = some σ0 → g_Wv p l e ({ frames := 82, cells := 0, slots := 0, locals := 2726 } : Room) s m below meth c H locs 0 0 D cy A ad L [.ref (ad 1 0), .ref (ad 6 0), .int a2, .int a3, .int a4, .int a5] σ0 (F0 m 115 ls []) := by
    intro σ H locs ls G hl hf
    unfold f_X1_search_P115 at hf
    refine lv_aload_n C.x C.b dX1_search_115 rfl (lv_at hl 0 rfl) ?_
    refine lv_aload_n C.x C.b dX1_search_116 rfl (lv_at hl 1 rfl) ?_
    refine lv_iconst (v := (0 : Int32)) C.x C.b dX1_search_117 (by decide) ?_
    obtain ⟨σ26, eσ26, hf⟩ := g_b hf
    refine g_callv G (g_runV (As := [.ref (ad 6 0), .int (0 : Int32)]) (rest := []) C G 1 0 (c_X1_placeD 26 l D cy A ad L σ hT ha1 (0 : Int32) σ26 eσ26) ⟨tw633, tw57, tw630, ⟨tw632, tw2⟩, hd_X1_place⟩ (by decide) hT rfl ⟨rfl, by decide⟩ hl.1 rfl (Nat.le_of_ble_eq_true rfl) dX1_search_118 ⟨Nat.le_of_ble_eq_true rfl, Nat.le_of_ble_eq_true rfl⟩) (fun H locs G => ?_)
    exact g_evi C G hr hlocks hf dX1_search_121
  have lp50 : ∀ n50 : Nat, ∀ (σ : gS) (v6 : Int32) (H : Heap) (locs : List Loc) (ls : Array Slot), g_H D cy A ad L σ s.heap H locs → lv_has ls 7 [(0, .ref (ad 1 0)), (1, .ref (ad 6 0)), (2, .int a2), (6, .int v6)] → f_X1_search_L50 ad a2 (f_X1_search_P115 ad) n50 σ v6 = some σ0 → g_Wv p l e ({ frames := 82, cells := 0, slots := 0, locals := 2726 } : Room) s m below meth c H locs 0 0 D cy A ad L [.ref (ad 1 0), .ref (ad 6 0), .int a2, .int a3, .int a4, .int a5] σ0 (F0 m 50 ls []) := by
    intro n50
    induction n50 with
    | zero =>
      intro σ v6 H locs ls G hl hf
      rw [f_X1_search_L50] at hf
      cases hf
    | succ n50 ih50 =>
      intro σ v6 H locs ls G hl hf
      rw [f_X1_search_L50] at hf
      refine lv_iload C.x C.b dX1_search_50 (lv_at hl 3 rfl) ?_
      refine lv_aload_n C.x C.b dX1_search_52 rfl (lv_at hl 1 rfl) ?_
      refine g_geti C G 6 0 3 ha1 rfl ginX6 (by decide) tw125 dX1_search_53 ?_
      refine lv_icmp_ge (tgt := 115) C.x C.b dX1_search_56 (by decide) (fun cb => ?_) (fun cb => ?_)
      · have hf := g_t cb hf
        exact pt115 σ _ _ ls G (lv_sub hl [0, 1] rfl) hf
      · have hf := g_f cb hf
        refine lv_aload_n C.x C.b dX1_search_59 rfl (lv_at hl 0 rfl) ?_
        refine g_getr C G 1 0 14 22 hT rfl ginX1 (by decide) tw179 dX1_search_60 (fun hL10 => ?_)
        refine lv_iload C.x C.b dX1_search_63 (lv_at hl 3 rfl) ?_
        refine lv_iconst (v := (0 : Int32)) C.x C.b dX1_search_65 (by decide) ?_
        obtain ⟨hi11, hf⟩ := g_ok hf
        refine g_iast (n := 8) C G 22 0 hL10 (by decide) rfl hi11 dX1_search_66 (fun H locs G => ?_)
        obtain ⟨σ12, eσ12, hf⟩ := g_lt hf
        rw [← eσ12] at G
        refine lv_aload_n C.x C.b dX1_search_67 rfl (lv_at hl 0 rfl) ?_
        refine lv_aload_n C.x C.b dX1_search_68 rfl (lv_at hl 1 rfl) ?_
        refine g_getr C G 6 0 0 25 ha1 rfl ginX6 (by decide) tw116 dX1_search_69 (fun hL13 => ?_)
        refine lv_iload C.x C.b dX1_search_72 (lv_at hl 3 rfl) ?_
        obtain ⟨hi14, hf⟩ := g_ok hf
        obtain ⟨hq15, hf⟩ := g_okn hf
        refine g_aldq (n := 8) C G 25 0 3 hL13 (by decide) rfl rfl hi14 hq15 dX1_search_74 (fun hL16 => ?_)
        refine lv_iload C.x C.b dX1_search_75 (lv_at hl 3 rfl) ?_
        refine lv_iload_n C.x C.b dX1_search_77 rfl (lv_at hl 2 rfl) ?_
        obtain ⟨σ17, eσ17, hf⟩ := g_b hf
        refine g_callv G (g_runV (As := [.ref (ad 3 v6.toNatClampNeg), .int v6, .int a2]) (rest := []) C G 1 0 (c_X1_addSlots l D cy A ad L σ12 hT v6.toNatClampNeg hL16 v6 a2 σ17 eσ17) ⟨tw619, tw57, tw616, ⟨tw618, tw1⟩, hd_X1_addSlots⟩ (by decide) hT rfl ⟨rfl, by decide⟩ hl.1 rfl (Nat.le_of_ble_eq_true rfl) dX1_search_78 ⟨Nat.le_of_ble_eq_true rfl, Nat.le_of_ble_eq_true rfl⟩) (fun H locs G => ?_)
        refine lv_aload_n C.x C.b dX1_search_81 rfl (lv_at hl 0 rfl) ?_
        refine g_getr C G 1 0 13 21 hT rfl ginX1 (by decide) tw178 dX1_search_82 (fun hL18 => ?_)
        refine lv_iload C.x C.b dX1_search_85 (lv_at hl 3 rfl) ?_
        refine lv_aload_n C.x C.b dX1_search_87 rfl (lv_at hl 1 rfl) ?_
        refine lv_iload C.x C.b dX1_search_88 (lv_at hl 3 rfl) ?_
        refine lv_iload_n C.x C.b dX1_search_90 rfl (lv_at hl 2 rfl) ?_
        obtain ⟨q19, eq19, hf⟩ := g_b hf
        refine g_calli G (g_runV (As := [.int v6, .int a2]) (rest := [.int v6, .ref (ad 21 0)]) C G 6 0 (c_X6_kinLawBinds l D cy A ad L σ17 ha1 v6 a2 q19 eq19) ⟨tw624, tw55, tw621, ⟨tw622, tw623⟩, hd_X6_kinLawBinds⟩ (by decide) ha1 rfl ⟨rfl, by decide⟩ hl.1 rfl (Nat.le_of_ble_eq_true rfl) dX1_search_91 ⟨Nat.le_of_ble_eq_true rfl, Nat.le_of_ble_eq_true rfl⟩) (fun H locs G => ?_)
        obtain ⟨hi20, hf⟩ := g_ok hf
        refine g_zast (n := 8) C G 21 0 hL18 (by decide) rfl hi20 dX1_search_94 (fun H locs G => ?_)
        obtain ⟨σ21, eσ21, hf⟩ := g_lt hf
        rw [← eσ21] at G
        refine lv_aload_n C.x C.b dX1_search_95 rfl (lv_at hl 0 rfl) ?_
        refine g_getr C G 1 0 12 20 hT rfl ginX1 (by decide) tw177 dX1_search_96 (fun hL22 => ?_)
        refine lv_iload C.x C.b dX1_search_99 (lv_at hl 3 rfl) ?_
        refine lv_aload_n C.x C.b dX1_search_101 rfl (lv_at hl 1 rfl) ?_
        refine lv_iload C.x C.b dX1_search_102 (lv_at hl 3 rfl) ?_
        refine lv_iload_n C.x C.b dX1_search_104 rfl (lv_at hl 2 rfl) ?_
        obtain ⟨q23, eq23, hf⟩ := g_b hf
        refine g_calli G (g_runS (As := [.ref (ad 6 0), .int v6, .int a2]) (rest := [.int v6, .ref (ad 20 0)]) C G (c_X1_ableIn l D cy A ad L σ21 ha1 v6 a2 q23.1 q23.2 eq23) ⟨tw627, tw57, tw625, tw626, hd_X1_ableIn⟩ (by decide) hl.1 rfl (Nat.le_of_ble_eq_true rfl) dX1_search_105 ⟨Nat.le_of_ble_eq_true rfl, Nat.le_of_ble_eq_true rfl⟩) (fun H locs G => ?_)
        obtain ⟨hi24, hf⟩ := g_ok hf
        refine g_iast (n := 8) C G 20 0 hL22 (by decide) rfl hi24 dX1_search_108 (fun H locs G => ?_)
        obtain ⟨σ25, eσ25, hf⟩ := g_lt hf
        rw [← eσ25] at G
        refine lv_iinc (v := (v6 + (1 : Int32))) (lv' := [(6, .int (v6 + (1 : Int32))), (0, .ref (ad 1 0)), (1, .ref (ad 6 0)), (2, .int a2)]) C.x C.b dX1_search_109 hl (k := 3) rfl rfl (by decide) rfl (fun ls hl => ?_)
        refine lv_goto (tgt := 50) C.x C.b dX1_search_112 (by decide) ?_
        exact ih50 σ25 (v6 + (1 : Int32)) _ _ ls G (lv_sub hl [1, 2, 3, 0] rfl) hf
  unfold f_X1_search at hf
  refine lv_aload_n C.x C.b dX1_search_0 rfl (lv_at hl 0 rfl) ?_
  refine lv_iload_n C.x C.b dX1_search_1 rfl (lv_at hl 3 rfl) ?_
  refine g_puti C G 1 0 6 hT (v := a3) rfl ginX1 tyX1_ok nmX1 (by decide) ⟨rfl, rfl⟩ tw171 dX1_search_2 (fun H locs G => ?_)
  obtain ⟨σ1, eσ1, hf⟩ := g_lt hf
  rw [← eσ1] at G
  refine lv_aload_n C.x C.b dX1_search_5 rfl (lv_at hl 0 rfl) ?_
  refine lv_iload C.x C.b dX1_search_6 (lv_at hl 4 rfl) ?_
  refine g_puti C G 1 0 7 hT (v := a4) rfl ginX1 tyX1_ok nmX1 (by decide) ⟨rfl, rfl⟩ tw172 dX1_search_8 (fun H locs G => ?_)
  obtain ⟨σ2, eσ2, hf⟩ := g_lt hf
  rw [← eσ2] at G
  refine lv_aload_n C.x C.b dX1_search_11 rfl (lv_at hl 0 rfl) ?_
  refine lv_iload C.x C.b dX1_search_12 (lv_at hl 5 rfl) ?_
  obtain ⟨hbo, hf⟩ := g_ok hf
  refine g_puti C G 1 0 5 hT (v := a5) rfl ginX1 tyX1_ok nmX1 (by decide) (g_bo_fit hbo) tw170 dX1_search_14 (fun H locs G => ?_)
  obtain ⟨σ3, eσ3, hf⟩ := g_lt hf
  rw [← eσ3] at G
  refine lv_aload_n C.x C.b dX1_search_17 rfl (lv_at hl 0 rfl) ?_
  refine lv_iconst (v := (0 : Int32)) C.x C.b dX1_search_18 (by decide) ?_
  refine g_puti C G 1 0 1 hT (v := (0 : Int32)) rfl ginX1 tyX1_ok nmX1 (by decide) ⟨rfl, rfl⟩ tw163 dX1_search_19 (fun H locs G => ?_)
  obtain ⟨σ4, eσ4, hf⟩ := g_lt hf
  rw [← eσ4] at G
  refine lv_aload_n C.x C.b dX1_search_22 rfl (lv_at hl 0 rfl) ?_
  refine lv_iconst (v := (0 : Int32)) C.x C.b dX1_search_23 (by decide) ?_
  refine g_puti C G 1 0 2 hT (v := (0 : Int32)) rfl ginX1 tyX1_ok nmX1 (by decide) ⟨rfl, rfl⟩ tw165 dX1_search_24 (fun H locs G => ?_)
  obtain ⟨σ5, eσ5, hf⟩ := g_lt hf
  rw [← eσ5] at G
  refine lv_aload_n C.x C.b dX1_search_27 rfl (lv_at hl 0 rfl) ?_
  refine lv_iconst (v := (0 : Int32)) C.x C.b dX1_search_28 (by decide) ?_
  refine g_puti C G 1 0 4 hT (v := (0 : Int32)) rfl ginX1 tyX1_ok nmX1 (by decide) ⟨rfl, rfl⟩ tw169 dX1_search_29 (fun H locs G => ?_)
  obtain ⟨σ6, eσ6, hf⟩ := g_lt hf
  rw [← eσ6] at G
  refine lv_aload_n C.x C.b dX1_search_32 rfl (lv_at hl 0 rfl) ?_
  refine lv_iconst (v := (0 : Int32)) C.x C.b dX1_search_33 (by decide) ?_
  refine g_puti C G 1 0 3 hT (v := (0 : Int32)) rfl ginX1 tyX1_ok nmX1 (by decide) ⟨rfl, rfl⟩ tw167 dX1_search_34 (fun H locs G => ?_)
  obtain ⟨σ7, eσ7, hf⟩ := g_lt hf
  rw [← eσ7] at G
  refine lv_aload_n C.x C.b dX1_search_37 rfl (lv_at hl 0 rfl) ?_
  refine lv_iconst (v := (0 : Int32)) C.x C.b dX1_search_38 (by decide) ?_
  refine g_puti C G 1 0 8 hT (v := (0 : Int32)) rfl ginX1 tyX1_ok nmX1 (by decide) ⟨rfl, rfl⟩ tw173 dX1_search_39 (fun H locs G => ?_)
  obtain ⟨σ8, eσ8, hf⟩ := g_lt hf
  rw [← eσ8] at G
  refine lv_aload_n C.x C.b dX1_search_42 rfl (lv_at hl 0 rfl) ?_
  refine lv_iconst (v := (0 : Int32)) C.x C.b dX1_search_43 (by decide) ?_
  refine g_puti C G 1 0 0 hT (v := (0 : Int32)) rfl ginX1 tyX1_ok nmX1 (by decide) ⟨rfl, rfl⟩ tw161 dX1_search_44 (fun H locs G => ?_)
  obtain ⟨σ9, eσ9, hf⟩ := g_lt hf
  rw [← eσ9] at G
  refine lv_iconst (v := (0 : Int32)) C.x C.b dX1_search_47 (by decide) ?_
  refine lv_istore (lv' := [(6, .int (0 : Int32)), (0, .ref (ad 1 0)), (1, .ref (ad 6 0)), (2, .int a2), (3, .int a3), (4, .int a4), (5, .int a5)]) C.x C.b dX1_search_48 hl (by decide) rfl (fun ls hl => ?_)
  exact lp50 g_fuel σ9 (0 : Int32) _ _ ls G (lv_sub hl [1, 2, 3, 0] rfl) hf
def f_X1_putIn_P39 (σ : gS) : Option gS := (some σ)
def f_X1_putIn_L2 (ad : gA) (a2 : Int32) (K2 : gS → Option gS) : Nat → gS → Int32 → Option gS
  | 0, _, _ => none
  | n + 1, σ, v3 => (if (σ 1 0 0) ≤ v3 then (K2 σ) else (if g_ix v3 24 then (if g_ix v3 24 then (if g_ix v3 24 then ((f_X6_put ad σ (σ 19 0 v3.toNatClampNeg) (σ 17 0 v3.toNatClampNeg) a2 (σ 18 0 v3.toNatClampNeg)).bind fun σ7 => (f_X1_putIn_L2 ad a2 K2 n σ7 (v3 + (1 : Int32)))) else none) else none) else none))
def f_X1_putIn (ad : gA) (σ : gS) (a2 : Int32) : Option gS := (f_X1_putIn_L2 ad a2 (f_X1_putIn_P39) g_fuel σ (0 : Int32))
theorem hd_X1_putIn : yX1_putIn.cls ≠ "java/lang/invoke/MethodHandle" ∧ yX1_putIn.cls ≠ "java/lang/invoke/VarHandle" ∧ (parseMethodDescriptor yX1_putIn.desc).map (fun d => d.parameters.length) = some 2 := by decide +kernel
set_option maxHeartbeats 4000000 in
set_option maxRecDepth 100000 in
theorem c_X1_putIn (l : Launch) (D : va_G) (cy : Nat → ClassId) (A : Nat → Prop) (ad : gA) (L : gL)  (σ : gS) (hT : (1, 0) ∈ L) (ha1 : (6, 0) ∈ L) (a2 : Int32) (σ0 : gS) (hf : f_X1_putIn ad σ a2 = some σ0) : g_Mv l yX1_putIn cX1_putIn 4 none ({ frames := 2, cells := 0, slots := 0, locals := 47 } : Room) D cy A ad L σ [.ref (ad 1 0), .ref (ad 6 0), .int a2] σ0 := by
  refine g_met (by decide) (Nat.le_of_ble_eq_true rfl) (fun p e s m below meth c C hr hlocks hnm G ls hl => ?_)
  have hl : lv_has ls 4 [(0, .ref (ad 1 0)), (1, .ref (ad 6 0)), (2, .int a2)] := hl
  have pt39 : ∀ (σ : gS) (H : Heap) (locs : List Loc) (ls : Array Slot), g_H D cy A ad L σ s.heap H locs → lv_has ls 4 [] → f_X1_putIn_P39 σ = some σ0 → g_Wv p l e ({ frames := 2, cells := 0, slots := 0, locals := 47 } : Room) s m below meth c H locs 0 0 D cy A ad L [.ref (ad 1 0), .ref (ad 6 0), .int a2] σ0 (F0 m 39 ls []) := by
    intro σ H locs ls G hl hf
    unfold f_X1_putIn_P39 at hf
    exact g_evi C G hr hlocks hf dX1_putIn_39
  have lp2 : ∀ n2 : Nat, ∀ (σ : gS) (v3 : Int32) (H : Heap) (locs : List Loc) (ls : Array Slot), g_H D cy A ad L σ s.heap H locs → lv_has ls 4 [(0, .ref (ad 1 0)), (1, .ref (ad 6 0)), (2, .int a2), (3, .int v3)] → f_X1_putIn_L2 ad a2 (f_X1_putIn_P39) n2 σ v3 = some σ0 → g_Wv p l e ({ frames := 2, cells := 0, slots := 0, locals := 47 } : Room) s m below meth c H locs 0 0 D cy A ad L [.ref (ad 1 0), .ref (ad 6 0), .int a2] σ0 (F0 m 2 ls []) := by
    intro n2
    induction n2 with
    | zero =>
      intro σ v3 H locs ls G hl hf
      rw [f_X1_putIn_L2] at hf
      cases hf
    | succ n2 ih2 =>
      intro σ v3 H locs ls G hl hf
      rw [f_X1_putIn_L2] at hf
      refine lv_iload_n C.x C.b dX1_putIn_2 rfl (lv_at hl 3 rfl) ?_
      refine lv_aload_n C.x C.b dX1_putIn_3 rfl (lv_at hl 0 rfl) ?_
      refine g_geti C G 1 0 0 hT rfl ginX1 (by decide) tw161 dX1_putIn_4 ?_
      refine lv_icmp_ge (tgt := 39) C.x C.b dX1_putIn_7 (by decide) (fun cb => ?_) (fun cb => ?_)
      · have hf := g_t cb hf
        exact pt39 σ _ _ ls G (lv_sub hl [] rfl) hf
      · have hf := g_f cb hf
        refine lv_aload_n C.x C.b dX1_putIn_10 rfl (lv_at hl 1 rfl) ?_
        refine lv_aload_n C.x C.b dX1_putIn_11 rfl (lv_at hl 0 rfl) ?_
        refine g_getr C G 1 0 11 19 hT rfl ginX1 (by decide) tw176 dX1_putIn_12 (fun hL1 => ?_)
        refine lv_iload_n C.x C.b dX1_putIn_15 rfl (lv_at hl 3 rfl) ?_
        obtain ⟨hi2, hf⟩ := g_ok hf
        refine g_iald (n := 24) C G 19 0 hL1 (by decide) rfl hi2 dX1_putIn_16 ?_
        refine lv_aload_n C.x C.b dX1_putIn_17 rfl (lv_at hl 0 rfl) ?_
        refine g_getr C G 1 0 9 17 hT rfl ginX1 (by decide) tw174 dX1_putIn_18 (fun hL3 => ?_)
        refine lv_iload_n C.x C.b dX1_putIn_21 rfl (lv_at hl 3 rfl) ?_
        obtain ⟨hi4, hf⟩ := g_ok hf
        refine g_iald (n := 24) C G 17 0 hL3 (by decide) rfl hi4 dX1_putIn_22 ?_
        refine lv_iload_n C.x C.b dX1_putIn_23 rfl (lv_at hl 2 rfl) ?_
        refine lv_aload_n C.x C.b dX1_putIn_24 rfl (lv_at hl 0 rfl) ?_
        refine g_getr C G 1 0 10 18 hT rfl ginX1 (by decide) tw175 dX1_putIn_25 (fun hL5 => ?_)
        refine lv_iload_n C.x C.b dX1_putIn_28 rfl (lv_at hl 3 rfl) ?_
        obtain ⟨hi6, hf⟩ := g_ok hf
        refine g_iald (n := 24) C G 18 0 hL5 (by decide) rfl hi6 dX1_putIn_29 ?_
        obtain ⟨σ7, eσ7, hf⟩ := g_b hf
        refine g_callv G (g_runV (As := [.int (σ 19 0 v3.toNatClampNeg), .int (σ 17 0 v3.toNatClampNeg), .int a2, .int (σ 18 0 v3.toNatClampNeg)]) (rest := []) C G 6 0 (c_X6_put l D cy A ad L σ ha1 (σ 19 0 v3.toNatClampNeg) (σ 17 0 v3.toNatClampNeg) a2 (σ 18 0 v3.toNatClampNeg) σ7 eσ7) ⟨tw502, tw55, tw658, ⟨tw500, tw501⟩, hd_X6_put⟩ (by decide) ha1 rfl ⟨rfl, by decide⟩ hl.1 rfl (Nat.le_of_ble_eq_true rfl) dX1_putIn_30 ⟨Nat.le_of_ble_eq_true rfl, Nat.le_of_ble_eq_true rfl⟩) (fun H locs G => ?_)
        refine lv_iinc (v := (v3 + (1 : Int32))) (lv' := [(3, .int (v3 + (1 : Int32))), (0, .ref (ad 1 0)), (1, .ref (ad 6 0)), (2, .int a2)]) C.x C.b dX1_putIn_33 hl (k := 3) rfl rfl (by decide) rfl (fun ls hl => ?_)
        refine lv_goto (tgt := 2) C.x C.b dX1_putIn_36 (by decide) ?_
        exact ih2 σ7 (v3 + (1 : Int32)) _ _ ls G (lv_sub hl [1, 2, 3, 0] rfl) hf
  unfold f_X1_putIn at hf
  refine lv_iconst (v := (0 : Int32)) C.x C.b dX1_putIn_0 (by decide) ?_
  refine lv_istore_n (lv' := [(3, .int (0 : Int32)), (0, .ref (ad 1 0)), (1, .ref (ad 6 0)), (2, .int a2)]) C.x C.b dX1_putIn_1 rfl hl (by decide) rfl (fun ls hl => ?_)
  exact lp2 g_fuel σ (0 : Int32) _ _ ls G (lv_sub hl [1, 2, 3, 0] rfl) hf
