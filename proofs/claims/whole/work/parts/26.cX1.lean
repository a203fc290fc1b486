def f_X1_addSlots_P60 (σ : gS) : Option gS := (some σ)
def f_X1_addSlots_L3 (ad : gA) (a1 : Nat) (a2 : Int32) (a3 : Int32) (K3 : gS → Option gS) : Nat → gS → Int32 → Option gS
  | 0, _, _ => none
  | n + 1, σ, v4 => (if (σ 3 a1 0) ≤ v4 then (K3 σ) else ((f_X3_code ad σ a1 a3 v4).bind fun q1 => (if q1 = (-1 : Int32) then (if g_ix (σ 1 0 0) 24 then (g_let (g_up σ 17 0 ((σ 1 0 0).toNatClampNeg) a2) fun σ4 => (if g_ix (σ4 1 0 0) 24 then (g_let (g_up σ4 18 0 ((σ4 1 0 0).toNatClampNeg) v4) fun σ7 => (g_let (g_up σ7 1 0 0 ((σ7 1 0 0) + (1 : Int32))) fun σ8 => (f_X1_addSlots_L3 ad a1 a2 a3 K3 n σ8 (v4 + (1 : Int32))))) else none)) else none) else (f_X1_addSlots_L3 ad a1 a2 a3 K3 n σ (v4 + (1 : Int32))))))
def f_X1_addSlots (ad : gA) (σ : gS) (a1 : Nat) (a2 : Int32) (a3 : Int32) : Option gS := (f_X1_addSlots_L3 ad a1 a2 a3 (f_X1_addSlots_P60) g_fuel σ (0 : Int32))
theorem hd_X1_addSlots : yX1_addSlots.cls ≠ "java/lang/invoke/MethodHandle" ∧ yX1_addSlots.cls ≠ "java/lang/invoke/VarHandle" ∧ (parseMethodDescriptor yX1_addSlots.desc).map (fun d => d.parameters.length) = some 3 := by decide +kernel
set_option maxHeartbeats 4000000 in
set_option maxRecDepth 100000 in
theorem c_X1_addSlots (l : Launch) (D : va_G) (cy : Nat → ClassId) (A : Nat → Prop) (ad : gA) (L : gL)  (σ : gS) (hT : (1, 0) ∈ L) (a1 : Nat) (ha1 : (3, a1) ∈ L) (a2 : Int32) (a3 : Int32) (σ0 : gS) (hf : f_X1_addSlots ad σ a1 a2 a3 = some σ0) : g_Mv l yX1_addSlots cX1_addSlots 5 none ({ frames := 1, cells := 0, slots := 0, locals := 22 } : Room) D cy A ad L σ [.ref (ad 1 0), .ref (ad 3 a1), .int a2, .int a3] σ0 := by
  refine g_met (by decide) (Nat.le_of_ble_eq_true rfl) (fun p e s m below meth c C hr hlocks hnm G ls hl => ?_)
  have hl : lv_has ls 5 [(0, .ref (ad 1 0)), (1, .ref (ad 3 a1)), (2, .int a2), (3, .int a3)] := hl
  have pt60 : ∀ (σ : gS) (H : Heap) (locs : List Loc) (ls : Array Slot), g_H D cy A ad L σ s.heap H locs → lv_has ls 5 [] → f_X1_addSlots_P60 σ = some σ0 → g_Wv p l e ({ frames := 1, cells := 0, slots := 0, locals := 22 } : Room) s m below meth c H locs 0 0 D cy A ad L [.ref (ad 1 0), .ref (ad 3 a1), .int a2, .int a3] σ0 (F0 m 60 ls []) := by
    intro σ H locs ls G hl hf
    unfold f_X1_addSlots_P60 at hf
    exact g_evi C G hr hlocks hf dX1_addSlots_60
  have lp3 : ∀ n3 : Nat, ∀ (σ : gS) (v4 : Int32) (H : Heap) (locs : List Loc) (ls : Array Slot), g_H D cy A ad L σ s.heap H locs → lv_has ls 5 [(0, .ref (ad 1 0)), (1, .ref (ad 3 a1)), (2, .int a2), (3, .int a3), (4, .int v4)] → f_X1_addSlots_L3 ad a1 a2 a3 (f_X1_addSlots_P60) n3 σ v4 = some σ0 → g_Wv p l e ({ frames := 1, cells := 0, slots := 0, locals := 22 } : Room) s m below meth c H locs 0 0 D cy A ad L [.ref (ad 1 0), .ref (ad 3 a1), .int a2, .int a3] σ0 (F0 m 3 ls []) := by
    intro n3
    induction n3 with
    | zero =>
      intro σ v4 H locs ls G hl hf
      rw [f_X1_addSlots_L3] at hf
      cases hf
    | succ n3 ih3 =>
      intro σ v4 H locs ls G hl hf
      rw [f_X1_addSlots_L3] at hf
      refine lv_iload C.x C.b dX1_addSlots_3 (lv_at hl 4 rfl) ?_
      refine lv_aload_n C.x C.b dX1_addSlots_5 rfl (lv_at hl 1 rfl) ?_
      refine g_geti C G 3 a1 0 ha1 rfl ginX3 (by decide) tw314 dX1_addSlots_6 ?_
      refine lv_icmp_ge (tgt := 60) C.x C.b dX1_addSlots_9 (by decide) (fun cb => ?_) (fun cb => ?_)
      · have hf := g_t cb hf
        exact pt60 σ _ _ ls G (lv_sub hl [] rfl) hf
      · have hf := g_f cb hf
        refine lv_aload_n C.x C.b dX1_addSlots_12 rfl (lv_at hl 1 rfl) ?_
        refine lv_iload_n C.x C.b dX1_addSlots_13 rfl (lv_at hl 3 rfl) ?_
        refine lv_iload C.x C.b dX1_addSlots_14 (lv_at hl 4 rfl) ?_
        obtain ⟨q1, eq1, hf⟩ := g_b hf
        refine g_calli G (g_runV (As := [.int a3, .int v4]) (rest := []) C G 3 a1 (c_X3_code l D cy A ad L σ a1 ha1 a3 v4 q1 eq1) ⟨tw498, tw61, tw620, ⟨tw496, tw497⟩, hd_X3_code⟩ (by decide) ha1 rfl ⟨rfl, by decide⟩ hl.1 rfl (Nat.le_of_ble_eq_true rfl) dX1_addSlots_16 ⟨Nat.le_of_ble_eq_true rfl, Nat.le_of_ble_eq_true rfl⟩) (fun H locs G => ?_)
        refine lv_iconst (v := (-1 : Int32)) C.x C.b dX1_addSlots_19 (by decide) ?_
        refine lv_icmp_ne (tgt := 54) C.x C.b dX1_addSlots_20 (by decide) (fun cb => ?_) (fun cb => ?_)
        · have hf := g_f cb hf
          refine lv_iinc (v := (v4 + (1 : Int32))) (lv' := [(4, .int (v4 + (1 : Int32))), (0, .ref (ad 1 0)), (1, .ref (ad 3 a1)), (2, .int a2), (3, .int a3)]) C.x C.b dX1_addSlots_54 hl (k := 4) rfl rfl (by decide) rfl (fun ls hl => ?_)
          refine lv_goto (tgt := 3) C.x C.b dX1_addSlots_57 (by decide) ?_
          exact ih3 σ (v4 + (1 : Int32)) _ _ ls G (lv_sub hl [1, 2, 3, 4, 0] rfl) hf
        · have hf := g_t cb hf
          refine lv_aload_n C.x C.b dX1_addSlots_23 rfl (lv_at hl 0 rfl) ?_
          refine g_getr C G 1 0 9 17 hT rfl ginX1 (by decide) tw174 dX1_addSlots_24 (fun hL2 => ?_)
          refine lv_aload_n C.x C.b dX1_addSlots_27 rfl (lv_at hl 0 rfl) ?_
          refine g_geti C G 1 0 0 hT rfl ginX1 (by decide) tw161 dX1_addSlots_28 ?_
          refine lv_iload_n C.x C.b dX1_addSlots_31 rfl (lv_at hl 2 rfl) ?_
          obtain ⟨hi3, hf⟩ := g_ok hf
          refine g_iast (n := 24) C G 17 0 hL2 (by decide) rfl hi3 dX1_addSlots_32 (fun H locs G => ?_)
          obtain ⟨σ4, eσ4, hf⟩ := g_lt hf
          rw [← eσ4] at G
          refine lv_aload_n C.x C.b dX1_addSlots_33 rfl (lv_at hl 0 rfl) ?_
          refine g_getr C G 1 0 10 18 hT rfl ginX1 (by decide) tw175 dX1_addSlots_34 (fun hL5 => ?_)
          refine lv_aload_n C.x C.b dX1_addSlots_37 rfl (lv_at hl 0 rfl) ?_
          refine g_geti C G 1 0 0 hT rfl ginX1 (by decide) tw161 dX1_addSlots_38 ?_
          refine lv_iload C.x C.b dX1_addSlots_41 (lv_at hl 4 rfl) ?_
          obtain ⟨hi6, hf⟩ := g_ok hf
          refine g_iast (n := 24) C G 18 0 hL5 (by decide) rfl hi6 dX1_addSlots_43 (fun H locs G => ?_)
          obtain ⟨σ7, eσ7, hf⟩ := g_lt hf
          rw [← eσ7] at G
          refine lv_aload_n C.x C.b dX1_addSlots_44 rfl (lv_at hl 0 rfl) ?_
          refine lv_dup C.x C.b dX1_addSlots_45 rfl ?_
          refine g_geti C G 1 0 0 hT rfl ginX1 (by decide) tw161 dX1_addSlots_46 ?_
          refine lv_iconst (v := (1 : Int32)) C.x C.b dX1_addSlots_49 (by decide) ?_
          refine lv_iadd C.x C.b dX1_addSlots_50 ?_
          refine g_puti C G 1 0 0 hT (v := ((σ7 1 0 0) + (1 : Int32))) rfl ginX1 tyX1_ok nmX1 (by decide) ⟨rfl, rfl⟩ tw161 dX1_addSlots_51 (fun H locs G => ?_)
          obtain ⟨σ8, eσ8, hf⟩ := g_lt hf
          rw [← eσ8] at G
          refine lv_iinc (v := (v4 + (1 : Int32))) (lv' := [(4, .int (v4 + (1 : Int32))), (0, .ref (ad 1 0)), (1, .ref (ad 3 a1)), (2, .int a2), (3, .int a3)]) C.x C.b dX1_addSlots_54 hl (k := 4) rfl rfl (by decide) rfl (fun ls hl => ?_)
          refine lv_goto (tgt := 3) C.x C.b dX1_addSlots_57 (by decide) ?_
          exact ih3 σ8 (v4 + (1 : Int32)) _ _ ls G (lv_sub hl [1, 2, 3, 4, 0] rfl) hf
  unfold f_X1_addSlots at hf
  refine lv_iconst (v := (0 : Int32)) C.x C.b dX1_addSlots_0 (by decide) ?_
  refine lv_istore (lv' := [(4, .int (0 : Int32)), (0, .ref (ad 1 0)), (1, .ref (ad 3 a1)), (2, .int a2), (3, .int a3)]) C.x C.b dX1_addSlots_1 hl (by decide) rfl (fun ls hl => ?_)
  exact lp3 g_fuel σ (0 : Int32) _ _ ls G (lv_sub hl [1, 2, 3, 4, 0] rfl) hf
def f_X1_ableIn_P57 (σ : gS) (v3 : Int32) : Option (Int32 × gS) := (some (v3, σ))
def f_X1_ableIn_L21 (ad : gA) (a1 : Int32) (a2 : Int32) (K21 : gS → Int32 → Option (Int32 × gS)) : Nat → gS → Int32 → Int32 → Option (Int32 × gS)
  | 0, _, _, _ => none
  | n + 1, σ, v3, v4 => (if (σ 6 0 4) ≤ v4 then (K21 σ v3) else ((f_X6_firstBar ad σ v4 a1 a2 (1 : Int32)).bind fun q6 => (if q6.1 = (-2 : Int32) then (f_X1_ableIn_L21 ad a1 a2 K21 n q6.2 (v3 ||| ((1 : Int32) <<< (v4 &&& 31))) (v4 + (1 : Int32))) else (f_X1_ableIn_L21 ad a1 a2 K21 n q6.2 v3 (v4 + (1 : Int32))))))
def f_X1_ableIn (ad : gA) (σ : gS) (a1 : Int32) (a2 : Int32) : Option (Int32 × gS) := (if g_ix a1 8 then (if σ 25 0 a1.toNatClampNeg < 0 then none else ((f_X3_firstEmpty ad σ a1.toNatClampNeg a2).bind fun q5 => (if q5 = (-1 : Int32) then (some ((0 : Int32), σ)) else (f_X1_ableIn_L21 ad a1 a2 (f_X1_ableIn_P57) g_fuel σ (0 : Int32) (0 : Int32))))) else none)
theorem hd_X1_ableIn : yX1_ableIn.cls ≠ "java/lang/invoke/MethodHandle" ∧ yX1_ableIn.cls ≠ "java/lang/invoke/VarHandle" ∧ (parseMethodDescriptor yX1_ableIn.desc).map (fun d => d.parameters.length) = some 3 := by decide +kernel
set_option maxHeartbeats 4000000 in
set_option maxRecDepth 100000 in
theorem c_X1_ableIn (l : Launch) (D : va_G) (cy : Nat → ClassId) (A : Nat → Prop) (ad : gA) (L : gL)  (σ : gS) (ha0 : (6, 0) ∈ L) (a1 : Int32) (a2 : Int32) (r0 : Int32) (σ0 : gS) (hf : f_X1_ableIn ad σ a1 a2 = some (r0, σ0)) : g_Mi l yX1_ableIn cX1_ableIn 5 (some .int) ({ frames := 4, cells := 0, slots := 0, locals := 98 } : Room) D cy A ad L σ [.ref (ad 6 0), .int a1, .int a2] r0 σ0 := by
  refine g_met (by decide) (Nat.le_of_ble_eq_true rfl) (fun p e s m below meth c C hr hlocks hnm G ls hl => ?_)
  have hl : lv_has ls 5 [(0, .ref (ad 6 0)), (1, .int a1), (2, .int a2)] := hl
  have pt57 : ∀ (σ : gS) (v3 : Int32) (H : Heap) (locs : List Loc) (ls : Array Slot), g_H D cy A ad L σ s.heap H locs → lv_has ls 5 [(3, .int v3)] → f_X1_ableIn_P57 σ v3 = some (r0, σ0) → g_Wi p l e ({ frames := 4, cells := 0, slots := 0, locals := 98 } : Room) s m below meth c H locs 0 0 D cy A ad L [.ref (ad 6 0), .int a1, .int a2] r0 σ0 (F0 m 57 ls []) := by
    intro σ v3 H locs ls G hl hf
    unfold f_X1_ableIn_P57 at hf
    refine lv_iload_n C.x C.b dX1_ableIn_57 rfl (lv_at hl 0 rfl) ?_
    exact g_eii C G hr hlocks hf dX1_ableIn_58
  have lp21 : ∀ n21 : Nat, ∀ (σ : gS) (v3 : Int32) (v4 : Int32) (H : Heap) (locs : List Loc) (ls : Array Slot), g_H D cy A ad L σ s.heap H locs → lv_has ls 5 [(0, .ref (ad 6 0)), (1, .int a1), (2, .int a2), (3, .int v3), (4, .int v4)] → f_X1_ableIn_L21 ad a1 a2 (f_X1_ableIn_P57) n21 σ v3 v4 = some (r0, σ0) → g_Wi p l e ({ frames := 4, cells := 0, slots := 0, locals := 98 } : Room) s m below meth c H locs 0 0 D cy A ad L [.ref (ad 6 0), .int a1, .int a2] r0 σ0 (F0 m 21 ls []) := by
    intro n21
    induction n21 with
    | zero =>
      intro σ v3 v4 H locs ls G hl hf
      rw [f_X1_ableIn_L21] at hf
      cases hf
    | succ n21 ih21 =>
      intro σ v3 v4 H locs ls G hl hf
      rw [f_X1_ableIn_L21] at hf
      refine lv_iload C.x C.b dX1_ableIn_21 (lv_at hl 4 rfl) ?_
      refine lv_aload_n C.x C.b dX1_ableIn_23 rfl (lv_at hl 0 rfl) ?_
      refine g_geti C G 6 0 4 ha0 rfl ginX6 (by decide) tw128 dX1_ableIn_24 ?_
      refine lv_icmp_ge (tgt := 57) C.x C.b dX1_ableIn_27 (by decide) (fun cb => ?_) (fun cb => ?_)
      · have hf := g_t cb hf
        exact pt57 σ v3 _ _ ls G (lv_sub hl [3] rfl) hf
      · have hf := g_f cb hf
        refine lv_aload_n C.x C.b dX1_ableIn_30 rfl (lv_at hl 0 rfl) ?_
        refine lv_iload C.x C.b dX1_ableIn_31 (lv_at hl 4 rfl) ?_
        refine lv_iload_n C.x C.b dX1_ableIn_33 rfl (lv_at hl 1 rfl) ?_
        refine lv_iload_n C.x C.b dX1_ableIn_34 rfl (lv_at hl 2 rfl) ?_
        refine lv_iconst (v := (1 : Int32)) C.x C.b dX1_ableIn_35 (by decide) ?_
        obtain ⟨q6, eq6, hf⟩ := g_b hf
        refine g_calli G (g_runV (As := [.int v4, .int a1, .int a2, .int (1 : Int32)]) (rest := []) C G 6 0 (c_X6_firstBar l D cy A ad L σ ha0 v4 a1 a2 (1 : Int32) q6.1 q6.2 eq6) ⟨tw565, tw55, tw629, ⟨tw563, tw564⟩, hd_X6_firstBar⟩ (by decide) ha0 rfl ⟨rfl, by decide⟩ hl.1 rfl (Nat.le_of_ble_eq_true rfl) dX1_ableIn_36 ⟨Nat.le_of_ble_eq_true rfl, Nat.le_of_ble_eq_true rfl⟩) (fun H locs G => ?_)
        refine lv_bipush (v := (-2 : Int32)) C.x C.b dX1_ableIn_39 (by decide) ?_
        refine lv_icmp_ne (tgt := 51) C.x C.b dX1_ableIn_41 (by decide) (fun cb => ?_) (fun cb => ?_)
        · have hf := g_f cb hf
          refine lv_iinc (v := (v4 + (1 : Int32))) (lv' := [(4, .int (v4 + (1 : Int32))), (0, .ref (ad 6 0)), (1, .int a1), (2, .int a2), (3, .int v3)]) C.x C.b dX1_ableIn_51 hl (k := 4) rfl rfl (by decide) rfl (fun ls hl => ?_)
          refine lv_goto (tgt := 21) C.x C.b dX1_ableIn_54 (by decide) ?_
          exact ih21 q6.2 v3 (v4 + (1 : Int32)) _ _ ls G (lv_sub hl [1, 2, 3, 4, 0] rfl) hf
        · have hf := g_t cb hf
          refine lv_iload_n C.x C.b dX1_ableIn_44 rfl (lv_at hl 3 rfl) ?_
          refine lv_iconst (v := (1 : Int32)) C.x C.b dX1_ableIn_45 (by decide) ?_
          refine lv_iload C.x C.b dX1_ableIn_46 (lv_at hl 4 rfl) ?_
          refine lv_ishl C.x C.b dX1_ableIn_48 ?_
          refine lv_ior C.x C.b dX1_ableIn_49 ?_
          refine lv_istore_n (lv' := [(3, .int (v3 ||| ((1 : Int32) <<< (v4 &&& 31)))), (0, .ref (ad 6 0)), (1, .int a1), (2, .int a2), (4, .int v4)]) C.x C.b dX1_ableIn_50 rfl hl (by decide) rfl (fun ls hl => ?_)
          refine lv_iinc (v := (v4 + (1 : Int32))) (lv' := [(4, .int (v4 + (1 : Int32))), (3, .int (v3 ||| ((1 : Int32) <<< (v4 &&& 31)))), (0, .ref (ad 6 0)), (1, .int a1), (2, .int a2)]) C.x C.b dX1_ableIn_51 hl (k := 4) rfl rfl (by decide) rfl (fun ls hl => ?_)
          refine lv_goto (tgt := 21) C.x C.b dX1_ableIn_54 (by decide) ?_
          exact ih21 q6.2 (v3 ||| ((1 : Int32) <<< (v4 &&& 31))) (v4 + (1 : Int32)) _ _ ls G (lv_sub hl [2, 3, 4, 1, 0] rfl) hf
  unfold f_X1_ableIn at hf
  refine lv_iconst (v := (0 : Int32)) C.x C.b dX1_ableIn_0 (by decide) ?_
  refine lv_istore_n (lv' := [(3, .int (0 : Int32)), (0, .ref (ad 6 0)), (1, .int a1), (2, .int a2)]) C.x C.b dX1_ableIn_1 rfl hl (by decide) rfl (fun ls hl => ?_)
  refine lv_aload_n C.x C.b dX1_ableIn_2 rfl (lv_at hl 1 rfl) ?_
  refine g_getr C G 6 0 0 25 ha0 rfl ginX6 (by decide) tw116 dX1_ableIn_3 (fun hL1 => ?_)
  refine lv_iload_n C.x C.b dX1_ableIn_6 rfl (lv_at hl 2 rfl) ?_
  obtain ⟨hi2, hf⟩ := g_ok hf
  obtain ⟨hq3, hf⟩ := g_okn hf
  refine g_aldq (n := 8) C G 25 0 3 hL1 (by decide) rfl rfl hi2 hq3 dX1_ableIn_7 (fun hL4 => ?_)
  refine lv_iload_n C.x C.b dX1_ableIn_8 rfl (lv_at hl 3 rfl) ?_
  obtain ⟨q5, eq5, hf⟩ := g_b hf
  refine g_calli G (g_runV (As := [.int a2]) (rest := []) C G 3 a1.toNatClampNeg (c_X3_firstEmpty l D cy A ad L σ a1.toNatClampNeg hL4 a2 q5 eq5) ⟨tw494, tw61, tw628, ⟨tw492, tw493⟩, hd_X3_firstEmpty⟩ (by decide) hL4 rfl ⟨rfl, by decide⟩ hl.1 rfl (Nat.le_of_ble_eq_true rfl) dX1_ableIn_9 ⟨Nat.le_of_ble_eq_true rfl, Nat.le_of_ble_eq_true rfl⟩) (fun H locs G => ?_)
  refine lv_iconst (v := (-1 : Int32)) C.x C.b dX1_ableIn_12 (by decide) ?_
  refine lv_icmp_ne (tgt := 18) C.x C.b dX1_ableIn_13 (by decide) (fun cb => ?_) (fun cb => ?_)
  · have hf := g_f cb hf
    refine lv_iconst (v := (0 : Int32)) C.x C.b dX1_ableIn_18 (by decide) ?_
    refine lv_istore (lv' := [(4, .int (0 : Int32)), (3, .int (0 : Int32)), (0, .ref (ad 6 0)), (1, .int a1), (2, .int a2)]) C.x C.b dX1_ableIn_19 hl (by decide) rfl (fun ls hl => ?_)
    exact lp21 g_fuel σ (0 : Int32) (0 : Int32) _ _ ls G (lv_sub hl [2, 3, 4, 1, 0] rfl) hf
  · have hf := g_t cb hf
    refine lv_iload_n C.x C.b dX1_ableIn_16 rfl (lv_at hl 0 rfl) ?_
    exact g_eii C G hr hlocks hf dX1_ableIn_17
def f_X1_isOver (ad : gA) (σ : gS) : Option Int32 := (if (σ 1 0 3) = 0 then (if (σ 1 0 5) = 0 then (some (0 : Int32)) else (if (σ 1 0 1) ≤ 0 then (some (0 : Int32)) else (some (1 : Int32)))) else (some (1 : Int32)))
theorem hd_X1_isOver : yX1_isOver.cls ≠ "java/lang/invoke/MethodHandle" ∧ yX1_isOver.cls ≠ "java/lang/invoke/VarHandle" ∧ (parseMethodDescriptor yX1_isOver.desc).map (fun d => d.parameters.length) = some 0 := by decide +kernel
set_option maxHeartbeats 4000000 in
set_option maxRecDepth 100000 in
theorem c_X1_isOver (l : Launch) (D : va_G) (cy : Nat → ClassId) (A : Nat → Prop) (ad : gA) (L : gL)  (σ : gS) (hT : (1, 0) ∈ L) (r0 : Int32) (hf : f_X1_isOver ad σ = some r0) : g_Mi l yX1_isOver cX1_isOver 1 (some .boolean) ({ frames := 0, cells := 0, slots := 0, locals := 0 } : Room) D cy A ad L σ [.ref (ad 1 0)] r0 σ := by
  refine g_met (by decide) (Nat.le_of_ble_eq_true rfl) (fun p e s m below meth c C hr hlocks hnm G ls hl => ?_)
  have hl : lv_has ls 1 [(0, .ref (ad 1 0))] := hl
  unfold f_X1_isOver at hf
  refine lv_aload_n C.x C.b dX1_isOver_0 rfl (lv_at hl 0 rfl) ?_
  refine g_geti C G 1 0 3 hT rfl ginX1 (by decide) tw167 dX1_isOver_1 ?_
  refine lv_if_ne (tgt := 21) C.x C.b dX1_isOver_4 (by decide) (fun cb => ?_) (fun cb => ?_)
  · have hf := g_f cb hf
    refine lv_iconst (v := (1 : Int32)) C.x C.b dX1_isOver_21 (by decide) ?_
    refine lv_goto (tgt := 26) C.x C.b dX1_isOver_22 (by decide) ?_
    exact g_ezp C G hr hlocks hf rfl dX1_isOver_26
  · have hf := g_t cb hf
    refine lv_aload_n C.x C.b dX1_isOver_7 rfl (lv_at hl 0 rfl) ?_
    refine g_geti C G 1 0 5 hT rfl ginX1 (by decide) tw170 dX1_isOver_8 ?_
    refine lv_if_eq (tgt := 25) C.x C.b dX1_isOver_11 (by decide) (fun cb => ?_) (fun cb => ?_)
    · have hf := g_t cb hf
      refine lv_iconst (v := (0 : Int32)) C.x C.b dX1_isOver_25 (by decide) ?_
      exact g_ezp C G hr hlocks hf rfl dX1_isOver_26
    · have hf := g_f cb hf
      refine lv_aload_n C.x C.b dX1_isOver_14 rfl (lv_at hl 0 rfl) ?_
      refine g_geti C G 1 0 1 hT rfl ginX1 (by decide) tw163 dX1_isOver_15 ?_
      refine lv_if_le (tgt := 25) C.x C.b dX1_isOver_18 (by decide) (fun cb => ?_) (fun cb => ?_)
      · have hf := g_t cb hf
        refine lv_iconst (v := (0 : Int32)) C.x C.b dX1_isOver_25 (by decide) ?_
        exact g_ezp C G hr hlocks hf rfl dX1_isOver_26
      · have hf := g_f cb hf
        refine lv_iconst (v := (1 : Int32)) C.x C.b dX1_isOver_21 (by decide) ?_
        refine lv_goto (tgt := 26) C.x C.b dX1_isOver_22 (by decide) ?_
        exact g_ezp C G hr hlocks hf rfl dX1_isOver_26
def f_X1_fits (ad : gA) (σ : gS) (a2 : Int32) (a3 : Int32) : Option Int32 := (if g_ix a3 8 then (if (((σ 20 0 a3.toNatClampNeg) &&& ((σ 1 0 8) ^^^ (-1 : Int32))) &&& ((1 : Int32) <<< (a2 &&& 31))) = 0 then (some (0 : Int32)) else (if g_ix a3 8 then (if (σ 21 0 a3.toNatClampNeg) = 0 then (some (1 : Int32)) else (if g_ix a2 24 then (if σ 26 0 a2.toNatClampNeg < 0 then none else (if g_ix a3 8 then (if ((σ 5 a2.toNatClampNeg 8) &&& (σ 22 0 a3.toNatClampNeg)) = 0 then (some (1 : Int32)) else (some (0 : Int32))) else none)) else none)) else none)) else none)
theorem hd_X1_fits : yX1_fits.cls ≠ "java/lang/invoke/MethodHandle" ∧ yX1_fits.cls ≠ "java/lang/invoke/VarHandle" ∧ (parseMethodDescriptor yX1_fits.desc).map (fun d => d.parameters.length) = some 3 := by decide +kernel
set_option maxHeartbeats 4000000 in
set_option maxRecDepth 100000 in
theorem c_X1_fits (l : Launch) (D : va_G) (cy : Nat → ClassId) (A : Nat → Prop) (ad : gA) (L : gL)  (σ : gS) (hT : (1, 0) ∈ L) (ha1 : (6, 0) ∈ L) (a2 : Int32) (a3 : Int32) (r0 : Int32) (hf : f_X1_fits ad σ a2 a3 = some r0) : g_Mi l yX1_fits cX1_fits 4 (some .boolean) ({ frames := 0, cells := 0, slots := 0, locals := 0 } : Room) D cy A ad L σ [.ref (ad 1 0), .ref (ad 6 0), .int a2, .int a3] r0 σ := by
  refine g_met (by decide) (Nat.le_of_ble_eq_true rfl) (fun p e s m below meth c C hr hlocks hnm G ls hl => ?_)
  have hl : lv_has ls 4 [(0, .ref (ad 1 0)), (1, .ref (ad 6 0)), (2, .int a2), (3, .int a3)] := hl
  unfold f_X1_fits at hf
  refine lv_aload_n C.x C.b dX1_fits_0 rfl (lv_at hl 0 rfl) ?_
  refine g_getr C G 1 0 12 20 hT rfl ginX1 (by decide) tw177 dX1_fits_1 (fun hL1 => ?_)
  refine lv_iload_n C.x C.b dX1_fits_4 rfl (lv_at hl 3 rfl) ?_
  obtain ⟨hi2, hf⟩ := g_ok hf
  refine g_iald (n := 8) C G 20 0 hL1 (by decide) rfl hi2 dX1_fits_5 ?_
  refine lv_aload_n C.x C.b dX1_fits_6 rfl (lv_at hl 0 rfl) ?_
  refine g_geti C G 1 0 8 hT rfl ginX1 (by decide) tw173 dX1_fits_7 ?_
  refine lv_iconst (v := (-1 : Int32)) C.x C.b dX1_fits_10 (by decide) ?_
  refine lv_ixor C.x C.b dX1_fits_11 ?_
  refine lv_iand C.x C.b dX1_fits_12 ?_
  refine lv_iconst (v := (1 : Int32)) C.x C.b dX1_fits_13 (by decide) ?_
  refine lv_iload_n C.x C.b dX1_fits_14 rfl (lv_at hl 2 rfl) ?_
  refine lv_ishl C.x C.b dX1_fits_15 ?_
  refine lv_iand C.x C.b dX1_fits_16 ?_
  refine lv_if_ne (tgt := 22) C.x C.b dX1_fits_17 (by decide) (fun cb => ?_) (fun cb => ?_)
  · have hf := g_f cb hf
    refine lv_aload_n C.x C.b dX1_fits_22 rfl (lv_at hl 0 rfl) ?_
    refine g_getr C G 1 0 13 21 hT rfl ginX1 (by decide) tw178 dX1_fits_23 (fun hL3 => ?_)
    refine lv_iload_n C.x C.b dX1_fits_26 rfl (lv_at hl 3 rfl) ?_
    obtain ⟨hi4, hf⟩ := g_ok hf
    refine g_zald (n := 8) C G 21 0 hL3 (by decide) rfl hi4 dX1_fits_27 ?_
    refine lv_if_eq (tgt := 50) C.x C.b dX1_fits_28 (by decide) (fun cb => ?_) (fun cb => ?_)
    · have hf := g_t cb hf
      refine lv_iconst (v := (1 : Int32)) C.x C.b dX1_fits_50 (by decide) ?_
      refine lv_goto (tgt := 55) C.x C.b dX1_fits_51 (by decide) ?_
      exact g_ezp C G hr hlocks hf rfl dX1_fits_55
    · have hf := g_f cb hf
      refine lv_aload_n C.x C.b dX1_fits_31 rfl (lv_at hl 1 rfl) ?_
      refine g_getr C G 6 0 1 26 ha1 rfl ginX6 (by decide) tw120 dX1_fits_32 (fun hL5 => ?_)
      refine lv_iload_n C.x C.b dX1_fits_35 rfl (lv_at hl 2 rfl) ?_
      obtain ⟨hi6, hf⟩ := g_ok hf
      obtain ⟨hq7, hf⟩ := g_okn hf
      refine g_aldq (n := 24) C G 26 0 5 hL5 (by decide) rfl rfl hi6 hq7 dX1_fits_36 (fun hL8 => ?_)
      refine g_geti C G 5 a2.toNatClampNeg 8 hL8 rfl ginX5 (by decide) tw380 dX1_fits_37 ?_
      refine lv_aload_n C.x C.b dX1_fits_40 rfl (lv_at hl 0 rfl) ?_
      refine g_getr C G 1 0 14 22 hT rfl ginX1 (by decide) tw179 dX1_fits_41 (fun hL9 => ?_)
      refine lv_iload_n C.x C.b dX1_fits_44 rfl (lv_at hl 3 rfl) ?_
      obtain ⟨hi10, hf⟩ := g_ok hf
      refine g_iald (n := 8) C G 22 0 hL9 (by decide) rfl hi10 dX1_fits_45 ?_
      refine lv_iand C.x C.b dX1_fits_46 ?_
      refine lv_if_ne (tgt := 54) C.x C.b dX1_fits_47 (by decide) (fun cb => ?_) (fun cb => ?_)
      · have hf := g_f cb hf
        refine lv_iconst (v := (0 : Int32)) C.x C.b dX1_fits_54 (by decide) ?_
        exact g_ezp C G hr hlocks hf rfl dX1_fits_55
      · have hf := g_t cb hf
        refine lv_iconst (v := (1 : Int32)) C.x C.b dX1_fits_50 (by decide) ?_
        refine lv_goto (tgt := 55) C.x C.b dX1_fits_51 (by decide) ?_
        exact g_ezp C G hr hlocks hf rfl dX1_fits_55
  · have hf := g_t cb hf
    refine lv_iconst (v := (0 : Int32)) C.x C.b dX1_fits_20 (by decide) ?_
    exact g_ezp C G hr hlocks hf rfl dX1_fits_21
def f_X1_tellFound (ad : gA) (σ : gS) : Option gS := (g_let (g_up σ 1 0 1 ((σ 1 0 1) + (1 : Int32))) fun σ1 => (if (σ1 1 0 6) = (-1 : Int32) then (some σ1) else (if (σ1 1 0 7) = (-1 : Int32) then (some σ1) else (if g_ix (σ1 1 0 7) 8 then (if (((σ1 22 0 ((σ1 1 0 7).toNatClampNeg)) >>> ((σ1 1 0 6) &&& 31)) &&& (1 : Int32)) = 0 then (some σ1) else (g_let (g_up σ1 1 0 2 ((σ1 1 0 2) + (1 : Int32))) fun σ4 => (some σ4))) else none))))
theorem hd_X1_tellFound : yX1_tellFound.cls ≠ "java/lang/invoke/MethodHandle" ∧ yX1_tellFound.cls ≠ "java/lang/invoke/VarHandle" ∧ (parseMethodDescriptor yX1_tellFound.desc).map (fun d => d.parameters.length) = some 0 := by decide +kernel
set_option maxHeartbeats 4000000 in
set_option maxRecDepth 100000 in
theorem c_X1_tellFound (l : Launch) (D : va_G) (cy : Nat → ClassId) (A : Nat → Prop) (ad : gA) (L : gL)  (σ : gS) (hT : (1, 0) ∈ L) (σ0 : gS) (hf : f_X1_tellFound ad σ = some σ0) : g_Mv l yX1_tellFound cX1_tellFound 1 none ({ frames := 0, cells := 0, slots := 0, locals := 0 } : Room) D cy A ad L σ [.ref (ad 1 0)] σ0 := by
  refine g_met (by decide) (Nat.le_of_ble_eq_true rfl) (fun p e s m below meth c C hr hlocks hnm G ls hl => ?_)
  have hl : lv_has ls 1 [(0, .ref (ad 1 0))] := hl
  unfold f_X1_tellFound at hf
  refine lv_aload_n C.x C.b dX1_tellFound_0 rfl (lv_at hl 0 rfl) ?_
  refine lv_dup C.x C.b dX1_tellFound_1 rfl ?_
  refine g_geti C G 1 0 1 hT rfl ginX1 (by decide) tw163 dX1_tellFound_2 ?_
  refine lv_iconst (v := (1 : Int32)) C.x C.b dX1_tellFound_5 (by decide) ?_
  refine lv_iadd C.x C.b dX1_tellFound_6 ?_
  refine g_puti C G 1 0 1 hT (v := ((σ 1 0 1) + (1 : Int32))) rfl ginX1 tyX1_ok nmX1 (by decide) ⟨rfl, rfl⟩ tw163 dX1_tellFound_7 (fun H locs G => ?_)
  obtain ⟨σ1, eσ1, hf⟩ := g_lt hf
  rw [← eσ1] at G
  refine lv_aload_n C.x C.b dX1_tellFound_10 rfl (lv_at hl 0 rfl) ?_
  refine g_geti C G 1 0 6 hT rfl ginX1 (by decide) tw171 dX1_tellFound_11 ?_
  refine lv_iconst (v := (-1 : Int32)) C.x C.b dX1_tellFound_14 (by decide) ?_
  refine lv_icmp_eq (tgt := 55) C.x C.b dX1_tellFound_15 (by decide) (fun cb => ?_) (fun cb => ?_)
  · have hf := g_t cb hf
    exact g_evi C G hr hlocks hf dX1_tellFound_55
  · have hf := g_f cb hf
    refine lv_aload_n C.x C.b dX1_tellFound_18 rfl (lv_at hl 0 rfl) ?_
    refine g_geti C G 1 0 7 hT rfl ginX1 (by decide) tw172 dX1_tellFound_19 ?_
    refine lv_iconst (v := (-1 : Int32)) C.x C.b dX1_tellFound_22 (by decide) ?_
    refine lv_icmp_eq (tgt := 55) C.x C.b dX1_tellFound_23 (by decide) (fun cb => ?_) (fun cb => ?_)
    · have hf := g_t cb hf
      exact g_evi C G hr hlocks hf dX1_tellFound_55
    · have hf := g_f cb hf
      refine lv_aload_n C.x C.b dX1_tellFound_26 rfl (lv_at hl 0 rfl) ?_
      refine g_getr C G 1 0 14 22 hT rfl ginX1 (by decide) tw179 dX1_tellFound_27 (fun hL2 => ?_)
      refine lv_aload_n C.x C.b dX1_tellFound_30 rfl (lv_at hl 0 rfl) ?_
      refine g_geti C G 1 0 7 hT rfl ginX1 (by decide) tw172 dX1_tellFound_31 ?_
      obtain ⟨hi3, hf⟩ := g_ok hf
      refine g_iald (n := 8) C G 22 0 hL2 (by decide) rfl hi3 dX1_tellFound_34 ?_
      refine lv_aload_n C.x C.b dX1_tellFound_35 rfl (lv_at hl 0 rfl) ?_
      refine g_geti C G 1 0 6 hT rfl ginX1 (by decide) tw171 dX1_tellFound_36 ?_
      refine lv_ishr C.x C.b dX1_tellFound_39 ?_
      refine lv_iconst (v := (1 : Int32)) C.x C.b dX1_tellFound_40 (by decide) ?_
      refine lv_iand C.x C.b dX1_tellFound_41 ?_
      refine lv_if_eq (tgt := 55) C.x C.b dX1_tellFound_42 (by decide) (fun cb => ?_) (fun cb => ?_)
      · have hf := g_t cb hf
        exact g_evi C G hr hlocks hf dX1_tellFound_55
      · have hf := g_f cb hf
        refine lv_aload_n C.x C.b dX1_tellFound_45 rfl (lv_at hl 0 rfl) ?_
        refine lv_dup C.x C.b dX1_tellFound_46 rfl ?_
        refine g_geti C G 1 0 2 hT rfl ginX1 (by decide) tw165 dX1_tellFound_47 ?_
        refine lv_iconst (v := (1 : Int32)) C.x C.b dX1_tellFound_50 (by decide) ?_
        refine lv_iadd C.x C.b dX1_tellFound_51 ?_
        refine g_puti C G 1 0 2 hT (v := ((σ1 1 0 2) + (1 : Int32))) rfl ginX1 tyX1_ok nmX1 (by decide) ⟨rfl, rfl⟩ tw165 dX1_tellFound_52 (fun H locs G => ?_)
        obtain ⟨σ4, eσ4, hf⟩ := g_lt hf
        rw [← eσ4] at G
        exact g_evi C G hr hlocks hf dX1_tellFound_55
