section GX2
variable {p : Program} {l : Launch} {e : Env} {R : Room} {s : State} {m : MethodId} {args : Array Value} {below : List Frame} {meth : Method} {c : Code} {H : Heap} {locs : List Loc} {cells slots : Nat} {Q : State → Prop}
variable {own : String} {cc : ByteArray} {nL : Nat} {D : va_G} {cy : Nat → ClassId} {A : Nat → Prop} {ad : gA} {L : gL} {σ σ0 : gS} {pc : Nat} {ls : Array Slot} {rest st : List Value}
variable {y : MethodName} {bytes : ByteArray} {maxL mc ms index : Nat} {ret : Option FieldType} {rm : Room} {Qc : Array Value → State → Outcome → State → Prop} {XC : String → State → State → Prop} {As : List Value} {a : Array Value}
theorem g_runX (C : g_C own cc nL D cy A p m c s args) (hX : g_X A s) (G : g_H D cy A ad L σ s.heap H locs) (K i : Nat) (hM : vx_Met l y (Cond.code y bytes maxL ret :: lw_good) rm (va_Pc (.ref (ad K i) :: As) (g_PreX D cy A ad L σ)) Qc XC mc ms A) (w : g_wV own index y bytes maxL ret As.length) (hrm : g_rm rm R maxL mc ms) (hL : (K, i) ∈ L) {q : vw_C} (hc : vwCl[K]? = some q) (hq : q.1 = y.cls ∧ K < 10) (hls : ls.size = nL) (hst : st = As.reverse ++ .ref (ad K i) :: rest) (hW : (rest.map fun v => v.category).sum ≤ 8) (hdg : decode cc pc = .ok (.invokevirtual index, 3)) (hf : cells + mc ≤ R.cells ∧ slots + ms ≤ R.slots) :
    vx_Run p l e R s m args below meth c H locs cells slots mc ms (F0 m pc ls st) rest (Qc (Value.ref (ad K i) :: As).toArray) XC A := by
  obtain ⟨w1, w2, w3, w4, w5⟩ := w
  obtain ⟨r1, r2, r3, r4⟩ := hrm
  have hts := C.1.2.2.2.2
  obtain ⟨k, hk, hw⟩ := g_ws_at (cy := cy) (ad := ad) (σ := σ) hL
  rw [g_ct, if_pos hq.2] at hw
  have hrecv := va_recv C.2.1.1 G.1 hc hw
  rw [hq.1] at hrecv
  exact vx_runV (C := y.cls) C.1 hM ⟨callB_of As.length hts (g_good (y := y) (cc := bytes) (n := 0) (r := ret) w1) rfl r1 r2 (hts _ w2) (hts _ w3) w5 ⟨r3, r4⟩, hts _ w4.1, hts _ w4.2⟩ ⟨g_PreX.blind, hrecv, fun U hU hW => ⟨rfl, g_pre C G U hU hW, hX.goes G.2.2.1 hU hW⟩⟩ rfl rfl hls hst (by show 2 * 0 + _ ≤ 8; omega) hdg hf
theorem g_metW {hh : List (Nat × Nat × Nat × Nat)} {Pc : Array Value → State → Prop} (hy : plainName y.cls = true)
    (body : ∀ (p : Program) (e : Env) (s : State) (m : MethodId) (args : Array Value) (below : List Frame) (meth : Method) (c : Code), CallFix p m c cc maxL s args lw_good y.cls → meth.sig.returnType = ret → meth.locks = false → c.exceptionTable.toList = tableOf hh → Pc args s →
      W p l e rm s m args below meth c s.heap [] 0 0 (MQ below Qc args s mc ms A) (entryFrame m args maxL)) :
    Met l y (Cond.codeWith y cc maxL ret hh :: lw_good) rm Pc Qc mc ms A := by
  refine MetFree.of_bodyS (code := cc) (maxLocals := maxL) (ret := ret) hy ?_ ?_
  · intro args s m h hn
    obtain ⟨m9, meth, c, hn9, h1, h2, h3, h4, -, h5, h6, -⟩ := Cond.codeWith_spec (atoms_spec (ws := Cond.codeWith y cc maxL ret hh :: lw_good) h _ List.mem_cons_self)
    cases hn.symm.trans hn9
    exact ⟨meth, c, h1, h2, h3, h4, h5, h6⟩
  · intro p e s m args below meth c s₁ B hml hP _
    have hh0 : s₁.heap = s.heap := by rw [B.state]; rfl
    have hts0 := atoms_spec (ws := Cond.codeWith y cc maxL ret hh :: lw_good) B.pre
    have hown : s.vm.findClass y.cls = some m.cls := findClass_of_methodNamed B.named
    obtain ⟨t, a1, o, b1, b2, b3⟩ := body p e s m args below meth c ⟨B.exec, B.bytes, hml, hown, fun w hw => hts0 w (List.mem_cons_of_mem _ hw)⟩ B.returns B.notSynchronized (vx_table (x := y) B (hts0 _ List.mem_cons_self)) hP s₁ hh0 (Stand.of_body B)
    exact ⟨t, o, a1, b1, b2, ⟨b3.1, b3.2⟩⟩
end GX2
def f_X8_toss (ad : gA) (σ : gS) (a1 : Int32) : Option Int32 := (f_X8_refusalOfLaw ad σ a1).bind fun q1 => if q1 = 0 then (if g_ix a1 8 then (if σ 30 0 a1.toNatClampNeg < 0 then none else (if σ 7 a1.toNatClampNeg 1 < 0 then none else ((f_X2_looksAtLists ad σ (σ 7 a1.toNatClampNeg 1).toNatClampNeg).bind fun q2 => if q2 = 0 then some (-15 : Int32) else some (σ 2 (σ 7 a1.toNatClampNeg 1).toNatClampNeg 0)))) else none) else some q1
set_option maxHeartbeats 4000000 in
set_option maxRecDepth 100000 in
theorem c_X8_toss (l : Launch) (hst : l.stackTraces = false) (D : va_G) (cy : Nat → ClassId) (A : Nat → Prop) (ad : gA) (L : gL) (σ : gS) (hT : (8, 0) ∈ L) (a1 : Int32) (r0 : Int32) (hf : f_X8_toss ad σ a1 = some r0) : Met l yX8_toss (Cond.codeWith yX8_toss cX8_toss 5 (some .int) [(22, 26, 29, 276)] :: lw_good) ({ frames := 10, cells := 1, slots := 6, locals := 160 } : Room) (va_Pc [.ref (ad 8 0), .int a1] (g_PreX D cy A ad L σ)) (va_Qi (fun r (u : gS) => r = r0 ∧ u = σ) (g_Pre D cy A ad L) A) 1 6 A := by
  refine g_metW (by decide) (fun p e s m args below meth c CF hr hlocks htab hv => ?_)
  obtain ⟨rfl, ⟨⟨hP, hD, hCl⟩, hKN, hA⟩, hX⟩ := hv
  have C : g_C yX8_toss.cls cX8_toss 5 D cy A p m c s ([Value.ref (ad 8 0), .int a1] : List Value).toArray := ⟨CF, hKN, hA⟩
  have G : g_H D cy A ad L σ s.heap s.heap [] := ⟨hP, hD, va_S.rf, hCl⟩
  have hl := lv_entry ([.ref (ad 8 0), .int a1]) (n := 5) (Nat.le_of_ble_eq_true rfl)
  rw [lg_entry_eq]
  generalize (lg_sl ([.ref (ad 8 0), .int a1]) ++ List.replicate (5 - (lg_sl ([.ref (ad 8 0), .int a1])).length) Slot.unset).toArray = ls at hl ⊢
  have hl : lv_has ls 5 [(0, .ref (ad 8 0)), (1, .int a1)] := hl
  have hts := C.1.2.2.2.2
  unfold f_X8_toss at hf
  refine lv_aload_n C.x C.b dX8_toss_0 rfl (lv_at hl 0 rfl) ?_
  refine lv_iload_n C.x C.b dX8_toss_1 rfl (lv_at hl 1 rfl) ?_
  obtain ⟨q1, eq1, hf⟩ := g_b hf
  refine g_calli G (g_runV (As := [.int a1]) (rest := []) C G 8 0 (c_X8_refusalOfLaw l D cy A ad L σ hT a1 q1 eq1) ⟨tw824, tw54, tw821, ⟨tw823, tw16⟩, hd_X8_refusalOfLaw⟩ (by decide) hT rfl ⟨rfl, by decide⟩ hl.1 rfl (Nat.le_of_ble_eq_true rfl) dX8_toss_2 ⟨Nat.le_of_ble_eq_true rfl, Nat.le_of_ble_eq_true rfl⟩) (fun H locs G => ?_)
  refine lv_istore_n (lv' := [(2, .int q1), (0, .ref (ad 8 0)), (1, .int a1)]) C.x C.b dX8_toss_5 rfl hl (by decide) rfl (fun ls hl => ?_)
  refine lv_iload_n C.x C.b dX8_toss_6 rfl (lv_at hl 0 rfl) ?_
  refine lv_if_eq (tgt := 12) C.x C.b dX8_toss_7 (by decide) (fun cb => ?_) (fun cb => ?_)
  · have hf := g_t cb hf
    refine lv_aload_n C.x C.b dX8_toss_12 rfl (lv_at hl 1 rfl) ?_
    refine g_getr C G 8 0 3 30 hT rfl ginX8 (by decide) tw287 dX8_toss_13 (fun hL1 => ?_)
    refine lv_iload_n C.x C.b dX8_toss_16 rfl (lv_at hl 2 rfl) ?_
    obtain ⟨hi, hf⟩ := g_ok hf
    obtain ⟨hq, hf⟩ := g_okn hf
    refine g_aldq (n := 8) C G 30 0 7 hL1 (by decide) rfl rfl hi hq dX8_toss_17 (fun hL2 => ?_)
    obtain ⟨hn1, hf⟩ := g_okn hf
    refine g_getq C G a1.toNatClampNeg hL2 ginX7 tw267 dX8_toss_18 (fun cb => absurd cb hn1) (fun _ hL3 => ?_)
    refine lv_astore_n (lv' := [(3, .ref (ad 2 (σ 7 a1.toNatClampNeg 1).toNatClampNeg)), (2, .int q1), (0, .ref (ad 8 0)), (1, .int a1)]) C.x C.b dX8_toss_21 rfl hl (by decide) rfl (fun ls hl => ?_)
    refine lv_aload_n C.x C.b dX8_toss_22 rfl (lv_at hl 0 rfl) ?_
    obtain ⟨q2, eq2, hf⟩ := g_b hf
    refine vx_callv (g_runX (As := []) (rest := []) C hX G 2 (σ 7 a1.toNatClampNeg 1).toNatClampNeg (c_X2_fail l hst D cy A ad L σ _ hL3 q2 eq2) ⟨tw841, tw64, tw838, ⟨tw839, tw840⟩, hd_X2_fail⟩ (by decide) hL3 rfl ⟨rfl, by decide⟩ hl.1 rfl (Nat.le_of_ble_eq_true rfl) dX8_toss_23 ⟨Nat.le_of_ble_eq_true rfl, Nat.le_of_ble_eq_true rfl⟩) G.2.2.1 (fun _ _ h => h) (fun _ h => h) (fun _ _ h => h) (fun E ce q9 u t H1 locs1 ht hvm hp hB hz hk hS hcell hv9 hcl => ?_) (fun u t H1 locs1 ht hvm hp hB hz hk hS => ?_)
    · obtain ⟨rfl, hq2⟩ := hp
      obtain ⟨rfl, hB⟩ := hB
      have hf := g_f hq2 hf
      subst ht
      have G : g_H D cy A ad L u s.heap t.heap locs1 := ⟨hB.1, hB.2.1, hS, hB.2.2⟩
      refine vx_catch (name := "java/lang/IllegalStateException") C.1.2.2.2.1 [] ⟨22, 26, 29, 276⟩ [] htab (fun z hz => absurd hz List.not_mem_nil) (by decide) (by decide) (hts _ tw837) (va_Nw.use rfl (hX.2.2.1 _ (by simp [g_xw]))) hcell hv9 hcl ?_
      refine lv_astore (lv' := [(4, .ref q9), (3, .ref (ad 2 (u 7 a1.toNatClampNeg 1).toNatClampNeg)), (2, .int q1), (0, .ref (ad 8 0)), (1, .int a1)]) C.x C.b dX8_toss_29 hl (by decide) rfl (fun ls hl => ?_)
      refine lv_aload_n C.x C.b dX8_toss_31 rfl (lv_at hl 1 rfl) ?_
      refine g_geti C G 2 (u 7 a1.toNatClampNeg 1).toNatClampNeg 0 hL3 rfl ginX2 (by decide) tw453 dX8_toss_32 ?_
      exact g_eip C G hr hlocks hf dX8_toss_35
    · obtain ⟨rfl, hq2⟩ := hp
      have hf := g_t hq2 hf
      subst ht
      have G : g_H D cy A ad L u s.heap t.heap locs1 := ⟨hB.1.1, hB.1.2.1, hS, hB.1.2.2⟩
      refine lv_goto (tgt := 36) C.x C.b dX8_toss_26 (by decide) ?_
      refine lv_bipush (v := (-15 : Int32)) C.x C.b dX8_toss_36 (by decide) ?_
      exact g_eip C G hr hlocks hf dX8_toss_38
  · have hf := g_f cb hf
    refine lv_iload_n C.x C.b dX8_toss_10 rfl (lv_at hl 0 rfl) ?_
    refine W.widen (k := 1) (n := 6) (Nat.le_of_ble_eq_true rfl) (Nat.le_of_ble_eq_true rfl) ?_
    exact g_eip C G hr hlocks hf dX8_toss_11
theorem hd_X8_toss : g_hd yX8_toss 1 := by decide +kernel
theorem hd_X8_element : g_hd yX8_element 2 := by decide +kernel
/-- element: 0 and the value; 1: IllegalArgumentException; 2: IllegalStateException -/
def f_X8_element (ad : gA) (σ : gS) (a1 a2 : Int32) : Option (Nat × Int64) := (f_X8_isShelf ad σ a1).bind fun q1 => if q1 = 0 then some (1, 0) else (if g_ix a1 8 then (if σ 30 0 a1.toNatClampNeg < 0 then none else ((f_X7_isRow ad σ a1.toNatClampNeg).bind fun q2 => if q2 = 0 then some (2, 0) else (if a2 < 0 then some (2, 0) else (if a2 < (σ 7 a1.toNatClampNeg 2) then ((f_X7_at ad σ a1.toNatClampNeg a2).bind fun q3 => some (0, q3)) else some (2, 0))))) else none)
abbrev g_xe (k0 : Nat) (E : String) : Prop := (k0 = 1 ∧ E = "java/lang/IllegalArgumentException") ∨ (k0 = 2 ∧ E = "java/lang/IllegalStateException")
section GX3
variable {p : Program} {l : Launch} {e : Env} {R : Room} {s : State} {m : MethodId} {args : Array Value} {below : List Frame} {meth : Method} {c : Code} {H : Heap} {locs : List Loc} {cells slots : Nat} {Q : State → Prop}
variable {own : String} {cc : ByteArray} {nL : Nat} {D : va_G} {cy : Nat → ClassId} {A : Nat → Prop} {ad : gA} {L : gL} {σ σ0 : gS}
theorem g_thrown2 {XE : String} {k0 : Nat} (C : g_C own cc nL D cy A p m c s args) (G : g_H D cy A ad L σ s.heap H locs) (hp : g_xe k0 XE) : ∀ t : State, s.vm.Alike t.vm → H.size ≤ t.heap.size → (∀ q : Nat, q < H.size → t.heap[q]? = H[q]?) → vx_X (fun (u : gS) => u = σ) (fun E (u : gS) t => g_xe k0 E ∧ g_PreE D cy A ad L u t) A XE s t := by
  intro t ha hz hk
  obtain ⟨hP, hD, hS, hCl⟩ := G
  refine ⟨σ, rfl, ⟨hp, hP.kept (fun k q hq => hk q.1 ((hP k q hq).lt)), hD, hCl⟩, Nat.le_trans hS.1 hz, fun q h1 h2 => ?_⟩
  rw [hk q (Nat.lt_of_lt_of_le h1 hS.1)]
  exact hS.2.1 q h1 h2
end GX3
set_option maxHeartbeats 4000000 in
set_option maxRecDepth 100000 in
theorem c_X8_element (l : Launch) (hst : l.stackTraces = false) (D : va_G) (cy : Nat → ClassId) (A : Nat → Prop) (ad : gA) (L : gL) (σ : gS) (hT : (8, 0) ∈ L) (a1 a2 : Int32) (k0 : Nat) (v0 : Int64) (hf : f_X8_element ad σ a1 a2 = some (k0, v0)) : vx_Met l yX8_element (Cond.code yX8_element cX8_element 4 (some .long) :: lw_good) ({ frames := 8, cells := 1, slots := 6, locals := 120 } : Room) (va_Pc [.ref (ad 8 0), .int a1, .int a2] (g_PreX D cy A ad L σ)) (va_Ql (fun r (u : gS) => r = v0 ∧ u = σ ∧ k0 = 0) (g_Pre D cy A ad L) A) (vx_X (fun (u : gS) => u = σ) (fun E (u : gS) t => g_xe k0 E ∧ g_PreE D cy A ad L u t) A) 1 6 A := by
  refine g_metX (by decide) (Nat.le_of_ble_eq_true rfl) (fun p e s m below meth c C hr hlocks htab hX G ls hl => ?_)
  have hl : lv_has ls 4 [(0, .ref (ad 8 0)), (1, .int a1), (2, .int a2)] := hl
  have hts := C.1.2.2.2.2
  have hatA : ∀ w ∈ vx_atS RX8 270 "java/lang/IllegalArgumentException" ["java/lang/RuntimeException", "java/lang/Exception"], w.before ([Value.ref (ad 8 0), .int a1, .int a2] : List Value).toArray s = true := vx_hat (fun w hw => hts w (List.mem_filter.mpr ⟨g_xgdA w hw, (List.mem_filter.mp hw).2⟩)) g_xatA (fun w hw => va_Nw.use (g_xw_on w hw) (hX.2.2.1 w hw))
  have hatS : ∀ w ∈ vx_atS RX8 280 "java/lang/IllegalStateException" ["java/lang/RuntimeException", "java/lang/Exception"], w.before ([Value.ref (ad 8 0), .int a1, .int a2] : List Value).toArray s = true := vx_hat (fun w hw => hts w (List.mem_filter.mpr ⟨g_xgdS w hw, (List.mem_filter.mp hw).2⟩)) g_xatS (fun w hw => va_Nw.use (g_xw_on w hw) (hX.2.2.1 w hw))
  obtain ⟨s1, hs1⟩ := hX.2.1 ("OfficeLadder", 268, "no such shelf") (by simp [g_xs])
  obtain ⟨s2, hs2⟩ := hX.2.1 ("OfficeLadder", 278, "no row is held") (by simp [g_xs])
  obtain ⟨s3, hs3⟩ := hX.2.1 ("OfficeLadder", 284, "the row has no such place") (by simp [g_xs])
  unfold f_X8_element at hf
  refine lv_iload_n C.x C.b dX8_element_0 rfl (lv_at hl 1 rfl) ?_
  obtain ⟨q1, eq1, hf⟩ := g_b hf
  refine g_calli G (g_runS (As := [.int a1]) (rest := []) C G (c_X8_isShelf l D cy A ad L σ a1 q1 eq1) ⟨tw766, tw54, tw764, tw765, hd_X8_isShelf⟩ (by decide) hl.1 rfl (Nat.le_of_ble_eq_true rfl) dX8_element_1 ⟨Nat.le_of_ble_eq_true rfl, Nat.le_of_ble_eq_true rfl⟩) (fun H locs G => ?_)
  refine lv_if_ne (tgt := 18) C.x C.b dX8_element_4 (by decide) (fun cb => ?_) (fun cb => ?_)
  · have hf := g_f cb hf
    refine lv_aload_n C.x C.b dX8_element_18 rfl (lv_at hl 0 rfl) ?_
    refine g_getr C G 8 0 3 30 hT rfl ginX8 (by decide) tw287 dX8_element_19 (fun hL1 => ?_)
    refine lv_iload_n C.x C.b dX8_element_22 rfl (lv_at hl 1 rfl) ?_
    obtain ⟨hi, hf⟩ := g_ok hf
    obtain ⟨hq, hf⟩ := g_okn hf
    refine g_aldq (n := 8) C G 30 0 7 hL1 (by decide) rfl rfl hi hq dX8_element_23 (fun hL2 => ?_)
    refine lv_astore_n (lv' := [(3, .ref (ad 7 a1.toNatClampNeg)), (0, .ref (ad 8 0)), (1, .int a1), (2, .int a2)]) C.x C.b dX8_element_24 rfl hl (by decide) rfl (fun ls hl => ?_)
    refine lv_aload_n C.x C.b dX8_element_25 rfl (lv_at hl 0 rfl) ?_
    obtain ⟨q2, eq2, hf⟩ := g_b hf
    refine g_calli G (g_runV (As := []) (rest := []) C G 7 a1.toNatClampNeg (c_X7_isRow l D cy A ad L σ _ hL2 q2 eq2) ⟨tw805, tw59, tw802, ⟨tw803, tw804⟩, hd_X7_isRow⟩ (by decide) hL2 rfl ⟨rfl, by decide⟩ hl.1 rfl (Nat.le_of_ble_eq_true rfl) dX8_element_26 ⟨Nat.le_of_ble_eq_true rfl, Nat.le_of_ble_eq_true rfl⟩) (fun H locs G => ?_)
    refine lv_if_ne (tgt := 43) C.x C.b dX8_element_29 (by decide) (fun cb => ?_) (fun cb => ?_)
    · have hf := g_f cb hf
      refine lv_iload_n C.x C.b dX8_element_43 rfl (lv_at hl 3 rfl) ?_
      have thr : ∀ (H : Heap) (locs : List Loc) (ls : Array Slot), g_H D cy A ad L σ s.heap H locs → ls.size = 4 → some (2, (0 : Int64)) = some (k0, v0) → W p l e ({ frames := 8, cells := 1, slots := 6, locals := 120 } : Room) s m ([Value.ref (ad 8 0), .int a1, .int a2] : List Value).toArray below meth c H locs 0 0 (vx_MQ below (va_Ql (fun r (u : gS) => r = v0 ∧ u = σ ∧ k0 = 0) (g_Pre D cy A ad L) A) (vx_X (fun (u : gS) => u = σ) (fun E (u : gS) t => g_xe k0 E ∧ g_PreE D cy A ad L u t) A) ([Value.ref (ad 8 0), .int a1, .int a2] : List Value).toArray s 1 6 A) (F0 m 55 ls []) := by
        intro H locs ls G hls hf
        cases hf
        exact vx_throwSW C.x C.b hst C.1.2.2.2.1 (by decide +kernel) (by decide +kernel) (hts _ tw837) (hts _ tw70) hs3 hatS g_xotS hX.1.1 hX.1.2 G.2.2.1 (hls.trans C.1.2.2.1.symm) dX8_element_55 dX8_element_58 dX8_element_59 dX8_element_62 dX8_element_65 (fun x hx => absurd (htab x hx) id) (by decide) (by decide) (by decide) (by decide) hlocks (g_thrown2 C G (Or.inr ⟨rfl, rfl⟩)) G.2.2.1.2.2 (by decide) (by decide)
      refine lv_if_lt (tgt := 55) C.x C.b dX8_element_44 (by decide) (fun cb => ?_) (fun cb => ?_)
      · exact thr _ _ ls G hl.1 (g_t cb hf)
      · have hf := g_f cb hf
        refine lv_iload_n C.x C.b dX8_element_47 rfl (lv_at hl 3 rfl) ?_
        refine lv_aload_n C.x C.b dX8_element_48 rfl (lv_at hl 0 rfl) ?_
        refine g_geti C G 7 a1.toNatClampNeg 2 hL2 rfl ginX7 (by decide) tw269 dX8_element_49 ?_
        refine lv_icmp_lt (tgt := 66) C.x C.b dX8_element_52 (by decide) (fun cb => ?_) (fun cb => ?_)
        · have hf := g_t cb hf
          refine lv_aload_n C.x C.b dX8_element_66 rfl (lv_at hl 0 rfl) ?_
          refine lv_iload_n C.x C.b dX8_element_67 rfl (lv_at hl 3 rfl) ?_
          obtain ⟨q3, eq3, hf⟩ := g_b hf
          refine g_calll G (g_runV (As := [.int a2]) (rest := []) C G 7 a1.toNatClampNeg (c_X7_at l D cy A ad L σ _ hL2 a2 q3 eq3) ⟨tw939, tw59, tw936, ⟨tw937, tw938⟩, hd_X7_at⟩ (by decide) hL2 rfl ⟨rfl, by decide⟩ hl.1 rfl (Nat.le_of_ble_eq_true rfl) dX8_element_68 ⟨Nat.le_of_ble_eq_true rfl, Nat.le_of_ble_eq_true rfl⟩) (fun H locs G => ?_)
          cases hf
          refine vx_ret ?_
          refine W.widen (k := 1) (n := 6) (Nat.le_of_ble_eq_true rfl) (Nat.le_of_ble_eq_true rfl) ?_
          exact W.lret C.x C.b hr (fun t ht hW => ⟨⟨_, σ, rfl, ⟨rfl, rfl, rfl⟩, g_pre C G t ht hW⟩, G.2.2.1.F ht⟩) G.2.2.1.2.2 dX8_element_71 hlocks
        · exact thr _ _ ls G hl.1 (g_f cb hf)
    · have hf := g_t cb hf
      cases hf
      exact vx_throwSW C.x C.b hst C.1.2.2.2.1 (by decide +kernel) (by decide +kernel) (hts _ tw837) (hts _ tw70) hs2 hatS g_xotS hX.1.1 hX.1.2 G.2.2.1 (hl.1.trans C.1.2.2.1.symm) dX8_element_32 dX8_element_35 dX8_element_36 dX8_element_39 dX8_element_42 (fun x hx => absurd (htab x hx) id) (by decide) (by decide) (by decide) (by decide) hlocks (g_thrown2 C G (Or.inr ⟨rfl, rfl⟩)) G.2.2.1.2.2 (by decide) (by decide)
  · have hf := g_t cb hf
    cases hf
    exact vx_throwSW C.x C.b hst C.1.2.2.2.1 (by decide +kernel) (by decide +kernel) (hts _ tw917) (hts _ tw69) hs1 hatA g_xotA hX.1.1 hX.1.2 G.2.2.1 (hl.1.trans C.1.2.2.1.symm) dX8_element_7 dX8_element_10 dX8_element_11 dX8_element_14 dX8_element_17 (fun x hx => absurd (htab x hx) id) (by decide) (by decide) (by decide) (by decide) hlocks (g_thrown2 C G (Or.inl ⟨rfl, rfl⟩)) G.2.2.1.2.2 (by decide) (by decide)
