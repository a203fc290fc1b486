def g_xw : List Cond := [.castable "java/lang/IllegalStateException" "java/lang/IllegalStateException", .castable "java/lang/IllegalArgumentException" "java/lang/IllegalArgumentException", .declares ⟨"java/lang/RuntimeException", "<init>", "()V"⟩, .declares ⟨"java/lang/RuntimeException", "<init>", "(Ljava/lang/String;)V"⟩, .declares ⟨"java/lang/Exception", "<init>", "()V"⟩, .declares ⟨"java/lang/Exception", "<init>", "(Ljava/lang/String;)V"⟩, .declares ⟨"java/lang/Throwable", "<init>", "()V"⟩, .declares ⟨"java/lang/Throwable", "<init>", "(Ljava/lang/String;)V"⟩]
theorem g_xw_on : ∀ w ∈ g_xw, w.onTables = true := by decide +kernel
theorem g_xatF : ∀ w ∈ (vx_atS RX2 64 "java/lang/IllegalStateException" ["java/lang/RuntimeException", "java/lang/Exception"]).filter (fun w => !goodWord w), w ∈ g_xw := by decide +kernel
theorem g_xatA : ∀ w ∈ (vx_atS RX8 270 "java/lang/IllegalArgumentException" ["java/lang/RuntimeException", "java/lang/Exception"]).filter (fun w => !goodWord w), w ∈ g_xw := by decide +kernel
theorem g_xatS : ∀ w ∈ (vx_atS RX8 280 "java/lang/IllegalStateException" ["java/lang/RuntimeException", "java/lang/Exception"]).filter (fun w => !goodWord w), w ∈ g_xw := by decide +kernel
theorem g_xgdF : ∀ w ∈ (vx_atS RX2 64 "java/lang/IllegalStateException" ["java/lang/RuntimeException", "java/lang/Exception"]).filter goodWord, w ∈ lw_tbl := by decide +kernel
theorem g_xgdA : ∀ w ∈ (vx_atS RX8 270 "java/lang/IllegalArgumentException" ["java/lang/RuntimeException", "java/lang/Exception"]).filter goodWord, w ∈ lw_tbl := by decide +kernel
theorem g_xgdS : ∀ w ∈ (vx_atS RX8 280 "java/lang/IllegalStateException" ["java/lang/RuntimeException", "java/lang/Exception"]).filter goodWord, w ∈ lw_tbl := by decide +kernel
theorem g_xotF : ∀ w ∈ Cond.classLink RX2 60 "java/lang/IllegalStateException" :: Cond.initialized "java/lang/IllegalStateException" :: vx_atS RX2 64 "java/lang/IllegalStateException" ["java/lang/RuntimeException", "java/lang/Exception"], vx_ot w = true := by decide +kernel
theorem g_xotA : ∀ w ∈ Cond.classLink RX8 266 "java/lang/IllegalArgumentException" :: Cond.initialized "java/lang/IllegalArgumentException" :: vx_atS RX8 270 "java/lang/IllegalArgumentException" ["java/lang/RuntimeException", "java/lang/Exception"], vx_ot w = true := by decide +kernel
theorem g_xotS : ∀ w ∈ Cond.classLink RX8 276 "java/lang/IllegalStateException" :: Cond.initialized "java/lang/IllegalStateException" :: vx_atS RX8 280 "java/lang/IllegalStateException" ["java/lang/RuntimeException", "java/lang/Exception"], vx_ot w = true := by decide +kernel
def g_xs : List (String × Nat × String) := [("OfficeLadder$Law", 62, "the law is not kept"), ("OfficeLadder", 268, "no such shelf"), ("OfficeLadder", 278, "no row is held"), ("OfficeLadder", 284, "the row has no such place")]
/-- what a throw asks of the start: Throwable's statics, the texts, the words that aren't kept by themselves -/
def g_X (A : Nat → Prop) (U : State) : Prop := (vx_Zq Bundle.tN "UNASSIGNED_STACK" Bundle.steD A U U.heap ∧ vx_Zq Bundle.tN "SUPPRESSED_SENTINEL" Bundle.listD A U U.heap) ∧ (∀ q ∈ g_xs, ∃ sa, vk_R q.1 q.2.1 q.2.2 sa U) ∧ (∀ w ∈ g_xw, va_Nw w U) ∧ va_Nc "java/lang/IllegalStateException" "java/lang/IllegalArgumentException" U
theorem g_xw_warm {s U : State} (hW : s.WarmedH U.vm) (h : ∀ w ∈ g_xw, va_Nw w s) : ∀ w ∈ g_xw, va_Nw w U := by
  unfold g_xw at *
  simp only [List.forall_mem_cons] at h ⊢
  obtain ⟨h1, h2, h3, h4, h5, h6, h7, h8, -⟩ := h
  have dc : ∀ x, va_Nw (.declares x) s → va_Nw (.declares x) U := fun x hZ => va_tabs rfl (rfl : (s.setVm U.vm).vm = U.vm) (by rw [Cond.declares_setVm hW.alike]; exact hZ)
  exact ⟨h1.warmC hW, h2.warmC hW, dc _ h3, dc _ h4, dc _ h5, dc _ h6, dc _ h7, dc _ h8, fun _ h => absurd h List.not_mem_nil⟩
theorem g_X.goes {A : Nat → Prop} {s U : State} {H : Heap} {locs : List Loc} (h : g_X A s) (hS : va_S A s.heap H locs) (hU : U.heap = H) (hW : s.WarmedH U.vm) : g_X A U := by
  obtain ⟨⟨h1, h2⟩, h3, h4, h5⟩ := h
  refine ⟨⟨?_, ?_⟩, fun q hq => ?_, g_xw_warm hW h4, h5.moved hW.alike⟩
  · rw [hU]
    exact (h1.kept (H1 := H) (fun a g1 g2 => hS.2.1 a g1 g2)).moved hW.alike
  · rw [hU]
    exact (h2.kept (H1 := H) (fun a g1 g2 => hS.2.1 a g1 g2)).moved hW.alike
  · obtain ⟨sa, hsa⟩ := h3 q hq
    exact ⟨sa, hsa.warm hW⟩
def g_PreX (D : va_G) (cy : Nat → ClassId) (A : Nat → Prop) (ad : gA) (L : gL) (σ : gS) (U : State) : Prop := g_Pre D cy A ad L σ U ∧ g_X A U
def g_PreE (D : va_G) (cy : Nat → ClassId) (A : Nat → Prop) (ad : gA) (L : gL) (σ : gS) (U : State) : Prop := va_P D vwCl (g_ws cy ad L σ) U.heap ∧ va_D A (g_ws cy ad L σ) ∧ g_Cl L σ
theorem g_PreX.blind {D : va_G} {cy : Nat → ClassId} {A : Nat → Prop} {ad : gA} {L : gL} {σ : gS} {As : List Value} : FrameBlind (va_Pc As (g_PreX D cy A ad L σ)) := by
  intro a U g mk q
  refine ⟨q.1, (g_Pre.blind (As := As) a U g mk ⟨q.1, q.2.1⟩).2, ?_⟩
  obtain ⟨⟨h1, h2⟩, h3, h4, h5⟩ := q.2.2
  have ha : U.vm.Alike (U.calling g mk a).vm := Vm.Alike.refl U.vm
  refine ⟨⟨h1.moved ha, h2.moved ha⟩, fun z hz => ?_, fun w hw => ?_, h5.moved ha⟩
  · obtain ⟨sa, hsa⟩ := h3 z hz
    exact ⟨sa, hsa.same rfl⟩
  · exact va_Nw.same (u := U) (U := U.calling g mk a) (g_xw_on w hw) rfl (h4 w hw)
section GX
variable {p : Program} {l : Launch} {e : Env} {R : Room} {s : State} {m : MethodId} {args : Array Value} {below : List Frame} {meth : Method} {c : Code} {H : Heap} {locs : List Loc} {cells slots : Nat} {Q : State → Prop}
variable {own : String} {cc : ByteArray} {nL : Nat} {D : va_G} {cy : Nat → ClassId} {A : Nat → Prop} {ad : gA} {L : gL} {σ σ0 : gS} {pc : Nat} {ls : Array Slot} {rest st : List Value}
theorem g_metX {y : MethodName} {maxL : Nat} {ret : Option FieldType} {rm : Room} {As : List Value} {Qc : Array Value → State → Outcome → State → Prop} {XC : String → State → State → Prop} {mc ms : Nat} (hy : plainName y.cls = true) (hle : (lg_sl As).length ≤ maxL)
    (body : ∀ (p : Program) (e : Env) (s : State) (m : MethodId) (below : List Frame) (meth : Method) (c : Code), g_C y.cls cc maxL D cy A p m c s As.toArray → meth.sig.returnType = ret → meth.locks = false → (∀ x ∈ c.exceptionTable.toList, False) → g_X A s → g_H D cy A ad L σ s.heap s.heap [] → ∀ ls : Array Slot, lv_has ls maxL (lv_args 0 As) →
      W p l e rm s m As.toArray below meth c s.heap [] 0 0 (vx_MQ below Qc XC As.toArray s mc ms A) (F0 m 0 ls [])) :
    vx_Met l y (Cond.code y cc maxL ret :: lw_good) rm (va_Pc As (g_PreX D cy A ad L σ)) Qc XC mc ms A := by
  refine vx_ofW (cc := cc) (maxL := maxL) (ret := ret) hy rfl ?_
  intro p e s m args below meth c s₁ B hml htab hv
  obtain ⟨rfl, ⟨⟨hP, hD, hCl⟩, hKN, hA⟩, hX⟩ := hv
  have hts0 := atoms_spec (ws := Cond.code y cc maxL ret :: lw_good) B.pre
  have hown : s.vm.findClass y.cls = some m.cls := findClass_of_methodNamed B.named
  have hl := lv_entry As (n := maxL) hle
  rw [lg_entry_eq]
  exact body p e s m below meth c ⟨⟨B.exec, B.bytes, hml, hown, fun w hw => hts0 w (List.mem_cons_of_mem _ hw)⟩, hKN, hA⟩ B.returns B.notSynchronized htab hX ⟨hP, hD, va_S.rf, hCl⟩ _ hl
/-- the world where a throw has left the method -/
theorem g_thrown {XE : String} {px : gS → Prop} (C : g_C own cc nL D cy A p m c s args) (G : g_H D cy A ad L σ s.heap H locs) (hp : px σ) : ∀ t : State, s.vm.Alike t.vm → H.size ≤ t.heap.size → (∀ q : Nat, q < H.size → t.heap[q]? = H[q]?) → vx_X px (fun E (u : gS) t => E = XE ∧ g_PreE D cy A ad L u t) A XE s t := by
  intro t ha hz hk
  obtain ⟨hP, hD, hS, hCl⟩ := G
  refine ⟨σ, hp, ⟨rfl, hP.kept (fun k q hq => hk q.1 ((hP k q hq).lt)), hD, hCl⟩, Nat.le_trans hS.1 hz, fun q h1 h2 => ?_⟩
  rw [hk q (Nat.lt_of_lt_of_le h1 hS.1)]
  exact hS.2.1 q h1 h2
end GX
theorem hd_X2_fail : g_hd yX2_fail 0 := by decide +kernel
set_option maxHeartbeats 4000000 in
set_option maxRecDepth 100000 in
/-- Law.fail: returns where looksAtLists says 0, else throws -/
theorem c_X2_fail (l : Launch) (hst : l.stackTraces = false) (D : va_G) (cy : Nat → ClassId) (A : Nat → Prop) (ad : gA) (L : gL) (σ : gS) (o : Nat) (hT : (2, o) ∈ L) (q0 : Int32) (hf : f_X2_looksAtLists ad σ o = some q0) : vx_Met l yX2_fail (Cond.code yX2_fail cX2_fail 1 none :: lw_good) ({ frames := 8, cells := 1, slots := 6, locals := 120 } : Room) (va_Pc [.ref (ad 2 o)] (g_PreX D cy A ad L σ)) (va_Qv (fun (u : gS) => u = σ ∧ q0 = 0) (g_Pre D cy A ad L) A) (vx_X (fun (u : gS) => u = σ ∧ ¬ q0 = 0) (fun E (u : gS) t => E = "java/lang/IllegalStateException" ∧ g_PreE D cy A ad L u t) A) 1 6 A := by
  refine g_metX (by decide) (Nat.le_of_ble_eq_true rfl) (fun p e s m below meth c C hr hlocks htab hX G ls hl => ?_)
  have hl : lv_has ls 1 [(0, .ref (ad 2 o))] := hl
  have hts := C.1.2.2.2.2
  refine lv_aload_n C.x C.b dX2_fail_0 rfl (lv_at hl 0 rfl) ?_
  refine g_calli G (g_runV (As := []) (rest := []) C G 2 o (c_X2_looksAtLists l D cy A ad L σ o hT q0 hf) ⟨tw832, tw64, tw829, ⟨tw830, tw831⟩, hd_X2_looksAtLists⟩ (by decide) hT rfl ⟨rfl, by decide⟩ hl.1 rfl (Nat.le_of_ble_eq_true rfl) dX2_fail_1 ⟨Nat.le_of_ble_eq_true rfl, Nat.le_of_ble_eq_true rfl⟩) (fun H locs G => ?_)
  refine lv_if_eq (tgt := 17) C.x C.b dX2_fail_4 (by decide) (fun cb => ?_) (fun cb => ?_)
  · refine vx_ret ?_
    refine W.widen (k := 1) (n := 6) (Nat.le_of_ble_eq_true rfl) (Nat.le_of_ble_eq_true rfl) ?_
    exact W.vret C.x C.b hr (fun t ht hW => ⟨⟨σ, rfl, ⟨rfl, cb⟩, g_pre C G t ht hW⟩, G.2.2.1.F ht⟩) G.2.2.1.2.2 dX2_fail_17 hlocks
  · obtain ⟨sa, hsa⟩ := hX.2.1 ("OfficeLadder$Law", 62, "the law is not kept") (by simp [g_xs])
    exact vx_throwS C.x C.b hst C.1.2.2.2.1 (by decide +kernel) (by decide +kernel) (hts _ tw842) (hts _ tw70) hsa (vx_hat (fun w hw => hts w (List.mem_filter.mpr ⟨g_xgdF w hw, (List.mem_filter.mp hw).2⟩)) g_xatF (fun w hw => va_Nw.use (g_xw_on w hw) (hX.2.2.1 w hw))) g_xotF hX.1.1 hX.1.2 G.2.2.1 (hl.1.trans C.1.2.2.1.symm) dX2_fail_7 dX2_fail_10 dX2_fail_11 dX2_fail_13 dX2_fail_16 (fun x hx => absurd (htab x hx) id) (by decide) (by decide) (by decide) (by decide) hlocks (g_thrown C G ⟨rfl, cb⟩) G.2.2.1.2.2 (by decide) (by decide)
