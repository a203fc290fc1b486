theorem dL_element_0 : decode cL_element 0 = .ok (.aload_n 3, 1) := by decide +kernel
theorem dL_element_1 : decode cL_element 1 = .ok (.iconst 0, 1) := by decide +kernel
theorem dL_element_2 : decode cL_element 2 = .ok (.aload_n 0, 1) := by decide +kernel
theorem dL_element_3 : decode cL_element 3 = .ok (.iload_n 1, 1) := by decide +kernel
theorem dL_element_4 : decode cL_element 4 = .ok (.iload_n 2, 1) := by decide +kernel
theorem dL_element_5 : decode cL_element 5 = .ok (.invokevirtual 7, 3) := by decide +kernel
theorem dL_element_8 : decode cL_element 8 = .ok (.lastore, 1) := by decide +kernel
theorem dL_element_9 : decode cL_element 9 = .ok (.goto 11, 3) := by decide +kernel
theorem dL_element_12 : decode cL_element 12 = .ok (.astore 4, 2) := by decide +kernel
theorem dL_element_14 : decode cL_element 14 = .ok (.iconst 1, 1) := by decide +kernel
theorem dL_element_15 : decode cL_element 15 = .ok (.ireturn, 1) := by decide +kernel
theorem dL_element_16 : decode cL_element 16 = .ok (.astore 4, 2) := by decide +kernel
theorem dL_element_18 : decode cL_element 18 = .ok (.iconst 2, 1) := by decide +kernel
theorem dL_element_19 : decode cL_element 19 = .ok (.ireturn, 1) := by decide +kernel
theorem dL_element_20 : decode cL_element 20 = .ok (.iconst 0, 1) := by decide +kernel
theorem dL_element_21 : decode cL_element 21 = .ok (.ireturn, 1) := by decide +kernel
theorem tw910 : (Jvm.Cond.codeWith ({ cls := "OfficeLadderLaw", name := "element", desc := "(LOfficeLadder;II[J)I" } : Jvm.MethodName) method_3_code (5 : Nat) (Option.some Jvm.ClassFile.FieldType.int) [((0 : Nat), (9 : Nat), (12 : Nat), (13 : Nat)), ((0 : Nat), (9 : Nat), (16 : Nat), (15 : Nat))]) ∈ lw_good := g_tw 910 (by decide +kernel) (by decide +kernel)
theorem tw836 : (Jvm.Cond.codeWith ({ cls := "OfficeLadder", name := "toss", desc := "(I)I" } : Jvm.MethodName) prog_1_method_35_code (5 : Nat) (Option.some Jvm.ClassFile.FieldType.int) [((22 : Nat), (26 : Nat), (29 : Nat), (276 : Nat))]) ∈ lw_good := g_tw 836 (by decide +kernel) (by decide +kernel)
theorem hd_L_element : g_hd yL_element 4 := by decide +kernel
/-- the law's row of one long -/
abbrev g_oc (cJ : ClassId) (f : Nat → Int64) : va_E := .inl (cJ, 1, .inr (.inl f))
def g_O (cJ : ClassId) (b : Nat) (f : Nat → Int64) (A : Nat → Prop) (H : Heap) : Prop := H[b]? = some (vp_cell cJ (1, .inr (.inl f))) ∧ ¬ A b
def g_PreO (cJ : ClassId) (b : Nat) (f : Nat → Int64) (D : va_G) (cy : Nat → ClassId) (A : Nat → Prop) (ad : gA) (L : gL) (σ : gS) (U : State) : Prop := g_PreX D cy A ad L σ U ∧ g_O cJ b f A U.heap ∧ ArrOfT U cJ .long ∧ va_RA U cJ .long
theorem g_PreO.blind {cJ : ClassId} {b : Nat} {f : Nat → Int64} {D : va_G} {cy : Nat → ClassId} {A : Nat → Prop} {ad : gA} {L : gL} {σ : gS} {As : List Value} : FrameBlind (va_Pc As (g_PreO cJ b f D cy A ad L σ)) := by
  intro a U g mk q
  exact ⟨q.1, (g_PreX.blind (As := As) a U g mk ⟨q.1, q.2.1⟩).2, q.2.2.1, arrOfT_moved (Vm.Alike.refl U.vm) q.2.2.2.1, q.2.2.2.2.moved (Vm.Alike.refl U.vm)⟩
set_option maxHeartbeats 4000000 in
set_option maxRecDepth 100000 in
theorem c_L_element (l : Launch) (hst : l.stackTraces = false) (cJ : ClassId) (b : Nat) (f : Nat → Int64) (D : va_G) (cy : Nat → ClassId) (A : Nat → Prop) (ad : gA) (L : gL) (σ : gS) (hT : (8, 0) ∈ L) (a1 a2 : Int32) (k0 : Nat) (v0 : Int64) (hf : f_X8_element ad σ a1 a2 = some (k0, v0)) : Met l yL_element (Cond.codeWith yL_element cL_element 5 (some .int) [(0, 9, 12, 13), (0, 9, 16, 15)] :: lw_good) ({ frames := 10, cells := 1, slots := 6, locals := 160 } : Room) (va_Pc [.ref (ad 8 0), .int a1, .int a2, .ref b] (g_PreO cJ b f D cy A ad L σ)) (va_Qi (fun r (u : gS × (Nat → Int64)) => r = Int32.ofNat k0 ∧ u.1 = σ ∧ (k0 = 0 → u.2 0 = v0)) (fun u t => g_Pre D cy A ad L u.1 t ∧ g_O cJ b u.2 A t.heap) (fun q => A q ∨ q = b)) 1 6 (fun q => A q ∨ q = b) := by
  refine g_metW (by decide) (fun p e s m args below meth c CF hr hlocks htab hv => ?_)
  obtain ⟨rfl, ⟨⟨⟨hP, hD, hCl⟩, hKN, hA⟩, hX⟩, ⟨hO, hbA⟩, hJ1, hJ2⟩ := hv
  have C : g_C yL_element.cls cL_element 5 D cy A p m c s ([Value.ref (ad 8 0), .int a1, .int a2, .ref b] : List Value).toArray := ⟨CF, hKN, hA⟩
  have G : g_H D cy A ad L σ s.heap s.heap [] := ⟨hP, hD, va_S.rf, hCl⟩
  have hl := lv_entry ([.ref (ad 8 0), .int a1, .int a2, .ref b]) (n := 5) (Nat.le_of_ble_eq_true rfl)
  rw [lg_entry_eq]
  generalize (lg_sl ([.ref (ad 8 0), .int a1, .int a2, .ref b]) ++ List.replicate (5 - (lg_sl ([.ref (ad 8 0), .int a1, .int a2, .ref b])).length) Slot.unset).toArray = ls at hl ⊢
  have hl : lv_has ls 5 [(0, .ref (ad 8 0)), (1, .int a1), (2, .int a2), (3, .ref b)] := hl
  have hts := C.1.2.2.2.2
  have hbl : b < s.heap.size := (Array.getElem?_eq_some_iff.mp hO).1
  have hS0 : va_S (fun q => A q ∨ q = b) s.heap s.heap [] := va_S.rf
  have pre9 : ∀ (H : Heap) (locs : List Loc), va_P D vwCl (g_ws cy ad L σ) H → va_S (fun q => A q ∨ q = b) s.heap H locs → ∀ t : State, t.heap = H → s.WarmedH t.vm → g_Pre D cy A ad L σ t := fun H locs hP9 hS9 t ht hW => ⟨⟨by rw [ht]; exact hP9, hD, hCl⟩, ⟨va_K.moved hW.alike hKN.1, hKN.2.warm hW⟩, fun q hq => hA q (by rw [ht] at hq; exact Nat.le_trans hS9.1 hq)⟩
  refine lv_aload_n C.x C.b dL_element_0 rfl (lv_at hl 3 rfl) ?_
  refine lv_iconst (v := (0 : Int32)) C.x C.b dL_element_1 (by decide) ?_
  refine lv_aload_n C.x C.b dL_element_2 rfl (lv_at hl 0 rfl) ?_
  refine lv_iload_n C.x C.b dL_element_3 rfl (lv_at hl 1 rfl) ?_
  refine lv_iload_n C.x C.b dL_element_4 rfl (lv_at hl 2 rfl) ?_
  refine vx_calll (g_runX (As := [.int a1, .int a2]) (rest := [.int 0, .ref b]) C hX G 8 0 (c_X8_element l hst D cy A ad L σ hT a1 a2 k0 v0 hf) ⟨tw916, tw54, tw913, ⟨tw914, tw915⟩, hd_X8_element⟩ (by decide) hT rfl ⟨rfl, by decide⟩ hl.1 rfl (Nat.le_of_ble_eq_true rfl) dL_element_5 ⟨Nat.le_of_ble_eq_true rfl, Nat.le_of_ble_eq_true rfl⟩) hS0 (fun _ _ h => Or.inl h) (fun _ h => Or.inl h) (fun _ _ h => Or.inl h) (fun E ce q9 u t H1 locs1 ht hvm hp hB hz hk hS hcell hv9 hcl => ?_) (fun r u t H1 locs1 ht hvm hp hB hz hk hS => ?_)
  · subst hp
    subst ht
    obtain ⟨hE, hP9, -, -⟩ := hB
    have hO9 : g_O cJ b f A t.heap := ⟨by rw [hk b hbl hbA]; exact hO, hbA⟩
    rcases hE with ⟨rfl, rfl⟩ | ⟨rfl, rfl⟩
    · refine vx_catch (name := "java/lang/IllegalArgumentException") C.1.2.2.2.1 [] ⟨0, 9, 12, 13⟩ [⟨0, 9, 16, 15⟩] htab (fun z hz => absurd hz List.not_mem_nil) (by decide) (by decide) (hts _ tw911) (va_Nw.use rfl (hX.2.2.1 _ (by simp [g_xw]))) hcell hv9 hcl ?_
      refine lv_astore (lv' := [(4, .ref q9), (0, .ref (ad 8 0)), (1, .int a1), (2, .int a2), (3, .ref b)]) C.x C.b dL_element_12 hl (by decide) rfl (fun ls hl => ?_)
      refine lv_iconst (v := (1 : Int32)) C.x C.b dL_element_14 (by decide) ?_
      exact W.iret C.x C.b hr (fun t' ht' hW => ⟨⟨1, (u, f), rfl, ⟨rfl, rfl, fun h => absurd h (by decide)⟩, pre9 _ _ hP9 hS t' ht' hW, by rw [ht']; exact hO9⟩, hS.F ht'⟩) hS.2.2 dL_element_15 hlocks
    · refine vx_catch (name := "java/lang/IllegalStateException") C.1.2.2.2.1 [⟨0, 9, 12, 13⟩] ⟨0, 9, 16, 15⟩ [] htab (fun z hz => ?_) (by decide) (by decide) (hts _ tw912) (va_Nw.use rfl (hX.2.2.1 _ (by simp [g_xw]))) hcell hv9 hcl ?_
      · rw [List.mem_singleton.mp hz]
        exact Or.inr ⟨by decide, _, hts _ tw911, hX.2.2.2⟩
      · refine lv_astore (lv' := [(4, .ref q9), (0, .ref (ad 8 0)), (1, .int a1), (2, .int a2), (3, .ref b)]) C.x C.b dL_element_16 hl (by decide) rfl (fun ls hl => ?_)
        refine lv_iconst (v := (2 : Int32)) C.x C.b dL_element_18 (by decide) ?_
        exact W.iret C.x C.b hr (fun t' ht' hW => ⟨⟨2, (u, f), rfl, ⟨rfl, rfl, fun h => absurd h (by decide)⟩, pre9 _ _ hP9 hS t' ht' hW, by rw [ht']; exact hO9⟩, hS.F ht'⟩) hS.2.2 dL_element_19 hlocks
  · obtain ⟨rfl, rfl, rfl⟩ := hp
    subst ht
    have hO9 : t.heap[b]? = some (vp_cell cJ (1, .inr (.inl f))) := by rw [hk b hbl hbA]; exact hO
    have hP9 : va_P D vwCl (g_ws cy ad L u ++ [(b, g_oc cJ f)]) t.heap := hB.1.1.app (fun n x hx => by
      have hz1 : n < 1 := (List.getElem?_eq_some_iff.mp hx).1
      rw [show n = 0 by omega] at hx
      cases hx
      exact hO9)
    have hD9 : va_D (fun q => A q ∨ q = b) (g_ws cy ad L u ++ [(b, g_oc cJ f)]) := by
      refine va_D.app (hD.weaken (fun _ _ _ h => Or.inl h)) ⟨fun i j p q hi hj _ => ?_, fun n x hx => ?_⟩ (fun i j p q hi hj hpq => ?_)
      · have h1 : i < 1 := (List.getElem?_eq_some_iff.mp hi).1
        have h2 : j < 1 := (List.getElem?_eq_some_iff.mp hj).1
        omega
      · have hz1 : n < 1 := (List.getElem?_eq_some_iff.mp hx).1
        rw [show n = 0 by omega] at hx
        cases hx
        exact Or.inr rfl
      · have h2 : j < 1 := (List.getElem?_eq_some_iff.mp hj).1
        rw [show j = 0 by omega] at hj
        cases hj
        have := hD.2 i p hi
        rw [hpq] at this
        exact hbA this
    have hK9 : va_K D vwCl [(cJ, .long)] s := ⟨hKN.1.1, fun k q hq => by
      have hz1 : k < 1 := (List.getElem?_eq_some_iff.mp hq).1
      rw [show k = 0 by omega] at hq
      cases hq
      exact ⟨hJ1, hJ2⟩⟩
    have hat : (g_ws cy ad L u ++ [(b, g_oc cJ f)])[(g_ws cy ad L u).length]? = some (b, g_oc cJ f) := by simp
    refine va_last C.x C.b hK9 hP9 hD9 hS (g_ws cy ad L u).length 0 hat rfl (show g_ix 0 1 by decide) dL_element_8 (fun H2 locs2 hP2 hD2 hS2 => ?_)
    rw [List.set_append_right _ _ (Nat.le_refl _), Nat.sub_self] at hP2
    refine lv_goto (tgt := 20) C.x C.b dL_element_9 (by decide) ?_
    refine lv_iconst (v := (0 : Int32)) C.x C.b dL_element_20 (by decide) ?_
    have hPw : va_P D vwCl (g_ws cy ad L u) H2 := fun k q hq => hP2 k q (by rw [List.getElem?_append_left (List.getElem?_eq_some_iff.mp hq).1]; exact hq)
    have hO2 : H2[b]? = some (vp_cell cJ (1, .inr (.inl (vp_updL f 0 r)))) := hP2 (g_ws cy ad L u).length (b, g_oc cJ (vp_updL f 0 r)) (by simp [g_oc])
    exact W.iret C.x C.b hr (fun t' ht' hW => ⟨⟨0, (u, vp_updL f 0 r), rfl, ⟨rfl, rfl, fun _ => (pk_uLs : vp_updL f 0 r 0 = r)⟩, pre9 _ _ hPw hS2 t' ht' hW, by rw [ht']; exact ⟨hO2, hbA⟩⟩, hS2.F ht'⟩) hS2.2.2 dL_element_21 hlocks
