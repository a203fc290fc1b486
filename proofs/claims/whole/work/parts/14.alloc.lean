/-! THINGS THAT ARE MADE: kind 100 + k is an object of class k that is being made; addresses are given ahead by ad -/
def g_z (k j : Nat) : Int32 := if g_tg k j = 0 then 0 else -1
def g_PreH (D : va_G) (cy : Nat → ClassId) (A : Nat → Prop) (ad : gA) (L : gL) (σ : gS) (h : Nat) (U : State) : Prop := g_Pre D cy A ad L σ U ∧ U.heap.size = h
theorem g_PreH.blind {D : va_G} {cy : Nat → ClassId} {A : Nat → Prop} {ad : gA} {L : gL} {σ : gS} {h : Nat} {As : List Value} : FrameBlind (va_Pc As (g_PreH D cy A ad L σ h)) := fun a U g mk q => ⟨q.1, (g_Pre.blind (As := As) a U g mk ⟨q.1, q.2.1⟩).2, q.2.2⟩
theorem g_ws_push {cy : Nat → ClassId} {ad : gA} {L : gL} {σ : gS} {K i : Nat} {τ : Nat → Int32} (hfr : (K, i) ∉ L) : g_ws cy ad (L ++ [(K, i)]) (g_row σ K i τ) = g_ws cy ad L σ ++ [(ad K i, g_ct cy ad K i τ)] := by
  unfold g_ws
  rw [List.map_append]
  congr 1
  · apply List.map_congr_left
    rintro ⟨K', i'⟩ hq
    rw [g_row_else K' i' (by rintro ⟨rfl, rfl⟩; exact hfr hq)]
  · simp [g_row_row]
theorem g_ml {L L2 : gL} {q : Nat × Nat} (h : q ∈ L) : q ∈ L ++ L2 := List.mem_append_left _ h
theorem g_mr {L : gL} {q : Nat × Nat} : q ∈ L ++ [q] := List.mem_append_right _ (List.mem_singleton.mpr rfl)
theorem g_Cl.push {L : gL} {σ : gS} {K i : Nat} {τ : Nat → Int32} (h : g_Cl L σ) (hfr : (K, i) ∉ L) (hK : 10 ≤ K) (hq : ∀ j, 3 ≤ g_ty K ∧ g_ty K < 9 → τ j < 0) : g_Cl (L ++ [(K, i)]) (g_row σ K i τ) := by
  have old : ∀ K' i', (K', i') ∈ L → g_row σ K i τ K' i' = σ K' i' := fun K' i' hm => g_row_else K' i' (by rintro ⟨rfl, rfl⟩; exact hfr hm)
  have inn : ∀ K' i', (K', i') ∈ L ++ [(K, i)] → (K', i') ∈ L ∨ (K' = K ∧ i' = i) := fun K' i' hm => by
    rcases List.mem_append.mp hm with h | h
    · exact Or.inl h
    · have := List.mem_singleton.mp h
      exact Or.inr ⟨congrArg Prod.fst this, congrArg Prod.snd this⟩
  refine ⟨fun K' i' j' h1 h2 h3 => ?_, fun K' i' j' h1 h2 h3 h4 => ?_, fun i' h1 h2 => ?_⟩
  · rcases inn _ _ h1 with h1 | ⟨rfl, rfl⟩
    · exact g_ml (h.1 K' i' j' h1 h2 h3)
    · omega
  · rcases inn _ _ h1 with h1 | ⟨rfl, rfl⟩
    · rw [old _ _ h1] at h4
      exact g_ml (h.2.1 K' i' j' h1 h2 h3 h4)
    · rw [g_row_row] at h4
      exact absurd (hq j' h3) h4
  · rcases inn _ _ h1 with h1 | ⟨h1, -⟩
    · rw [old _ _ h1] at h2 ⊢
      exact g_ml (h.2.2 i' h1 h2)
    · omega
section GAL
variable {p : Program} {l : Launch} {e : Env} {R : Room} {s : State} {m : MethodId} {args : Array Value} {below : List Frame} {meth : Method} {c : Code} {H : Heap} {locs : List Loc} {cells slots : Nat} {Q : State → Prop}
variable {own : String} {cc : ByteArray} {nL : Nat} {D : va_G} {cy : Nat → ClassId} {A : Nat → Prop} {ad : gA} {L : gL} {σ : gS} {pc : Nat} {ls : Array Slot} {rest : List Value}
/-- how large the heap may be here -/
theorem g_size {g : JFrame} (kk : H.size ≤ s.heap.size + cells → W p l e R s m args below meth c H locs cells slots Q g) : W p l e R s m args below meth c H locs cells slots Q g := fun T hT X => kk (by have h := X.same.2.2.1; rw [← hT]; exact h) T hT X
theorem g_H.lt {K i : Nat} (G : g_H D cy A ad L σ s.heap H locs) (hL : (K, i) ∈ L) : ad K i < H.size := by
  obtain ⟨k, hk, hw⟩ := g_ws_at (cy := cy) (ad := ad) (σ := σ) hL
  exact (G.1 k _ hw).lt
theorem g_new (C : g_C own cc nL D cy A p m c s args) (G : g_H D cy A ad L σ s.heap H locs) (k i : Nat) {Cn : String} {T : u_T} {N index : Nat} {ty : Nat → FieldType} (hc : vwCl[k]? = some (Cn, T, N)) (hin : ∀ w ∈ u_ws Cn T N, w ∈ lw_good) (hty : ∀ k, k < N → parseFieldDescriptor (T k).2.2.1 = some (ty k)) (hk : k < 10) (hz : ∀ j, j < N → defaultValue (ty j) = vp_V ((List.range (g_n k)).map (g_vc ad k i (g_z k))) j) (hcl : Cond.classLink own index Cn ∈ lw_good) (hinst : Cond.instantiable Cn N ∈ lw_good) (hini : Cond.initialized Cn ∈ lw_good) (hfr : (100 + k, i) ∉ L) (had : ad (100 + k) i = H.size) (hcells : cells + 1 ≤ R.cells) (hslots : slots + N ≤ R.slots) (hdg : decode cc pc = .ok (.new index, 3))
    (kk : ∀ (H : Heap), g_H D cy A ad (L ++ [(100 + k, i)]) (g_row σ (100 + k) i (g_z k)) s.heap H locs → W p l e R s m args below meth c H locs (cells + 1) (slots + N) Q (F0 m (pc + 3) ls (.ref (ad (100 + k) i) :: rest))) : W p l e R s m args below meth c H locs cells slots Q (F0 m pc ls rest) := by
  obtain ⟨⟨hx, hb, hml, hown, hts⟩, ⟨hK, hN⟩, hA⟩ := C
  obtain ⟨hP, hD, hS, hCl⟩ := G
  have hKn := hK.1 k _ hc
  refine W.newcK hx hb hown (hts _ hcl) (hts _ hinst) (hts _ hini) rfl hdg hcells hslots hKn.2.1 rfl fun H1 kC hkC e1 z1 o1 => ?_
  have hkp : ∀ (k : Nat) (x : Nat × va_E), (g_ws cy ad L σ)[k]? = some x → H1[x.1]? = H[x.1]? := fun k x hx => o1 x.1 ((hP k x hx).lt)
  have hct : g_ct cy ad (100 + k) i (g_z k) = .inr (k, (List.range (g_n k)).map (g_vc ad k i (g_z k))) := by
    rw [g_ct, if_neg (by omega)]
    have h9 : g_ty (100 + k) = 9 := by
      unfold g_ty
      rw [List.getD_eq_getElem?_getD, List.getElem?_eq_none (by simp [g_tyl]; omega)]
      rfl
    rw [h9, if_neg (by decide), if_neg (by decide), Nat.add_sub_cancel_left]
  have e : g_ws cy ad L σ ++ [(H.size, .inr (k, (List.range (g_n k)).map (g_vc ad k i (g_z k))))] = g_ws cy ad (L ++ [(100 + k, i)]) (g_row σ (100 + k) i (g_z k)) := by
    rw [g_ws_push hfr, hct, had]
  have h1 := (hP.kept hkp).app (w2 := [(H.size, .inr (k, (List.range (g_n k)).map (g_vc ad k i (g_z k))))]) (fun n x hx => by
    have hz1 : n < 1 := (List.getElem?_eq_some_iff.mp hx).1
    rw [show n = 0 by omega] at hx
    cases hx
    exact ⟨_, hc, (u_born ty hts hin hKn hkC e1 hty).to hz⟩)
  have h2 := hD.push (e := .inr (k, (List.range (g_n k)).map (g_vc ad k i (g_z k)))) hP rfl (hA _ hS.1)
  rw [e] at h1 h2
  have hr := kk H1 ⟨h1, h2, ⟨Nat.le_trans hS.1 (by omega), fun x h1 h2 => (o1 x (Nat.lt_of_lt_of_le h1 hS.1)).trans (hS.2.1 x h1 h2), hS.2.2⟩, hCl.push hfr (by omega) (fun j hq => absurd hq.2 (by
    unfold g_ty
    rw [List.getD_eq_getElem?_getD, List.getElem?_eq_none (by simp [g_tyl]; omega)]
    decide))⟩
  rw [had] at hr
  exact hr
theorem g_newa (C : g_C own cc nL D cy A p m c s args) (G : g_H D cy A ad L σ s.heap H locs) (K i : Nat) {atype : ArrayType} {t : Nat} {ty : FieldType} {n : Int32} {N : Nat} (hK9 : 10 ≤ K ∧ g_ty K = t ∧ t < 3) (hta : newarray.typeOf atype = ty ∧ (g_tys cy)[t]? = some (cy t, ty)) (hdv : defaultValue ty = .int 0) (hra : ∀ cA, va_RA s cA ty = (s.vm.findClass ("[" ++ ty.toString) = some cA)) (harr : Cond.arrayClass ty ∈ lw_good) (hn : ¬ n < 0) (hN : n.toNatClampNeg = N) (hlen : g_len ad K i = N) (hby : N * componentBytes ty ≤ 536870912) (hfr : (K, i) ∉ L) (had : ad K i = H.size) (hcells : cells + 1 ≤ R.cells) (hslots : slots + N ≤ R.slots) (hdg : decode cc pc = .ok (.newarray atype, 2))
    (kk : ∀ (H : Heap), g_H D cy A ad (L ++ [(K, i)]) (g_row σ K i (fun _ => 0)) s.heap H locs → W p l e R s m args below meth c H locs (cells + 1) (slots + N) Q (F0 m (pc + 2) ls (.ref (ad K i) :: rest))) : W p l e R s m args below meth c H locs cells slots Q (F0 m pc ls (.int n :: rest)) := by
  obtain ⟨⟨hx, hb, hml, hown, hts⟩, ⟨hK, hNn⟩, hA⟩ := C
  obtain ⟨hP, hD, hS, hCl⟩ := G
  obtain ⟨rfl, htt⟩ := hta
  refine va_newaK hx hb (hts _ harr) rfl hdg rfl hn hN hby hcells hslots rfl fun H1 cA e1 z1 o1 hAr hNm => ?_
  have hcA : cA = cy t := by
    have h1 := (hK.2 t _ htt).2
    rw [hra] at h1
    exact Option.some.inj (hNm.symm.trans h1)
  subst hcA
  have hkp : ∀ (k : Nat) (x : Nat × va_E), (g_ws cy ad L σ)[k]? = some x → H1[x.1]? = H[x.1]? := fun k x hx => o1 x.1 ((hP k x hx).lt)
  have hct : g_ct cy ad K i (fun _ => 0) = .inl (cy t, N, .inl (fun _ => 0)) := by
    rw [g_ct, if_neg (by omega), hK9.2.1, if_pos hK9.2.2, hlen]
  have e : g_ws cy ad L σ ++ [(H.size, .inl (cy t, N, .inl (fun _ => 0)))] = g_ws cy ad (L ++ [(K, i)]) (g_row σ K i (fun _ => 0)) := by
    rw [g_ws_push hfr, hct, had]
  have h1 := (hP.kept hkp).app (w2 := [(H.size, .inl (cy t, N, .inl (fun _ => 0)))]) (fun n x hx => by
    have hz1 : n < 1 := (List.getElem?_eq_some_iff.mp hx).1
    rw [show n = 0 by omega] at hx
    cases hx
    show H1[H.size]? = some (vp_cell _ _)
    rw [e1, hdv]
    rfl)
  have h2 := hD.push (e := .inl (cy t, N, .inl (fun _ => 0))) hP rfl (hA _ hS.1)
  rw [e] at h1 h2
  have hr := kk H1 ⟨h1, h2, ⟨Nat.le_trans hS.1 (by omega), fun x h1 h2 => (o1 x (Nat.lt_of_lt_of_le h1 hS.1)).trans (hS.2.1 x h1 h2), hS.2.2⟩, hCl.push hfr hK9.1 (fun j hq => absurd hq.1 (by omega))⟩
  rw [had] at hr
  exact hr
end GAL
