section GR2
variable {p : Program} {l : Launch} {e : Env} {R : Room} {s : State} {m : MethodId} {args : Array Value} {below : List Frame} {meth : Method} {c : Code} {H : Heap} {locs : List Loc} {cells slots : Nat} {Q : State → Prop}
variable {own : String} {cc : ByteArray} {nL : Nat} {D : va_G} {cy : Nat → ClassId} {A : Nat → Prop} {ad : gA} {L : gL} {σ : gS} {pc : Nat} {ls : Array Slot} {rest : List Value}
theorem g_v_upd {K i j n : Nat} {τ : Nat → Int32} {v : Int32} (hn : n ≠ j) : g_v ad K i (upd τ j v) n = g_v ad K i τ n := by
  unfold g_v
  rw [show upd τ j v n = τ n from pk_un hn]
theorem g_fset {K i j : Nat} {τ : Nat → Int32} {v : Int32} (ht : g_tg K j = 0) : ((List.range (g_n K)).map (g_v ad K i τ)).set j (.int v) = (List.range (g_n K)).map (g_v ad K i (upd τ j v)) := by
  refine List.ext_getElem (by simp) fun n h1 h2 => ?_
  rw [List.getElem_set, List.getElem_map, List.getElem_map, List.getElem_range]
  by_cases hn : j = n
  · subst hn
    rw [if_pos rfl]
    unfold g_v
    rw [if_pos ht, show upd τ j v j = v from pk_us]
  · rw [if_neg hn, g_v_upd (Ne.symm hn)]
theorem g_fsetq {i : Nat} {τ : Nat → Int32} {v : Int32} {x : Value} (hx : x = va_rf (if v < 0 then none else some (ad 2 v.toNatClampNeg))) : ((List.range (g_n 7)).map (g_v ad 7 i τ)).set 1 x = (List.range (g_n 7)).map (g_v ad 7 i (upd τ 1 v)) := by
  refine List.ext_getElem (by simp) fun n h1 h2 => ?_
  rw [List.getElem_set, List.getElem_map, List.getElem_map, List.getElem_range]
  by_cases hn : 1 = n
  · subst hn
    rw [if_pos rfl]
    unfold g_v
    rw [if_neg (by decide), if_pos (by decide), show upd τ 1 v 1 = v from pk_us]
    exact hx
  · rw [if_neg hn, g_v_upd (Ne.symm hn)]
theorem g_up_oth {σ : gS} {K i j : Nat} {v : Int32} : ∀ K' i', ¬ (K' = K ∧ i' = i) → g_up σ K i j v K' i' = σ K' i' := fun _ _ h => g_up_else h
theorem g_Cl.upo {K i j : Nat} {v : Int32} (h : g_Cl L σ) (hK : K < 10) (ht : g_tg K j = 0) : g_Cl L (g_up σ K i j v) := by
  refine ⟨h.1, fun K' i' j' h1 h2 h3 h4 => ?_, fun i' h1 h2 => ?_⟩
  · rw [g_up_kind (by omega)] at h4
    exact h.2.1 K' i' j' h1 h2 h3 h4
  · have e : g_up σ K i j v 7 i' 1 = σ 7 i' 1 := by
      simp only [g_up]
      rw [if_neg]
      rintro ⟨rfl, rfl, rfl⟩
      revert ht; decide
    rw [e] at h2 ⊢
    exact h.2.2 i' h1 h2
theorem g_Cl.upa {K i j : Nat} {v : Int32} (h : g_Cl L σ) (hK : 10 ≤ K) (ht : g_ty K < 3) : g_Cl L (g_up σ K i j v) := by
  refine ⟨h.1, fun K' i' j' h1 h2 h3 h4 => ?_, fun i' h1 h2 => ?_⟩
  · rw [g_up_kind (by rintro rfl; omega)] at h4
    exact h.2.1 K' i' j' h1 h2 h3 h4
  · rw [g_up_kind (by omega)] at h2 ⊢
    exact h.2.2 i' h1 h2
theorem g_puti (C : g_C own cc nL D cy A p m c s args) (G : g_H D cy A ad L σ s.heap H locs) (K i j : Nat) (hL : (K, i) ∈ L) {Cn : String} {T : u_T} {N index : Nat} {v : Int32} {ty : Nat → FieldType} (hc : vwCl[K]? = some (Cn, T, N)) (hin : ∀ w ∈ u_ws Cn T N, w ∈ lw_good) (hty : ∀ k, k < N → parseFieldDescriptor (T k).2.2.1 = some (ty k)) (hnm : ∀ a, a < N → ∀ b, b < N → a ≠ b → (T a).2.1 ≠ (T b).2.1) (hj : g_n K = N ∧ j < N ∧ K < 10 ∧ g_tg K j = 0 ∧ (T j).2.2.2 = false) (hfit : narrow (ty j) (.int v) = .int v ∧ fits (ty j) (.int v) = true) (hlink : Cond.fieldLink own index (T j).1 (T j).2.1 (T j).2.2.1 ∈ lw_good) (hdg : decode cc pc = .ok (.putfield index, 3))
    (kk : ∀ (H : Heap) (locs : List Loc), g_H D cy A ad L (g_up σ K i j v) s.heap H locs → W p l e R s m args below meth c H locs cells slots Q (F0 m (pc + 3) ls rest)) : W p l e R s m args below meth c H locs cells slots Q (F0 m pc ls (.int v :: .ref (ad K i) :: rest)) := by
  obtain ⟨⟨hx, hb, hml, hown, hts⟩, ⟨hK, hN⟩, hA⟩ := C
  obtain ⟨hP, hD, hS, hCl⟩ := G
  obtain ⟨k, hk, hw⟩ := g_ws_at (cy := cy) (ad := ad) (σ := σ) hL
  obtain ⟨h1, h2, h3, h4, h5⟩ := hj
  rw [g_ct, if_pos h3] at hw
  refine va_put hx hb hts hin ty hty hnm hown hK hP hD hS k hw hc j h2 (hts _ hlink) (fun _ h => h) h5 (v := .int v) (hty j h2) hfit.1 hfit.2 (by simp; omega) hdg fun H1 locs1 hP1 hD1 hS1 => ?_
  have e : (g_ws cy ad L σ).set k (ad K i, .inr (K, ((List.range (g_n K)).map (g_v ad K i (σ K i))).set j (.int v))) = g_ws cy ad L (g_up σ K i j v) := g_ws_set hD hk (by rw [g_ct, if_pos h3, g_up_row, g_fset h4]) g_up_oth
  rw [e] at hP1 hD1
  exact kk H1 locs1 ⟨hP1, hD1, hS1, hCl.upo h3 h4⟩
/-- Shelf's law is set: to none, or to law n -/
theorem g_putq (C : g_C own cc nL D cy A p m c s args) (G : g_H D cy A ad L σ s.heap H locs) (i : Nat) (hL : (7, i) ∈ L) {index : Nat} {v : Int32} {x : Value} (hv : x = va_rf (if v < 0 then none else some (ad 2 v.toNatClampNeg))) (hvl : ¬ v < 0 → (2, v.toNatClampNeg) ∈ L) (hlink : Cond.fieldLink own index (TX7 1).1 (TX7 1).2.1 (TX7 1).2.2.1 ∈ lw_good) (hdg : decode cc pc = .ok (.putfield index, 3))
    (kk : ∀ (H : Heap) (locs : List Loc), g_H D cy A ad L (g_up σ 7 i 1 v) s.heap H locs → W p l e R s m args below meth c H locs cells slots Q (F0 m (pc + 3) ls rest)) : W p l e R s m args below meth c H locs cells slots Q (F0 m pc ls (x :: .ref (ad 7 i) :: rest)) := by
  obtain ⟨⟨hx, hb, hml, hown, hts⟩, ⟨hK, hN⟩, hA⟩ := C
  obtain ⟨hP, hD, hS, hCl⟩ := G
  obtain ⟨k, hk, hw⟩ := g_ws_at (cy := cy) (ad := ad) (σ := σ) hL
  rw [g_ct, if_pos (by decide)] at hw
  have hx9 : narrow (tyX7 1) x = x ∧ fits (tyX7 1) x = true := by
    subst hv
    by_cases hn : v < 0
    · simp only [if_pos hn, va_rf]; exact ⟨rfl, rfl⟩
    · simp only [if_neg hn, va_rf]; exact ⟨rfl, rfl⟩
  refine va_put hx hb hts ginX7 tyX7 tyX7_ok nmX7 hown hK hP hD hS k hw (by rfl) 1 (by decide) (hts _ hlink) (fun _ h => h) (by rfl) (v := x) (tyX7_ok 1 (by decide)) hx9.1 hx9.2 (by simp [g_n, g_tgs]) hdg fun H1 locs1 hP1 hD1 hS1 => ?_
  have e : (g_ws cy ad L σ).set k (ad 7 i, .inr (7, ((List.range (g_n 7)).map (g_v ad 7 i (σ 7 i))).set 1 x)) = g_ws cy ad L (g_up σ 7 i 1 v) := g_ws_set hD hk (by rw [g_ct, if_pos (by decide), g_up_row, g_fsetq hv]) g_up_oth
  rw [e] at hP1 hD1
  refine kk H1 locs1 ⟨hP1, hD1, hS1, hCl.1, fun K' i' j' q1 q2 q3 q4 => ?_, fun i' q1 q2 => ?_⟩
  · rw [g_up_kind (by omega)] at q4
    exact hCl.2.1 K' i' j' q1 q2 q3 q4
  · by_cases hi : i' = i
    · subst hi
      have e : g_up σ 7 i' 1 v 7 i' 1 = v := by simp [g_up]
      rw [e] at q2 ⊢
      exact hvl q2
    · rw [g_up_else (by omega)] at q2 ⊢
      exact hCl.2.2 i' q1 q2
theorem g_iald (C : g_C own cc nL D cy A p m c s args) (G : g_H D cy A ad L σ s.heap H locs) (K i : Nat) (hL : (K, i) ∈ L) {n : Nat} {x : Int32} (hK9 : 10 ≤ K ∧ g_ty K = 1) (hn : g_len ad K i = n) (hix : g_ix x n) (hdg : decode cc pc = .ok (.iaload, 1))
    (kk : W p l e R s m args below meth c H locs cells slots Q (F0 m (pc + 1) ls (.int (σ K i x.toNatClampNeg) :: rest))) : W p l e R s m args below meth c H locs cells slots Q (F0 m pc ls (.int x :: .ref (ad K i) :: rest)) := by
  obtain ⟨⟨hx, hb, hml, hown, hts⟩, ⟨hK, hN⟩, hA⟩ := C
  obtain ⟨hP, hD, hS, hCl⟩ := G
  obtain ⟨k, hk, hw⟩ := g_ws_at (cy := cy) (ad := ad) (σ := σ) hL
  rw [g_ct, if_neg (by omega), hK9.2, if_pos (by decide), hn] at hw
  exact va_iald hx hb hK hP k 1 hw rfl hix hdg kk
theorem g_bald (C : g_C own cc nL D cy A p m c s args) (G : g_H D cy A ad L σ s.heap H locs) (K i : Nat) (hL : (K, i) ∈ L) {n : Nat} {x : Int32} (hK9 : 10 ≤ K ∧ g_ty K = 0) (hn : g_len ad K i = n) (hix : g_ix x n) (hdg : decode cc pc = .ok (.baload, 1))
    (kk : W p l e R s m args below meth c H locs cells slots Q (F0 m (pc + 1) ls (.int (σ K i x.toNatClampNeg) :: rest))) : W p l e R s m args below meth c H locs cells slots Q (F0 m pc ls (.int x :: .ref (ad K i) :: rest)) := by
  obtain ⟨⟨hx, hb, hml, hown, hts⟩, ⟨hK, hN⟩, hA⟩ := C
  obtain ⟨hP, hD, hS, hCl⟩ := G
  obtain ⟨k, hk, hw⟩ := g_ws_at (cy := cy) (ad := ad) (σ := σ) hL
  rw [g_ct, if_neg (by omega), hK9.2, if_pos (by decide), hn] at hw
  exact va_bald hx hb hK hP k 0 hw rfl hix hdg kk
theorem g_zald (C : g_C own cc nL D cy A p m c s args) (G : g_H D cy A ad L σ s.heap H locs) (K i : Nat) (hL : (K, i) ∈ L) {n : Nat} {x : Int32} (hK9 : 10 ≤ K ∧ g_ty K = 2) (hn : g_len ad K i = n) (hix : g_ix x n) (hdg : decode cc pc = .ok (.baload, 1))
    (kk : W p l e R s m args below meth c H locs cells slots Q (F0 m (pc + 1) ls (.int (σ K i x.toNatClampNeg) :: rest))) : W p l e R s m args below meth c H locs cells slots Q (F0 m pc ls (.int x :: .ref (ad K i) :: rest)) := by
  obtain ⟨⟨hx, hb, hml, hown, hts⟩, ⟨hK, hN⟩, hA⟩ := C
  obtain ⟨hP, hD, hS, hCl⟩ := G
  obtain ⟨k, hk, hw⟩ := g_ws_at (cy := cy) (ad := ad) (σ := σ) hL
  rw [g_ct, if_neg (by omega), hK9.2, if_pos (by decide), hn] at hw
  exact va_zald hx hb hK hP k 2 hw rfl hix hdg kk
theorem g_aset {K i k t : Nat} {τ' : Nat → Int32} {n j : Nat} {v : Int32} (hD : va_D A (g_ws cy ad L σ)) (hk : L[k]? = some (K, i)) (hK9 : 10 ≤ K ∧ g_ty K = t) (ht : t < 3) (hn : g_len ad K i = n) (he : τ' = upd (σ K i) j v) : (g_ws cy ad L σ).set k (ad K i, .inl (cy t, n, .inl τ')) = g_ws cy ad L (g_up σ K i j v) := by
  refine g_ws_set hD hk ?_ g_up_oth
  rw [g_ct, if_neg (by omega), hK9.2, if_pos ht, hn, g_up_row, he]
theorem g_iast (C : g_C own cc nL D cy A p m c s args) (G : g_H D cy A ad L σ s.heap H locs) (K i : Nat) (hL : (K, i) ∈ L) {n : Nat} {x v : Int32} (hK9 : 10 ≤ K ∧ g_ty K = 1) (hn : g_len ad K i = n) (hix : g_ix x n) (hdg : decode cc pc = .ok (.iastore, 1))
    (kk : ∀ (H : Heap) (locs : List Loc), g_H D cy A ad L (g_up σ K i x.toNatClampNeg v) s.heap H locs → W p l e R s m args below meth c H locs cells slots Q (F0 m (pc + 1) ls rest)) : W p l e R s m args below meth c H locs cells slots Q (F0 m pc ls (.int v :: .int x :: .ref (ad K i) :: rest)) := by
  obtain ⟨⟨hx, hb, hml, hown, hts⟩, ⟨hK, hN⟩, hA⟩ := C
  obtain ⟨hP, hD, hS, hCl⟩ := G
  obtain ⟨k, hk, hw⟩ := g_ws_at (cy := cy) (ad := ad) (σ := σ) hL
  rw [g_ct, if_neg (by omega), hK9.2, if_pos (by decide), hn] at hw
  refine va_iast hx hb hK hP hD hS k 1 hw rfl hix hdg fun H1 locs1 hP1 hD1 hS1 => ?_
  rw [g_aset hD hk hK9 (by decide) hn rfl] at hP1 hD1
  exact kk H1 locs1 ⟨hP1, hD1, hS1, hCl.upa hK9.1 (by omega)⟩
theorem g_bast (C : g_C own cc nL D cy A p m c s args) (G : g_H D cy A ad L σ s.heap H locs) (K i : Nat) (hL : (K, i) ∈ L) {n : Nat} {x v : Int32} (hK9 : 10 ≤ K ∧ g_ty K = 0) (hn : g_len ad K i = n) (hix : g_ix x n) (hdg : decode cc pc = .ok (.bastore, 1))
    (kk : ∀ (H : Heap) (locs : List Loc), g_H D cy A ad L (g_up σ K i x.toNatClampNeg (vp_nar .byte v)) s.heap H locs → W p l e R s m args below meth c H locs cells slots Q (F0 m (pc + 1) ls rest)) : W p l e R s m args below meth c H locs cells slots Q (F0 m pc ls (.int v :: .int x :: .ref (ad K i) :: rest)) := by
  obtain ⟨⟨hx, hb, hml, hown, hts⟩, ⟨hK, hN⟩, hA⟩ := C
  obtain ⟨hP, hD, hS, hCl⟩ := G
  obtain ⟨k, hk, hw⟩ := g_ws_at (cy := cy) (ad := ad) (σ := σ) hL
  rw [g_ct, if_neg (by omega), hK9.2, if_pos (by decide), hn] at hw
  refine va_bast hx hb hK hP hD hS k 0 hw rfl hix hdg fun H1 locs1 hP1 hD1 hS1 => ?_
  rw [g_aset hD hk hK9 (by decide) hn rfl] at hP1 hD1
  exact kk H1 locs1 ⟨hP1, hD1, hS1, hCl.upa hK9.1 (by omega)⟩
theorem g_zast (C : g_C own cc nL D cy A p m c s args) (G : g_H D cy A ad L σ s.heap H locs) (K i : Nat) (hL : (K, i) ∈ L) {n : Nat} {x v : Int32} (hK9 : 10 ≤ K ∧ g_ty K = 2) (hn : g_len ad K i = n) (hix : g_ix x n) (hdg : decode cc pc = .ok (.bastore, 1))
    (kk : ∀ (H : Heap) (locs : List Loc), g_H D cy A ad L (g_up σ K i x.toNatClampNeg (vp_nar .boolean v)) s.heap H locs → W p l e R s m args below meth c H locs cells slots Q (F0 m (pc + 1) ls rest)) : W p l e R s m args below meth c H locs cells slots Q (F0 m pc ls (.int v :: .int x :: .ref (ad K i) :: rest)) := by
  obtain ⟨⟨hx, hb, hml, hown, hts⟩, ⟨hK, hN⟩, hA⟩ := C
  obtain ⟨hP, hD, hS, hCl⟩ := G
  obtain ⟨k, hk, hw⟩ := g_ws_at (cy := cy) (ad := ad) (σ := σ) hL
  rw [g_ct, if_neg (by omega), hK9.2, if_pos (by decide), hn] at hw
  refine va_zast hx hb hK hP hD hS k 2 hw rfl hix hdg fun H1 locs1 hP1 hD1 hS1 => ?_
  rw [g_aset hD hk hK9 (by decide) hn rfl] at hP1 hD1
  exact kk H1 locs1 ⟨hP1, hD1, hS1, hCl.upa hK9.1 (by omega)⟩
theorem g_alen (C : g_C own cc nL D cy A p m c s args) (G : g_H D cy A ad L σ s.heap H locs) (K i : Nat) (hL : (K, i) ∈ L) {n : Nat} (hK9 : 10 ≤ K ∧ g_ty K < 3) (hn : g_len ad K i = n) (hdg : decode cc pc = .ok (.arraylength, 1))
    (kk : W p l e R s m args below meth c H locs cells slots Q (F0 m (pc + 1) ls (.int (Int32.ofNat n) :: rest))) : W p l e R s m args below meth c H locs cells slots Q (F0 m pc ls (.ref (ad K i) :: rest)) := by
  obtain ⟨⟨hx, hb, hml, hown, hts⟩, ⟨hK, hN⟩, hA⟩ := C
  obtain ⟨hP, hD, hS, hCl⟩ := G
  obtain ⟨k, hk, hw⟩ := g_ws_at (cy := cy) (ad := ad) (σ := σ) hL
  rw [g_ct, if_neg (by omega), if_pos hK9.2, hn] at hw
  rcases (show g_ty K = 0 ∨ g_ty K = 1 ∨ g_ty K = 2 by omega) with h | h | h <;> rw [h] at hw
  · exact va_alen hx hb hK hP k 0 hw rfl rfl hdg kk
  · exact va_alen hx hb hK hP k 1 hw rfl rfl hdg kk
  · exact va_alen hx hb hK hP k 2 hw rfl rfl hdg kk
/-- an element of an array of references that is there -/
theorem g_aldq (C : g_C own cc nL D cy A p m c s args) (G : g_H D cy A ad L σ s.heap H locs) (K i K' : Nat) (hL : (K, i) ∈ L) {n : Nat} {x : Int32} (hK9 : K = 25 ∨ K = 26 ∨ K = 27 ∨ K = 30) (he : g_et K = K') (hn : g_len ad K i = n) (hix : g_ix x n) (hnn : ¬ σ K i x.toNatClampNeg < 0) (hdg : decode cc pc = .ok (.aaload, 1))
    (kk : (K', x.toNatClampNeg) ∈ L → W p l e R s m args below meth c H locs cells slots Q (F0 m (pc + 1) ls (.ref (ad K' x.toNatClampNeg) :: rest))) : W p l e R s m args below meth c H locs cells slots Q (F0 m pc ls (.int x :: .ref (ad K i) :: rest)) := by
  obtain ⟨⟨hx, hb, hml, hown, hts⟩, ⟨hK, hN⟩, hA⟩ := C
  obtain ⟨hP, hD, hS, hCl⟩ := G
  obtain ⟨k, hk, hw⟩ := g_ws_at (cy := cy) (ad := ad) (σ := σ) hL
  subst he
  have hm : (g_et K, x.toNatClampNeg) ∈ L := hCl.2.1 K i _ hL (by omega) (by rcases hK9 with rfl | rfl | rfl | rfl <;> decide) hnn
  have go : ∀ (C : String), (g_tys cy)[g_ty K]? = some (cy (g_ty K), .object C) → 10 ≤ K → (3 ≤ g_ty K ∧ g_ty K < 9) → W p l e R s m args below meth c H locs cells slots Q (F0 m pc ls (.int x :: .ref (ad K i) :: rest)) := by
    intro C h1 h2 h3
    rw [g_ct, if_neg (by omega), if_neg (by omega), if_pos h3.2, hn] at hw
    refine va_aldq hx hb hK hP k (g_ty K) hw h1 hix hdg ?_
    rw [if_neg hnn]
    exact kk hm
  rcases hK9 with rfl | rfl | rfl | rfl
  · exact go "OfficeLadder$Office" rfl (by decide) (by decide)
  · exact go "OfficeLadder$Person" rfl (by decide) (by decide)
  · exact go "OfficeLadder$Law" rfl (by decide) (by decide)
  · exact go "OfficeLadder$Shelf" rfl (by decide) (by decide)
/-- thing n of its kind is put to place n of an array of references -/
theorem g_astq (C : g_C own cc nL D cy A p m c s args) (G : g_H D cy A ad L σ s.heap H locs) (K i K' v : Nat) (hL : (K, i) ∈ L) {n : Nat} {x : Int32} (hK9 : K = 25 ∨ K = 26 ∨ K = 27 ∨ K = 30) (he : g_et K = K') (hv : x.toNatClampNeg = v) (hLv : (K', v) ∈ L) (hn : g_len ad K i = n) (hix : g_ix x n) (hdg : decode cc pc = .ok (.aastore, 1))
    (kk : ∀ (H : Heap) (locs : List Loc), g_H D cy A ad L (g_up σ K i v 0) s.heap H locs → W p l e R s m args below meth c H locs cells slots Q (F0 m (pc + 1) ls rest)) : W p l e R s m args below meth c H locs cells slots Q (F0 m pc ls (.ref (ad K' v) :: .int x :: .ref (ad K i) :: rest)) := by
  obtain ⟨⟨hx, hb, hml, hown, hts⟩, ⟨hK, hN⟩, hA⟩ := C
  obtain ⟨hP, hD, hS, hCl⟩ := G
  obtain ⟨k, hk, hw⟩ := g_ws_at (cy := cy) (ad := ad) (σ := σ) hL
  obtain ⟨kv, hkv, hwv⟩ := g_ws_at (cy := cy) (ad := ad) (σ := σ) hLv
  subst he
  have go : ∀ (r : vw_C), vwCl[g_et K]? = some r → (g_tys cy)[g_ty K]? = some (cy (g_ty K), .object r.1) → 10 ≤ K → (3 ≤ g_ty K ∧ g_ty K < 9) → g_et K < 10 → W p l e R s m args below meth c H locs cells slots Q (F0 m pc ls (.ref (ad (g_et K) v) :: .int x :: .ref (ad K i) :: rest)) := by
    intro r h0 h1 h2 h3 h4
    rw [g_ct, if_neg (by omega), if_neg (by omega), if_pos h3.2, hn] at hw
    rw [g_ct, if_pos h4] at hwv
    refine va_astq hx hb hK hP hD hS k (g_ty K) kv (g_et K) hw h1 hwv h0 hix hdg fun H1 locs1 hP1 hD1 hS1 => ?_
    have e : (g_ws cy ad L σ).set k (ad K i, .inl (cy (g_ty K), n, .inr (.inr (.inr (.inr (va_up (fun j => if σ K i j < 0 then none else some (ad (g_et K) j)) x.toNatClampNeg (some (ad (g_et K) v)))))))) = g_ws cy ad L (g_up σ K i v 0) := by
      refine g_ws_set hD hk ?_ g_up_oth
      rw [g_ct, if_neg (by omega), if_neg (by omega), if_pos h3.2, hn, g_up_row]
      congr 7
      funext j
      by_cases hj : j = v
      · subst hj
        simp [va_up, upd, hv]
      · simp [va_up, upd, hv, hj]
    rw [e] at hP1 hD1
    refine kk H1 locs1 ⟨hP1, hD1, hS1, hCl.1, fun K2 i2 j2 q1 q2 q3 q4 => ?_, fun i2 q1 q2 => ?_⟩
    · by_cases hq : K2 = K ∧ i2 = i ∧ j2 = v
      · obtain ⟨rfl, rfl, rfl⟩ := hq
        exact hLv
      · have e2 : g_up σ K i v 0 K2 i2 j2 = σ K2 i2 j2 := by simp only [g_up]; exact if_neg hq
        rw [e2] at q4
        exact hCl.2.1 K2 i2 j2 q1 q2 q3 q4
    · rw [g_up_kind (by omega)] at q2 ⊢
      exact hCl.2.2 i2 q1 q2
  rcases hK9 with rfl | rfl | rfl | rfl
  · exact go _ rfl rfl (by decide) (by decide) (by decide)
  · exact go _ rfl rfl (by decide) (by decide) (by decide)
  · exact go _ rfl rfl (by decide) (by decide) (by decide)
  · exact go _ rfl rfl (by decide) (by decide) (by decide)
end GR2
