/-! THE MEMORY AS ONE FUNCTION: σ K i j is slot j of thing i of kind K (ints; of a reference: see g_tg). Kinds 0 .. 9 are the classes of vwCl, 10 .. the arrays. -/
abbrev gS : Type := Nat → Nat → Nat → Int32
abbrev gA : Type := Nat → Nat → Nat
abbrev gL : Type := List (Nat × Nat)
abbrev g_ix (x : Int32) (n : Nat) : Prop := ¬ (x < 0 ∨ n ≤ x.toNatClampNeg)
abbrev g_bo (x : Int32) : Prop := x = 0 ∨ x = 1
def g_up (σ : gS) (K i j : Nat) (v : Int32) : gS := fun K' i' j' => if K' = K ∧ i' = i ∧ j' = j then v else σ K' i' j'
theorem g_up_row (σ : gS) (K i j : Nat) (v : Int32) : g_up σ K i j v K i = upd (σ K i) j v := by
  funext q
  simp [g_up, upd]
theorem g_up_else {σ : gS} {K i j : Nat} {v : Int32} {K' i' : Nat} (h : ¬ (K' = K ∧ i' = i)) : g_up σ K i j v K' i' = σ K' i' := by
  funext q
  simp only [g_up]
  exact if_neg fun hh => h ⟨hh.1, hh.2.1⟩
theorem g_up_kind {σ : gS} {K i j : Nat} {v : Int32} {K' i' : Nat} (h : K' ≠ K) : g_up σ K i j v K' i' = σ K' i' := g_up_else fun hh => h hh.1
/-- the slots of an object: 0 an int, 1 Shelf's law, K + 2 the thing of kind K with the same number -/
def g_tgs (K : Nat) : List Nat := match K with
  | 0 => [0, 0, 0, 12, 13, 0, 14, 15, 16, 17, 18]
  | 1 => [0, 0, 0, 0, 0, 0, 0, 0, 0, 19, 20, 21, 22, 23, 24]
  | 2 => [0, 0, 0, 0, 0, 0]
  | 3 => [0, 0, 25]
  | 4 => [0, 0, 0, 0]
  | 5 => [0, 0, 26, 0, 0, 0, 0, 0, 0]
  | 6 => [27, 28, 29, 0, 0, 0, 0, 0, 6]
  | 7 => [0, 1, 0, 30, 31]
  | 8 => [8, 3, 2, 32, 33]
  | 9 => [0, 0, 0, 0, 46, 47, 48, 49, 50, 51, 52, 53, 54, 55, 56, 57, 58, 59, 60, 61, 62, 0, 0, 0, 0, 0, 0, 69, 70, 0, 0, 73, 74, 75, 76, 77, 78, 79, 0, 81, 82, 83, 84, 85, 86]
  | _ => []
def g_tg (K j : Nat) : Nat := (g_tgs K).getD j 0
def g_n (K : Nat) : Nat := (g_tgs K).length
/-- an array's type: 0 byte, 1 int, 2 boolean, 3 .. 6 of Law, Office, Person, Shelf; 9: no array -/
def g_tyl : List Nat := [9, 9, 9, 9, 9, 9, 9, 9, 9, 9, 1, 1, 1, 1, 1, 1, 1, 1, 1, 1, 1, 2, 1, 0, 0, 4, 5, 3, 0, 1, 6, 1, 9, 9, 9, 9, 9, 9, 9, 9, 9, 9, 9, 9, 1, 2, 1, 1, 1, 1, 1, 1, 1, 1, 1, 1, 1, 1, 1, 2, 1, 9, 9, 9, 9, 9, 9, 1, 1, 9, 9, 1, 1, 1, 1, 1, 1, 1, 9, 2, 1, 1, 1, 1, 1]
def g_ty (K : Nat) : Nat := g_tyl.getD K 9
def g_lnl : List Nat := [0, 0, 0, 0, 0, 0, 0, 0, 0, 0, 2, 2, 35, 35, 4, 4, 4, 24, 24, 24, 8, 8, 8, 0, 200, 8, 24, 20, 200, 60, 8, 35, 0, 0, 0, 0, 0, 0, 0, 0, 0, 0, 0, 0, 8, 8, 24, 24, 24, 24, 24, 24, 24, 20, 20, 20, 20, 20, 4800, 4800, 4800, 0, 0, 0, 0, 0, 0, 24, 24, 0, 0, 35, 35, 35, 4, 4, 2, 2, 0, 4, 8, 8, 8, 1600, 200]
def g_len (ad : gA) (K i : Nat) : Nat := if K = 23 then ad 33 i else g_lnl.getD K 0
/-- what an array of references holds -/
def g_et (K : Nat) : Nat := match K with
  | 25 => 3
  | 26 => 5
  | 27 => 2
  | _ => 7
def g_v (ad : gA) (K i : Nat) (τ : Nat → Int32) (j : Nat) : Value := if g_tg K j = 0 then .int (τ j) else if g_tg K j = 1 then va_rf (if τ j < 0 then none else some (ad 2 (τ j).toNatClampNeg)) else .ref (ad (g_tg K j - 2) i)
/-- a slot of an object that is being made: a reference may be null yet -/
def g_vc (ad : gA) (k i : Nat) (τ : Nat → Int32) (j : Nat) : Value := if g_tg k j = 0 then .int (τ j) else if g_tg k j = 1 then va_rf (if τ j < 0 then none else some (ad 2 (τ j).toNatClampNeg)) else if τ j < 0 then .null else .ref (ad (g_tg k j - 2) i)
def g_ct (cy : Nat → ClassId) (ad : gA) (K i : Nat) (τ : Nat → Int32) : va_E :=
  if K < 10 then .inr (K, (List.range (g_n K)).map (g_v ad K i τ))
  else if g_ty K < 3 then .inl (cy (g_ty K), g_len ad K i, .inl τ)
  else if g_ty K < 9 then .inl (cy (g_ty K), g_len ad K i, .inr (.inr (.inr (.inr (fun j => if τ j < 0 then none else some (ad (g_et K) j))))))
  else .inr (K - 100, (List.range (g_n (K - 100))).map (g_vc ad (K - 100) i τ))
def g_tys (cy : Nat → ClassId) : List (ClassId × FieldType) := [(cy 0, .byte), (cy 1, .int), (cy 2, .boolean), (cy 3, .object "OfficeLadder$Law"), (cy 4, .object "OfficeLadder$Office"), (cy 5, .object "OfficeLadder$Person"), (cy 6, .object "OfficeLadder$Shelf")]
def g_ws (cy : Nat → ClassId) (ad : gA) (L : gL) (σ : gS) : va_W := L.map fun q => (ad q.1 q.2, g_ct cy ad q.1 q.2 (σ q.1 q.2))
theorem g_ws_at {cy : Nat → ClassId} {ad : gA} {L : gL} {σ : gS} {K i : Nat} (h : (K, i) ∈ L) : ∃ k : Nat, L[k]? = some (K, i) ∧ (g_ws cy ad L σ)[k]? = some (ad K i, g_ct cy ad K i (σ K i)) := by
  obtain ⟨k, hk⟩ := List.getElem?_of_mem h
  exact ⟨k, hk, by simp [g_ws, hk]⟩
theorem g_ws_set {cy : Nat → ClassId} {ad : gA} {L : gL} {σ σ' : gS} {A : Nat → Prop} {K i k : Nat} {e : va_E} (hD : va_D A (g_ws cy ad L σ)) (hk : L[k]? = some (K, i)) (he : g_ct cy ad K i (σ' K i) = e) (ho : ∀ K' i', ¬ (K' = K ∧ i' = i) → σ' K' i' = σ K' i') : (g_ws cy ad L σ).set k (ad K i, e) = g_ws cy ad L σ' := by
  have hlt : k < L.length := (List.getElem?_eq_some_iff.mp hk).1
  apply List.ext_getElem?
  intro n
  by_cases hn : n = k
  · subst hn
    rw [List.getElem?_set_self (by simpa [g_ws] using hlt)]
    simp [g_ws, hk, he]
  · rw [List.getElem?_set_ne (Ne.symm hn)]
    cases hq : L[n]? with
    | none => simp [g_ws, hq]
    | some q =>
      obtain ⟨K', i'⟩ := q
      have hne : ¬ (K' = K ∧ i' = i) := by
        rintro ⟨rfl, rfl⟩
        refine hn (hD.1 n k (ad K' i', g_ct cy ad K' i' (σ K' i')) (ad K' i', g_ct cy ad K' i' (σ K' i')) ?_ ?_ rfl)
        · simp [g_ws, hq]
        · simp [g_ws, hk]
      simp [g_ws, hq, ho K' i' hne]
/-- what a live thing refers to is live -/
def g_Cl (L : gL) (σ : gS) : Prop := (∀ K i j, (K, i) ∈ L → K < 10 → 2 ≤ g_tg K j → (g_tg K j - 2, i) ∈ L) ∧ (∀ K i j, (K, i) ∈ L → 10 ≤ K → (3 ≤ g_ty K ∧ g_ty K < 9) → ¬ σ K i j < 0 → (g_et K, j) ∈ L) ∧ ∀ i, (7, i) ∈ L → ¬ σ 7 i 1 < 0 → (2, (σ 7 i 1).toNatClampNeg) ∈ L
def g_nest : List Cond := [.methodLinkNest "OfficeLadder" 11 ⟨"OfficeLadder$Republic", "<init>", "()V"⟩ "OfficeLadder", .methodLinkNest "OfficeLadder$Republic" 47 ⟨"OfficeLadder$Past", "<init>", "()V"⟩ "OfficeLadder", .methodLinkNest "OfficeLadder" 18 ⟨"OfficeLadder$Filler", "<init>", "()V"⟩ "OfficeLadder", .methodLinkNest "OfficeLadder" 25 ⟨"OfficeLadder$Election", "<init>", "()V"⟩ "OfficeLadder", .methodLinkNest "OfficeLadder" 40 ⟨"OfficeLadder$Shelf", "<init>", "()V"⟩ "OfficeLadder", .methodLinkNest "OfficeLadder$Republic" 62 ⟨"OfficeLadder", "isOrder", "(I)Z"⟩ "OfficeLadder", .methodLinkNest "OfficeLadder$Republic" 56 ⟨"OfficeLadder", "isYear", "(I)Z"⟩ "OfficeLadder", .methodLinkNest "OfficeLadder$Election" 73 ⟨"OfficeLadder", "draw", "([IIJ)V"⟩ "OfficeLadder"]
def g_N (U : State) : Prop := (∀ w ∈ g_nest, va_Nw w U) ∧ va_AO "OfficeLadder$Law" U ∧ va_AO "OfficeLadder$Office" U ∧ va_AO "OfficeLadder$Person" U ∧ va_AO "OfficeLadder$Shelf" U
theorem g_N.warm {s U : State} (hW : s.WarmedH U.vm) (h : g_N s) : g_N U := by
  refine ⟨?_, h.2.1.moved hW.alike, h.2.2.1.moved hW.alike, h.2.2.2.1.moved hW.alike, h.2.2.2.2.moved hW.alike⟩
  have h := h.1
  unfold g_nest at *
  simp only [List.forall_mem_cons] at h ⊢
  obtain ⟨h1, h2, h3, h4, h5, h6, h7, h8, -⟩ := h
  exact ⟨h1.warmM hW, h2.warmM hW, h3.warmM hW, h4.warmM hW, h5.warmM hW, h6.warmM hW, h7.warmM hW, h8.warmM hW, fun _ h => absurd h List.not_mem_nil⟩
theorem g_N.same {s U : State} (hv : s.vm = U.vm) (h : g_N s) : g_N U := by
  have ha : s.vm.Alike U.vm := hv ▸ Vm.Alike.refl s.vm
  refine ⟨?_, h.2.1.moved ha, h.2.2.1.moved ha, h.2.2.2.1.moved ha, h.2.2.2.2.moved ha⟩
  have h := h.1
  unfold g_nest at *
  simp only [List.forall_mem_cons] at h ⊢
  obtain ⟨h1, h2, h3, h4, h5, h6, h7, h8, -⟩ := h
  exact ⟨h1.same rfl hv, h2.same rfl hv, h3.same rfl hv, h4.same rfl hv, h5.same rfl hv, h6.same rfl hv, h7.same rfl hv, h8.same rfl hv, fun _ h => absurd h List.not_mem_nil⟩
/-- the world at a call's start and end -/
def g_Pre (D : va_G) (cy : Nat → ClassId) (A : Nat → Prop) (ad : gA) (L : gL) (σ : gS) (U : State) : Prop := (va_P D vwCl (g_ws cy ad L σ) U.heap ∧ va_D A (g_ws cy ad L σ) ∧ g_Cl L σ) ∧ (va_K D vwCl (g_tys cy) U ∧ g_N U) ∧ ∀ q, U.heap.size ≤ q → A q
def g_C (own : String) (cc : ByteArray) (nL : Nat) (D : va_G) (cy : Nat → ClassId) (A : Nat → Prop) (p : Program) (m : MethodId) (c : Code) (s : State) (args : Array Value) : Prop := CallFix p m c cc nL s args lw_good own ∧ (va_K D vwCl (g_tys cy) s ∧ g_N s) ∧ ∀ q, s.heap.size ≤ q → A q
def g_H (D : va_G) (cy : Nat → ClassId) (A : Nat → Prop) (ad : gA) (L : gL) (σ : gS) (H0 H : Heap) (locs : List Loc) : Prop := va_P D vwCl (g_ws cy ad L σ) H ∧ va_D A (g_ws cy ad L σ) ∧ va_S A H0 H locs ∧ g_Cl L σ
theorem g_Pre.blind {D : va_G} {cy : Nat → ClassId} {A : Nat → Prop} {ad : gA} {L : gL} {σ : gS} {As : List Value} : FrameBlind (va_Pc As (g_Pre D cy A ad L σ)) := fun a U g mk h => ⟨h.1, h.2.1, ⟨va_K.moved (u := U) (U := U.calling g mk a) (Vm.Alike.refl U.vm) h.2.2.1.1, g_N.same (s := U) (U := U.calling g mk a) rfl h.2.2.1.2⟩, h.2.2.2⟩
/-- from a method's contract to the walk of its body -/
theorem g_met {l : Launch} {y : MethodName} {cc : ByteArray} {maxL : Nat} {ret : Option FieldType} {rm : Room} {D : va_G} {cy : Nat → ClassId} {A : Nat → Prop} {ad : gA} {L : gL} {σ : gS} {As : List Value} {Qc : Array Value → State → Outcome → State → Prop} {mc ms : Nat} (hy : plainName y.cls = true) (hle : (lg_sl As).length ≤ maxL)
    (body : ∀ (p : Program) (e : Env) (s : State) (m : MethodId) (below : List Frame) (meth : Method) (c : Code), g_C y.cls cc maxL D cy A p m c s As.toArray → meth.sig.returnType = ret → meth.locks = false → meth.name = y.name → g_H D cy A ad L σ s.heap s.heap [] → ∀ ls : Array Slot, lv_has ls maxL (lv_args 0 As) →
      W p l e rm s m As.toArray below meth c s.heap [] 0 0 (MQ below Qc As.toArray s mc ms A) (F0 m 0 ls [])) :
    Met l y (Cond.code y cc maxL ret :: lw_good) rm (va_Pc As (g_Pre D cy A ad L σ)) Qc mc ms A := by
  refine Met.ofW (cc := cc) (maxL := maxL) (ret := ret) hy rfl ?_
  intro p e s m args below meth c s₁ B hml hv
  obtain ⟨rfl, ⟨hP, hD, hCl⟩, hKN, hA⟩ := hv
  have hts0 := atoms_spec (ws := Cond.code y cc maxL ret :: lw_good) B.pre
  have hown : s.vm.findClass y.cls = some m.cls := findClass_of_methodNamed B.named
  have hl := lv_entry As (n := maxL) hle
  rw [lg_entry_eq]
  exact body p e s m below meth c ⟨⟨B.exec, B.bytes, hml, hown, fun w hw => hts0 w (List.mem_cons_of_mem _ hw)⟩, hKN, hA⟩ B.returns B.notSynchronized (name_of_methodNamed B.named B.method).1 ⟨hP, hD, va_S.rf, hCl⟩ _ hl
section GR
variable {p : Program} {l : Launch} {e : Env} {R : Room} {s : State} {m : MethodId} {args : Array Value} {below : List Frame} {meth : Method} {c : Code} {H : Heap} {locs : List Loc} {cells slots : Nat} {Q : State → Prop}
variable {own : String} {cc : ByteArray} {nL : Nat} {D : va_G} {cy : Nat → ClassId} {A : Nat → Prop} {ad : gA} {L : gL} {σ : gS} {pc : Nat} {ls : Array Slot} {rest : List Value}
theorem g_C.x (C : g_C own cc nL D cy A p m c s args) : p.tables.exec = Jvm.exec := C.1.1
theorem g_C.b (C : g_C own cc nL D cy A p m c s args) : c.code = cc := C.1.2.1
theorem g_fs {K i j : Nat} {τ : Nat → Int32} (hj : j < g_n K) : ((List.range (g_n K)).map (g_v ad K i τ))[j]? = some (g_v ad K i τ j) := by
  simp [hj]
theorem g_geti (C : g_C own cc nL D cy A p m c s args) (G : g_H D cy A ad L σ s.heap H locs) (K i j : Nat) (hL : (K, i) ∈ L) {Cn : String} {T : u_T} {N index : Nat} (hc : vwCl[K]? = some (Cn, T, N)) (hin : ∀ w ∈ u_ws Cn T N, w ∈ lw_good) (hj : g_n K = N ∧ j < N ∧ K < 10 ∧ g_tg K j = 0) (hlink : Cond.fieldLink own index (T j).1 (T j).2.1 (T j).2.2.1 ∈ lw_good) (hdg : decode cc pc = .ok (.getfield index, 3))
    (kk : W p l e R s m args below meth c H locs cells slots Q (F0 m (pc + 3) ls (.int (σ K i j) :: rest))) : W p l e R s m args below meth c H locs cells slots Q (F0 m pc ls (.ref (ad K i) :: rest)) := by
  obtain ⟨⟨hx, hb, hml, hown, hts⟩, ⟨hK, hN⟩, hA⟩ := C
  obtain ⟨hP, hD, hS, hCl⟩ := G
  obtain ⟨k, hk, hw⟩ := g_ws_at (cy := cy) (ad := ad) (σ := σ) hL
  obtain ⟨h1, h2, h3, h4⟩ := hj
  rw [g_ct, if_pos h3] at hw
  exact va_get hx hb hts hin hown hK hP k hw hc j h2 (hts _ hlink) (fun _ h => h) (v := .int (σ K i j)) (by rw [g_fs (h1 ▸ h2)]; simp [g_v, h4]) hdg kk
theorem g_getr (C : g_C own cc nL D cy A p m c s args) (G : g_H D cy A ad L σ s.heap H locs) (K i j K' : Nat) (hL : (K, i) ∈ L) {Cn : String} {T : u_T} {N index : Nat} (hc : vwCl[K]? = some (Cn, T, N)) (hin : ∀ w ∈ u_ws Cn T N, w ∈ lw_good) (hj : g_n K = N ∧ j < N ∧ K < 10 ∧ g_tg K j = K' + 2) (hlink : Cond.fieldLink own index (T j).1 (T j).2.1 (T j).2.2.1 ∈ lw_good) (hdg : decode cc pc = .ok (.getfield index, 3))
    (kk : (K', i) ∈ L → W p l e R s m args below meth c H locs cells slots Q (F0 m (pc + 3) ls (.ref (ad K' i) :: rest))) : W p l e R s m args below meth c H locs cells slots Q (F0 m pc ls (.ref (ad K i) :: rest)) := by
  obtain ⟨⟨hx, hb, hml, hown, hts⟩, ⟨hK, hN⟩, hA⟩ := C
  obtain ⟨hP, hD, hS, hCl⟩ := G
  obtain ⟨k, hk, hw⟩ := g_ws_at (cy := cy) (ad := ad) (σ := σ) hL
  obtain ⟨h1, h2, h3, h4⟩ := hj
  rw [g_ct, if_pos h3] at hw
  have h5 := hCl.1 K i j hL h3 (by omega)
  rw [h4, Nat.add_sub_cancel] at h5
  exact va_get hx hb hts hin hown hK hP k hw hc j h2 (hts _ hlink) (fun _ h => h) (v := .ref (ad K' i)) (by rw [g_fs (h1 ▸ h2)]; simp [g_v, h4]) hdg (kk h5)
/-- Shelf's law: none, or a live one -/
theorem g_getq (C : g_C own cc nL D cy A p m c s args) (G : g_H D cy A ad L σ s.heap H locs) (i : Nat) (hL : (7, i) ∈ L) {index : Nat} (hin : ∀ w ∈ u_ws RX7 TX7 5, w ∈ lw_good) (hlink : Cond.fieldLink own index (TX7 1).1 (TX7 1).2.1 (TX7 1).2.2.1 ∈ lw_good) (hdg : decode cc pc = .ok (.getfield index, 3))
    (kn : σ 7 i 1 < 0 → W p l e R s m args below meth c H locs cells slots Q (F0 m (pc + 3) ls (.null :: rest)))
    (kk : ¬ σ 7 i 1 < 0 → (2, (σ 7 i 1).toNatClampNeg) ∈ L → W p l e R s m args below meth c H locs cells slots Q (F0 m (pc + 3) ls (.ref (ad 2 (σ 7 i 1).toNatClampNeg) :: rest))) : W p l e R s m args below meth c H locs cells slots Q (F0 m pc ls (.ref (ad 7 i) :: rest)) := by
  obtain ⟨⟨hx, hb, hml, hown, hts⟩, ⟨hK, hN⟩, hA⟩ := C
  obtain ⟨hP, hD, hS, hCl⟩ := G
  obtain ⟨k, hk, hw⟩ := g_ws_at (cy := cy) (ad := ad) (σ := σ) hL
  rw [g_ct, if_pos (by decide)] at hw
  by_cases hn : σ 7 i 1 < 0
  · exact va_get hx hb hts hin hown hK hP k hw rfl 1 (by decide) (hts _ hlink) (fun _ h => h) (v := .null) (by rw [g_fs (by decide)]; simp [g_v, g_tg, g_tgs, hn, va_rf]) hdg (kn hn)
  · exact va_get hx hb hts hin hown hK hP k hw rfl 1 (by decide) (hts _ hlink) (fun _ h => h) (v := .ref (ad 2 (σ 7 i 1).toNatClampNeg)) (by rw [g_fs (by decide)]; simp [g_v, g_tg, g_tgs, hn, va_rf]) hdg (kk hn (hCl.2.2 i hL hn))
end GR
