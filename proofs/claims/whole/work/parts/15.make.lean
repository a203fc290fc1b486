section GMK
variable {p : Program} {l : Launch} {e : Env} {R : Room} {s : State} {m : MethodId} {args : Array Value} {below : List Frame} {meth : Method} {c : Code} {H : Heap} {locs : List Loc} {cells slots : Nat} {Q : State → Prop}
variable {own : String} {cc : ByteArray} {nL : Nat} {D : va_G} {cy : Nat → ClassId} {A : Nat → Prop} {ad : gA} {L : gL} {σ : gS} {pc : Nat} {ls : Array Slot} {rest st : List Value}
theorem g_ct_mk {k i : Nat} {τ : Nat → Int32} : g_ct cy ad (100 + k) i τ = .inr (k, (List.range (g_n k)).map (g_vc ad k i τ)) := by
  rw [g_ct, if_neg (by omega)]
  have h9 : g_ty (100 + k) = 9 := by
    unfold g_ty
    rw [List.getD_eq_getElem?_getD, List.getElem?_eq_none (by simp [g_tyl]; omega)]
    rfl
  rw [h9, if_neg (by decide), if_neg (by decide), Nat.add_sub_cancel_left]
theorem g_ty_mk {k : Nat} : g_ty (100 + k) = 9 := by
  unfold g_ty
  rw [List.getD_eq_getElem?_getD, List.getElem?_eq_none (by simp [g_tyl]; omega)]
  rfl
theorem g_newq (C : g_C own cc nL D cy A p m c s args) (G : g_H D cy A ad L σ s.heap H locs) (K i : Nat) {Cn : String} {index t : Nat} {n : Int32} {N : Nat} (hK9 : 10 ≤ K ∧ g_ty K = t ∧ 3 ≤ t ∧ t < 9) (htt : (g_tys cy)[t]? = some (cy t, .object Cn)) (hcl : Cond.classLink own index Cn ∈ lw_good) (hao : va_AO Cn s) (hn : ¬ n < 0) (hN : n.toNatClampNeg = N) (hlen : g_len ad K i = N) (hby : N * 4 ≤ 536870912) (hfr : (K, i) ∉ L) (had : ad K i = H.size) (hcells : cells + 1 ≤ R.cells) (hslots : slots + N ≤ R.slots) (hdg : decode cc pc = .ok (.anewarray index, 3))
    (kk : ∀ (H : Heap), g_H D cy A ad (L ++ [(K, i)]) (g_row σ K i (fun _ => -1)) s.heap H locs → W p l e R s m args below meth c H locs (cells + 1) (slots + N) Q (F0 m (pc + 3) ls (.ref (ad K i) :: rest))) : W p l e R s m args below meth c H locs cells slots Q (F0 m pc ls (.int n :: rest)) := by
  obtain ⟨⟨hx, hb, hml, hown, hts⟩, ⟨hK, hNn⟩, hA⟩ := C
  obtain ⟨hP, hD, hS, hCl⟩ := G
  subst hN
  refine W.anew hx hb hown (hts _ hcl) (va_AO.use hao) rfl hdg rfl hn hby hcells hslots fun cA kA comp f1 f2 f3 f4 => ?_
  generalize hH1 : H.push ({ cls := cA, slots := Array.replicate n.toNatClampNeg .null, vm := .none } : Cell) = H1
  have z1 : H1.size = H.size + 1 := by rw [← hH1, Array.size_push]
  have e1 : H1[H.size]? = some (arrV cA n.toNatClampNeg (fun _ => .null)) := by rw [← hH1, Array.getElem?_push_size, ← arrV_new]
  have o1 : ∀ q : Nat, q < H.size → H1[q]? = H[q]? := fun q hq => by rw [← hH1, Array.getElem?_push, if_neg (Nat.ne_of_lt hq)]
  have hcA : cA = cy t := by
    obtain ⟨kA', comp', -, -, -, h4⟩ := (hK.2 t _ htt).2
    first | exact Option.some.inj (f4.symm.trans h4) | exact Option.some.inj (f1.symm.trans h4)
  subst hcA
  have hkp : ∀ (k : Nat) (x : Nat × va_E), (g_ws cy ad L σ)[k]? = some x → H1[x.1]? = H[x.1]? := fun k x hx => o1 x.1 ((hP k x hx).lt)
  have hct : g_ct cy ad K i (fun _ => -1) = .inl (cy t, n.toNatClampNeg, .inr (.inr (.inr (.inr (fun _ => none))))) := by
    rw [g_ct, if_neg (by omega), hK9.2.1, if_neg (by omega), if_pos hK9.2.2.2, hlen]
    rfl
  have e : g_ws cy ad L σ ++ [(H.size, .inl (cy t, n.toNatClampNeg, .inr (.inr (.inr (.inr (fun _ => none))))))] = g_ws cy ad (L ++ [(K, i)]) (g_row σ K i (fun _ => -1)) := by
    rw [g_ws_push hfr, hct, had]
  have h1 := (hP.kept hkp).app (w2 := [(H.size, .inl (cy t, n.toNatClampNeg, .inr (.inr (.inr (.inr (fun _ => none))))))]) (fun n x hx => by
    have hz1 : n < 1 := (List.getElem?_eq_some_iff.mp hx).1
    rw [show n = 0 by omega] at hx
    cases hx
    show H1[H.size]? = some (vp_cell _ _)
    rw [e1]
    rfl)
  have h2 := hD.push (e := .inl (cy t, n.toNatClampNeg, .inr (.inr (.inr (.inr (fun _ => none)))))) hP rfl (hA _ hS.1)
  rw [e] at h1 h2
  have hr := kk H1 ⟨h1, h2, ⟨Nat.le_trans hS.1 (by omega), fun x h1 h2 => (o1 x (Nat.lt_of_lt_of_le h1 hS.1)).trans (hS.2.1 x h1 h2), hS.2.2⟩, hCl.push hfr hK9.1 (fun j hq => by decide)⟩
  rw [had] at hr
  exact hr
theorem g_mfs {k i j : Nat} {τ : Nat → Int32} (hj : j < g_n k) : ((List.range (g_n k)).map (g_vc ad k i τ))[j]? = some (g_vc ad k i τ j) := by
  simp [hj]
theorem g_mset {k i j : Nat} {τ : Nat → Int32} {v : Value} {x : Int32} (hv : v = g_vc ad k i (upd τ j x) j) : ((List.range (g_n k)).map (g_vc ad k i τ)).set j v = (List.range (g_n k)).map (g_vc ad k i (upd τ j x)) := by
  refine List.ext_getElem (by simp) fun n h1 h2 => ?_
  rw [List.getElem_set, List.getElem_map, List.getElem_map, List.getElem_range]
  by_cases hn : j = n
  · subst hn
    rw [if_pos rfl, hv]
  · rw [if_neg hn]
    unfold g_vc
    rw [show upd τ j x n = τ n from pk_un (Ne.symm hn)]
theorem g_Cl.upm {k i j : Nat} {v : Int32} (h : g_Cl L σ) : g_Cl L (g_up σ (100 + k) i j v) := by
  refine ⟨h.1, fun K' i' j' h1 h2 h3 h4 => ?_, fun i' h1 h2 => ?_⟩
  · rw [g_up_kind (by rintro rfl; rw [g_ty_mk] at h3; omega)] at h4
    exact h.2.1 K' i' j' h1 h2 h3 h4
  · rw [g_up_kind (by omega)] at h2 ⊢
    exact h.2.2 i' h1 h2
theorem g_mget (C : g_C own cc nL D cy A p m c s args) (G : g_H D cy A ad L σ s.heap H locs) (k i j : Nat) (hL : (100 + k, i) ∈ L) {Cn : String} {T : u_T} {N index : Nat} {v : Value} (hc : vwCl[k]? = some (Cn, T, N)) (hin : ∀ w ∈ u_ws Cn T N, w ∈ lw_good) (hj : g_n k = N ∧ j < N) (hv : g_vc ad k i (σ (100 + k) i) j = v) (hlink : Cond.fieldLink own index (T j).1 (T j).2.1 (T j).2.2.1 ∈ lw_good) (hdg : decode cc pc = .ok (.getfield index, 3))
    (kk : W p l e R s m args below meth c H locs cells slots Q (F0 m (pc + 3) ls (v :: rest))) : W p l e R s m args below meth c H locs cells slots Q (F0 m pc ls (.ref (ad (100 + k) i) :: rest)) := by
  obtain ⟨⟨hx, hb, hml, hown, hts⟩, ⟨hK, hN⟩, hA⟩ := C
  obtain ⟨hP, hD, hS, hCl⟩ := G
  obtain ⟨q, hq, hw⟩ := g_ws_at (cy := cy) (ad := ad) (σ := σ) hL
  rw [g_ct_mk] at hw
  exact va_get hx hb hts hin hown hK hP q hw hc j hj.2 (hts _ hlink) (fun _ h => h) (v := v) (by rw [g_mfs (hj.1 ▸ hj.2), hv]) hdg kk
theorem g_mput (C : g_C own cc nL D cy A p m c s args) (G : g_H D cy A ad L σ s.heap H locs) (k i j : Nat) (x : Int32) (hL : (100 + k, i) ∈ L) {Cn : String} {T : u_T} {N index : Nat} {v : Value} {ty : Nat → FieldType} (hc : vwCl[k]? = some (Cn, T, N)) (hin : ∀ w ∈ u_ws Cn T N, w ∈ lw_good) (hty : ∀ k, k < N → parseFieldDescriptor (T k).2.2.1 = some (ty k)) (hnm : ∀ a, a < N → ∀ b, b < N → a ≠ b → (T a).2.1 ≠ (T b).2.1) (hj : g_n k = N ∧ j < N) (hv : v = g_vc ad k i (upd (σ (100 + k) i) j x) j) (hfit : narrow (ty j) v = v ∧ fits (ty j) v = true) (hin2 : meth.name = "<init>") (hdecl : (T j).1 = own) (hlink : Cond.fieldLink own index (T j).1 (T j).2.1 (T j).2.2.1 ∈ lw_good) (hdg : decode cc pc = .ok (.putfield index, 3))
    (kk : ∀ (H : Heap) (locs : List Loc), g_H D cy A ad L (g_up σ (100 + k) i j x) s.heap H locs → W p l e R s m args below meth c H locs cells slots Q (F0 m (pc + 3) ls rest)) : W p l e R s m args below meth c H locs cells slots Q (F0 m pc ls (v :: .ref (ad (100 + k) i) :: rest)) := by
  obtain ⟨⟨hx, hb, hml, hown, hts⟩, ⟨hK, hN⟩, hA⟩ := C
  obtain ⟨hP, hD, hS, hCl⟩ := G
  obtain ⟨q, hq, hw⟩ := g_ws_at (cy := cy) (ad := ad) (σ := σ) hL
  rw [g_ct_mk] at hw
  have he9 : (g_ws cy ad L σ).set q (ad (100 + k) i, .inr (k, ((List.range (g_n k)).map (g_vc ad k i (σ (100 + k) i))).set j v)) = g_ws cy ad L (g_up σ (100 + k) i j x) := g_ws_set hD hq (by rw [g_ct_mk, g_up_row, g_mset hv]) g_up_oth
  have go : ∀ (H1 : Heap) (locs1 : List Loc), va_P D vwCl ((g_ws cy ad L σ).set q (ad (100 + k) i, .inr (k, ((List.range (g_n k)).map (g_vc ad k i (σ (100 + k) i))).set j v))) H1 → va_D A ((g_ws cy ad L σ).set q (ad (100 + k) i, .inr (k, ((List.range (g_n k)).map (g_vc ad k i (σ (100 + k) i))).set j v))) → va_S A s.heap H1 locs1 → W p l e R s m args below meth c H1 locs1 cells slots Q (F0 m (pc + 3) ls rest) := by
    intro H1 locs1 hP1 hD1 hS1
    rw [he9] at hP1 hD1
    exact kk H1 locs1 ⟨hP1, hD1, hS1, hCl.upm⟩
  by_cases hf : (T j).2.2.2 = true
  · exact va_putF hx hb hts hin ty hty hnm hown hK hP hD hS q hw hc j hj.2 (hts _ hlink) (fun _ h => h) hf hin2 hdecl (v := v) (hty j hj.2) hfit.1 hfit.2 (by simp; omega) hdg go
  · exact va_put hx hb hts hin ty hty hnm hown hK hP hD hS q hw hc j hj.2 (hts _ hlink) (fun _ h => h) (by simpa using hf) (v := v) (hty j hj.2) hfit.1 hfit.2 (by simp; omega) hdg go
theorem g_objI (C : g_C own cc nL D cy A p m c s args) {idx a : Nat} (hlink : Cond.methodLink own idx Lib.objectInit ∈ lw_good) (hinst : Cond.instanceMethod Lib.objectInit ∈ lw_good) (hcode : Cond.code Lib.objectInit ⟨#[0xb1]⟩ 1 none ∈ lw_good) (hls : ls.size = nL) (hd : decode cc pc = .ok (.invokespecial idx, 3)) (hfr : 1 ≤ R.frames) (hlo : 12 ≤ R.locals)
    (kk : W p l e R s m args below meth c H locs cells slots Q (F0 m (pc + 3) ls [])) : W p l e R s m args below meth c H locs cells slots Q (F0 m pc ls [.ref a]) := by
  have hts := C.1.2.2.2.2
  exact W.objInit C.x C.b C.1.2.2.2.1 (hts _ hlink) (hts _ hinst) (hts _ hcode) rfl (by rw [C.1.2.2.1]; exact hls) rfl hd hfr (by show 2 * 0 + 0 + 12 ≤ _; omega) kk
/-- an object is made: from now on it is one of its kind -/
theorem g_conv {k i : Nat} {L1 L2 : gL} (G : g_H D cy A ad (L1 ++ (100 + k, i) :: L2) σ s.heap H locs) (hk : k < 10) (had : ad k i = ad (100 + k) i) (hfr : (k, i) ∉ L1 ++ (100 + k, i) :: L2) (hset : ∀ j, j < g_n k → 2 ≤ g_tg k j → ¬ σ (100 + k) i j < 0 ∧ (g_tg k j - 2, i) ∈ L1 ++ (k, i) :: L2) (hlaw : k = 7 → σ (100 + k) i 1 < 0) :
    g_H D cy A ad (L1 ++ (k, i) :: L2) (g_row σ k i (σ (100 + k) i)) s.heap H locs := by
  obtain ⟨hP, hD, hS, hCl⟩ := G
  have hin : ∀ K' i', (K', i') ∈ L1 ++ (k, i) :: L2 → (K', i') = (k, i) ∨ (K', i') ∈ L1 ++ (100 + k, i) :: L2 := by
    intro K' i' h
    rcases List.mem_append.mp h with h | h
    · exact Or.inr (List.mem_append_left _ h)
    · rcases List.mem_cons.mp h with h | h
      · exact Or.inl h
      · exact Or.inr (List.mem_append_right _ (List.mem_cons_of_mem _ h))
  have hout : ∀ K' i', (K', i') ∈ L1 ++ (100 + k, i) :: L2 → K' ≠ 100 + k → (K', i') ∈ L1 ++ (k, i) :: L2 := by
    intro K' i' h hne
    rcases List.mem_append.mp h with h | h
    · exact List.mem_append_left _ h
    · rcases List.mem_cons.mp h with h | h
      · exact absurd (congrArg Prod.fst h) hne
      · exact List.mem_append_right _ (List.mem_cons_of_mem _ h)
  have hold : ∀ K' i', (K', i') ∈ L1 ++ (100 + k, i) :: L2 → g_row σ k i (σ (100 + k) i) K' i' = σ K' i' := fun K' i' h => g_row_else K' i' (by rintro ⟨rfl, rfl⟩; exact hfr h)
  have e : g_ws cy ad (L1 ++ (k, i) :: L2) (g_row σ k i (σ (100 + k) i)) = g_ws cy ad (L1 ++ (100 + k, i) :: L2) σ := by
    unfold g_ws
    rw [List.map_append, List.map_append, List.map_cons, List.map_cons]
    congr 1
    · apply List.map_congr_left
      rintro ⟨K', i'⟩ hq
      rw [hold K' i' (List.mem_append_left _ hq)]
    · congr 1
      · show (ad k i, g_ct cy ad k i (g_row σ k i (σ (100 + k) i) k i)) = (ad (100 + k) i, g_ct cy ad (100 + k) i (σ (100 + k) i))
        rw [g_row_row, g_ct_mk, had, g_ct, if_pos hk]
        congr 3
        apply List.map_congr_left
        intro j hj
        have hj := List.mem_range.mp hj
        unfold g_v g_vc
        by_cases h0 : g_tg k j = 0
        · rw [if_pos h0, if_pos h0]
        · rw [if_neg h0, if_neg h0]
          by_cases h1 : g_tg k j = 1
          · rw [if_pos h1, if_pos h1]
          · rw [if_neg h1, if_neg h1, if_neg (hset j hj (by omega)).1]
      · apply List.map_congr_left
        rintro ⟨K', i'⟩ hq
        rw [hold K' i' (List.mem_append_right _ (List.mem_cons_of_mem _ hq))]
  refine ⟨by rw [e]; exact hP, by rw [e]; exact hD, hS, fun K' i' j' h1 h2 h3 => ?_, fun K' i' j' h1 h2 h3 h4 => ?_, fun i' h1 h2 => ?_⟩
  · rcases hin _ _ h1 with h | h
    · cases h
      by_cases hj : j' < g_n k
      · exact (hset j' hj h3).2
      · have : g_tg k j' = 0 := by
          unfold g_tg
          rw [List.getD_eq_getElem?_getD, List.getElem?_eq_none (by unfold g_n at hj; omega)]
          rfl
        omega
    · refine hout _ _ (hCl.1 K' i' j' h h2 h3) ?_
      have hb : ∀ K j, g_tg K j < 100 := by
        intro K j
        unfold g_tg
        rw [List.getD_eq_getElem?_getD]
        cases hq : (g_tgs K)[j]? with
        | none => simp
        | some v =>
          have hm := List.mem_of_getElem? hq
          have hall : ∀ K, ∀ v ∈ g_tgs K, v < 100 := by
            intro K
            match K with
            | 0 | 1 | 2 | 3 | 4 | 5 | 6 | 7 | 8 | 9 => decide
            | n + 10 => intro v hv; cases hv
          exact hall K v hm
      have := hb K' j'
      omega
  · rcases hin _ _ h1 with h | h
    · cases h; omega
    · rw [hold _ _ h] at h4
      refine hout _ _ (hCl.2.1 K' i' j' h h2 h3 h4) ?_
      unfold g_et
      split <;> omega
  · rcases hin _ _ h1 with h | h
    · cases h
      rw [g_row_row] at h2
      exact absurd (hlaw rfl) h2
    · rw [hold _ _ h] at h2 ⊢
      exact hout _ _ (hCl.2.2 i' h h2) (by omega)
theorem g_metH {l : Launch} {y : MethodName} {cc : ByteArray} {maxL h : Nat} {ret : Option FieldType} {rm : Room} {As : List Value} {Qc : Array Value → State → Outcome → State → Prop} {mc ms : Nat} (hy : plainName y.cls = true) (hle : (lg_sl As).length ≤ maxL)
    (body : ∀ (p : Program) (e : Env) (s : State) (m : MethodId) (below : List Frame) (meth : Method) (c : Code), g_C y.cls cc maxL D cy A p m c s As.toArray → meth.sig.returnType = ret → meth.locks = false → meth.name = y.name → s.heap.size = h → g_H D cy A ad L σ s.heap s.heap [] → ∀ ls : Array Slot, lv_has ls maxL (lv_args 0 As) →
      W p l e rm s m As.toArray below meth c s.heap [] 0 0 (MQ below Qc As.toArray s mc ms A) (F0 m 0 ls [])) :
    Met l y (Cond.code y cc maxL ret :: lw_good) rm (va_Pc As (g_PreH D cy A ad L σ h)) Qc mc ms A := by
  refine Met.ofW (cc := cc) (maxL := maxL) (ret := ret) hy rfl ?_
  intro p e s m args below meth c s₁ B hml hv
  obtain ⟨rfl, ⟨⟨hP, hD, hCl⟩, hKN, hA⟩, hh⟩ := hv
  have hts0 := atoms_spec (ws := Cond.code y cc maxL ret :: lw_good) B.pre
  have hown : s.vm.findClass y.cls = some m.cls := findClass_of_methodNamed B.named
  have hl := lv_entry As (n := maxL) hle
  rw [lg_entry_eq]
  exact body p e s m below meth c ⟨⟨B.exec, B.bytes, hml, hown, fun w hw => hts0 w (List.mem_cons_of_mem _ hw)⟩, hKN, hA⟩ B.returns B.notSynchronized (name_of_methodNamed B.named B.method).1 hh ⟨hP, hD, va_S.rf, hCl⟩ _ hl
variable {y : MethodName} {bytes : ByteArray} {maxL mc ms index h : Nat} {rm : Room} {Qc : Array Value → State → Outcome → State → Prop} {As : List Value} {a : Array Value} {L' : gL} {σ0 : gS}
abbrev g_hd (y : MethodName) (n : Nat) : Prop := y.cls ≠ "java/lang/invoke/MethodHandle" ∧ y.cls ≠ "java/lang/invoke/VarHandle" ∧ (parseMethodDescriptor y.desc).map (fun d => d.parameters.length) = some n
theorem g_runI (C : g_C own cc nL D cy A p m c s args) (G : g_H D cy A ad L σ s.heap H locs) (b : Nat) (hM : Met l y (Cond.code y bytes maxL none :: lw_good) rm (va_Pc (.ref b :: As) (g_PreH D cy A ad L σ h)) Qc mc ms A) (w : Cond.code y bytes maxL none ∈ lw_good ∧ Cond.initialized y.cls ∈ lw_good ∧ Cond.methodLink own index y ∈ lw_good ∧ (y.name = "<init>" ∧ Cond.instanceMethod y ∈ lw_good) ∧ g_hd y As.length) (hrm : g_rm rm R maxL mc ms) (hsz : H.size = h) (hls : ls.size = nL) (hst : st = As.reverse ++ .ref b :: rest) (hW : (rest.map fun v => v.category).sum ≤ 8) (hdg : decode cc pc = .ok (.invokespecial index, 3)) (hf : cells + mc ≤ R.cells ∧ slots + ms ≤ R.slots) :
    va_Run p l e R s m args below meth c H locs cells slots mc ms (F0 m pc ls st) rest (Qc (Value.ref b :: As).toArray) A := by
  obtain ⟨w1, w2, w3, w4, w5⟩ := w
  obtain ⟨r1, r2, r3, r4⟩ := hrm
  have hts := C.1.2.2.2.2
  exact va_runI C.1 hM ⟨callB_of As.length hts (g_good (y := y) (cc := bytes) (n := 0) (r := none) w1) rfl r1 r2 (hts _ w2) (hts _ w3) w5 ⟨r3, r4⟩, w4.1, hts _ w4.2⟩ ⟨g_PreH.blind, fun U hU hW => ⟨rfl, g_pre C G U hU hW, by rw [hU]; exact hsz⟩⟩ rfl rfl hls hst (by show 2 * 0 + _ ≤ 8; omega) hdg hf
theorem g_runJ (C : g_C own cc nL D cy A p m c s args) (G : g_H D cy A ad L σ s.heap H locs) (b : Nat) (hM : Met l y (Cond.code y bytes maxL none :: lw_good) rm (va_Pc (.ref b :: As) (g_PreH D cy A ad L σ h)) Qc mc ms A) (w : Cond.code y bytes maxL none ∈ lw_good ∧ Cond.initialized y.cls ∈ lw_good ∧ Cond.methodLinkNest own index y "OfficeLadder" ∈ g_nest ∧ (y.name = "<init>" ∧ Cond.instanceMethod y ∈ lw_good) ∧ g_hd y As.length) (hrm : g_rm rm R maxL mc ms) (hsz : H.size = h) (hls : ls.size = nL) (hst : st = As.reverse ++ .ref b :: rest) (hW : (rest.map fun v => v.category).sum ≤ 8) (hdg : decode cc pc = .ok (.invokespecial index, 3)) (hf : cells + mc ≤ R.cells ∧ slots + ms ≤ R.slots) :
    va_Run p l e R s m args below meth c H locs cells slots mc ms (F0 m pc ls st) rest (Qc (Value.ref b :: As).toArray) A := by
  obtain ⟨w1, w2, w3, w4, w5⟩ := w
  obtain ⟨r1, r2, r3, r4⟩ := hrm
  have hts := C.1.2.2.2.2
  exact va_runIN C.1 hM ⟨va_cnB As.length hts (g_good (y := y) (cc := bytes) (n := 0) (r := none) w1) rfl r1 r2 (C.2.1.2.1 _ w3) (hts _ w2) w5 ⟨r3, r4⟩, w4.1, hts _ w4.2⟩ ⟨g_PreH.blind, fun U hU hW => ⟨rfl, g_pre C G U hU hW, by rw [hU]; exact hsz⟩⟩ rfl rfl hls hst (by show 2 * 0 + _ ≤ 8; omega) hdg hf
theorem g_callA (G : g_H D cy A ad L σ s.heap H locs) (hr : va_Run p l e R s m args below meth c H locs cells slots mc ms (F0 m pc ls st) rest (va_Qv (fun (u : gS) => u = σ0) (g_Pre D cy A ad L') A a) A)
    (kk : ∀ (H : Heap) (locs : List Loc), g_H D cy A ad L' σ0 s.heap H locs → W p l e R s m args below meth c H locs (cells + mc) (slots + ms) Q (F0 m (pc + 3) ls rest)) : W p l e R s m args below meth c H locs cells slots Q (F0 m pc ls st) := by
  refine va_callv hr G.2.2.1 (fun _ _ h => h) (fun _ h => h) fun u t H1 locs1 ht hvm hp hB hz hk hS => ?_
  subst hp
  subst ht
  exact kk _ _ ⟨hB.1.1, hB.1.2.1, hS, hB.1.2.2⟩
end GMK
abbrev g_MA (l : Launch) (y : MethodName) (cc : ByteArray) (maxL : Nat) (rm : Room) (D : va_G) (cy : Nat → ClassId) (A : Nat → Prop) (ad : gA) (L : gL) (σ : gS) (h : Nat) (As : List Value) (L' : gL) (σ0 : gS) (mc ms : Nat) : Prop := Met l y (Cond.code y cc maxL none :: lw_good) rm (va_Pc As (g_PreH D cy A ad L σ h)) (va_Qv (fun (u : gS) => u = σ0) (g_Pre D cy A ad L') A) mc ms A
abbrev g_WA (p : Program) (l : Launch) (e : Env) (rm : Room) (s : State) (m : MethodId) (below : List Frame) (meth : Method) (c : Code) (H : Heap) (locs : List Loc) (cells slots : Nat) (D : va_G) (cy : Nat → ClassId) (A : Nat → Prop) (ad : gA) (As : List Value) (L' : gL) (σ0 : gS) (mc ms : Nat) (g : JFrame) : Prop := W p l e rm s m As.toArray below meth c H locs cells slots (MQ below (va_Qv (fun (u : gS) => u = σ0) (g_Pre D cy A ad L') A) As.toArray s mc ms A) g
