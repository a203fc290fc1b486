theorem g_ok {c : Prop} [Decidable c] {α : Type} {a : Option α} {r : α} (h : (if c then a else none) = some r) : c ∧ a = some r := by
  by_cases hc : c
  · rw [if_pos hc] at h; exact ⟨hc, h⟩
  · rw [if_neg hc] at h; cases h
theorem g_okn {c : Prop} [Decidable c] {α : Type} {a : Option α} {r : α} (h : (if c then none else a) = some r) : ¬ c ∧ a = some r := by
  by_cases hc : c
  · rw [if_pos hc] at h; cases h
  · rw [if_neg hc] at h; exact ⟨hc, h⟩
theorem g_t {c : Prop} [Decidable c] {α : Type} {a b : Option α} {r : α} (hc : c) (h : (if c then a else b) = some r) : a = some r := by
  rw [if_pos hc] at h; exact h
theorem g_f {c : Prop} [Decidable c] {α : Type} {a b : Option α} {r : α} (hc : ¬ c) (h : (if c then a else b) = some r) : b = some r := by
  rw [if_neg hc] at h; exact h
theorem g_b {α β : Type} {o : Option β} {k : β → Option α} {r : α} (h : o.bind k = some r) : ∃ x, o = some x ∧ k x = some r := by
  cases o with
  | none => cases h
  | some x => exact ⟨x, rfl, h⟩
theorem g_bo_fit {v : Int32} (h : g_bo v) : narrow .boolean (.int v) = .int v ∧ fits .boolean (.int v) = true := by
  rcases h with rfl | rfl <;> exact ⟨rfl, rfl⟩
/-- the words of a call -/
def g_wV (own : String) (index : Nat) (y : MethodName) (bytes : ByteArray) (maxL : Nat) (ret : Option FieldType) (n : Nat) : Prop := Cond.code y bytes maxL ret ∈ lw_good ∧ Cond.initialized y.cls ∈ lw_good ∧ Cond.methodLink own index y ∈ lw_good ∧ (Cond.instanceMethod y ∈ lw_good ∧ Cond.selects y.cls y y ∈ lw_good) ∧ (y.cls ≠ "java/lang/invoke/MethodHandle" ∧ y.cls ≠ "java/lang/invoke/VarHandle" ∧ (parseMethodDescriptor y.desc).map (fun d => d.parameters.length) = some n)
def g_wS (own : String) (index : Nat) (y : MethodName) (bytes : ByteArray) (maxL : Nat) (ret : Option FieldType) (n : Nat) : Prop := Cond.code y bytes maxL ret ∈ lw_good ∧ Cond.initialized y.cls ∈ lw_good ∧ Cond.methodLink own index y ∈ lw_good ∧ Cond.static y ∈ lw_good ∧ (y.cls ≠ "java/lang/invoke/MethodHandle" ∧ y.cls ≠ "java/lang/invoke/VarHandle" ∧ (parseMethodDescriptor y.desc).map (fun d => d.parameters.length) = some n)
def g_wN (own : String) (index : Nat) (y : MethodName) (bytes : ByteArray) (maxL : Nat) (ret : Option FieldType) (n : Nat) : Prop := Cond.code y bytes maxL ret ∈ lw_good ∧ Cond.initialized y.cls ∈ lw_good ∧ Cond.methodLinkNest own index y "OfficeLadder" ∈ g_nest ∧ Cond.static y ∈ lw_good ∧ (y.cls ≠ "java/lang/invoke/MethodHandle" ∧ y.cls ≠ "java/lang/invoke/VarHandle" ∧ (parseMethodDescriptor y.desc).map (fun d => d.parameters.length) = some n)
abbrev g_rm (rm R : Room) (maxL mc ms : Nat) : Prop := rm.cells = mc ∧ rm.slots = ms ∧ rm.frames + 1 ≤ R.frames ∧ 8 + (maxL + 11) + rm.locals ≤ R.locals
section GC
variable {p : Program} {l : Launch} {e : Env} {R : Room} {s : State} {m : MethodId} {args : Array Value} {below : List Frame} {meth : Method} {c : Code} {H : Heap} {locs : List Loc} {cells slots : Nat} {Q : State → Prop}
variable {own : String} {cc : ByteArray} {nL : Nat} {D : va_G} {cy : Nat → ClassId} {A : Nat → Prop} {ad : gA} {L : gL} {σ σ0 : gS} {pc : Nat} {ls : Array Slot} {rest st : List Value}
variable {y : MethodName} {bytes : ByteArray} {maxL mc ms index : Nat} {ret : Option FieldType} {rm : Room} {Qc : Array Value → State → Outcome → State → Prop} {As : List Value} {a : Array Value}
theorem g_pre (C : g_C own cc nL D cy A p m c s args) (G : g_H D cy A ad L σ s.heap H locs) : ∀ U : State, U.heap = H → s.WarmedH U.vm → g_Pre D cy A ad L σ U := fun U hU hW => ⟨⟨by rw [hU]; exact G.1, G.2.1, G.2.2.2⟩, ⟨va_K.moved hW.alike C.2.1.1, C.2.1.2.warm hW⟩, fun q hq => C.2.2 q (by rw [hU] at hq; exact Nat.le_trans G.2.2.1.1 hq)⟩
theorem g_runV (C : g_C own cc nL D cy A p m c s args) (G : g_H D cy A ad L σ s.heap H locs) (K i : Nat) (hM : Met l y (Cond.code y bytes maxL ret :: lw_good) rm (va_Pc (.ref (ad K i) :: As) (g_Pre D cy A ad L σ)) Qc mc ms A) (w : g_wV own index y bytes maxL ret As.length) (hrm : g_rm rm R maxL mc ms) (hL : (K, i) ∈ L) {q : vw_C} (hc : vwCl[K]? = some q) (hq : q.1 = y.cls ∧ K < 10) (hls : ls.size = nL) (hst : st = As.reverse ++ .ref (ad K i) :: rest) (hW : (rest.map fun v => v.category).sum ≤ 8) (hdg : decode cc pc = .ok (.invokevirtual index, 3)) (hf : cells + mc ≤ R.cells ∧ slots + ms ≤ R.slots) :
    va_Run p l e R s m args below meth c H locs cells slots mc ms (F0 m pc ls st) rest (Qc (Value.ref (ad K i) :: As).toArray) A := by
  obtain ⟨w1, w2, w3, w4, w5⟩ := w
  obtain ⟨r1, r2, r3, r4⟩ := hrm
  have hts := C.1.2.2.2.2
  obtain ⟨k, hk, hw⟩ := g_ws_at (cy := cy) (ad := ad) (σ := σ) hL
  rw [g_ct, if_pos hq.2] at hw
  have hrecv := va_recv C.2.1.1 G.1 hc hw
  rw [hq.1] at hrecv
  exact va_runV (C := y.cls) C.1 hM ⟨callB_of As.length hts (g_good (y := y) (cc := bytes) (n := 0) (r := ret) w1) rfl r1 r2 (hts _ w2) (hts _ w3) w5 ⟨r3, r4⟩, hts _ w4.1, hts _ w4.2⟩ ⟨g_Pre.blind, hrecv, fun U hU hW => ⟨rfl, g_pre C G U hU hW⟩⟩ rfl rfl hls hst (by show 2 * 0 + _ ≤ 8; omega) hdg hf
theorem g_runS (C : g_C own cc nL D cy A p m c s args) (G : g_H D cy A ad L σ s.heap H locs) (hM : Met l y (Cond.code y bytes maxL ret :: lw_good) rm (va_Pc As (g_Pre D cy A ad L σ)) Qc mc ms A) (w : g_wS own index y bytes maxL ret As.length) (hrm : g_rm rm R maxL mc ms) (hls : ls.size = nL) (hst : st = As.reverse ++ rest) (hW : (rest.map fun v => v.category).sum ≤ 8) (hdg : decode cc pc = .ok (.invokestatic index, 3)) (hf : cells + mc ≤ R.cells ∧ slots + ms ≤ R.slots) :
    va_Run p l e R s m args below meth c H locs cells slots mc ms (F0 m pc ls st) rest (Qc As.toArray) A := by
  obtain ⟨w1, w2, w3, w4, w5⟩ := w
  obtain ⟨r1, r2, r3, r4⟩ := hrm
  have hts := C.1.2.2.2.2
  exact va_runS C.1 hM ⟨callB_of As.length hts (g_good (y := y) (cc := bytes) (n := 0) (r := ret) w1) rfl r1 r2 (hts _ w2) (hts _ w3) w5 ⟨r3, r4⟩, hts _ w4⟩ ⟨g_Pre.blind, fun U hU hW => ⟨rfl, g_pre C G U hU hW⟩⟩ rfl rfl hls hst (by show 2 * 0 + _ ≤ 8; omega) hdg hf
theorem g_runN (C : g_C own cc nL D cy A p m c s args) (G : g_H D cy A ad L σ s.heap H locs) (hM : Met l y (Cond.code y bytes maxL ret :: lw_good) rm (va_Pc As (g_Pre D cy A ad L σ)) Qc mc ms A) (w : g_wN own index y bytes maxL ret As.length) (hrm : g_rm rm R maxL mc ms) (hls : ls.size = nL) (hst : st = As.reverse ++ rest) (hW : (rest.map fun v => v.category).sum ≤ 8) (hdg : decode cc pc = .ok (.invokestatic index, 3)) (hf : cells + mc ≤ R.cells ∧ slots + ms ≤ R.slots) :
    va_Run p l e R s m args below meth c H locs cells slots mc ms (F0 m pc ls st) rest (Qc As.toArray) A := by
  obtain ⟨w1, w2, w3, w4, w5⟩ := w
  obtain ⟨r1, r2, r3, r4⟩ := hrm
  have hts := C.1.2.2.2.2
  exact va_runSN C.1 hM ⟨va_cnB As.length hts (g_good (y := y) (cc := bytes) (n := 0) (r := ret) w1) rfl r1 r2 (C.2.1.2.1 _ w3) (hts _ w2) w5 ⟨r3, r4⟩, hts _ w4, trivial⟩ ⟨g_Pre.blind, fun U hU hW => ⟨rfl, g_pre C G U hU hW⟩⟩ rfl rfl hls hst (by show 2 * 0 + _ ≤ 8; omega) hdg hf
theorem g_calli {r0 : Int32} (G : g_H D cy A ad L σ s.heap H locs) (hr : va_Run p l e R s m args below meth c H locs cells slots mc ms (F0 m pc ls st) rest (va_Qi (fun r (u : gS) => r = r0 ∧ u = σ0) (g_Pre D cy A ad L) A a) A)
    (kk : ∀ (H : Heap) (locs : List Loc), g_H D cy A ad L σ0 s.heap H locs → W p l e R s m args below meth c H locs (cells + mc) (slots + ms) Q (F0 m (pc + 3) ls (.int r0 :: rest))) : W p l e R s m args below meth c H locs cells slots Q (F0 m pc ls st) := by
  refine va_calli hr G.2.2.1 (fun _ _ h => h) (fun _ h => h) fun r u t H1 locs1 ht hvm hp hB hz hk hS => ?_
  obtain ⟨rfl, rfl⟩ := hp
  subst ht
  exact kk _ _ ⟨hB.1.1, hB.1.2.1, hS, hB.1.2.2⟩
theorem g_calll {r0 : Int64} (G : g_H D cy A ad L σ s.heap H locs) (hr : va_Run p l e R s m args below meth c H locs cells slots mc ms (F0 m pc ls st) rest (va_Ql (fun r (u : gS) => r = r0 ∧ u = σ0) (g_Pre D cy A ad L) A a) A)
    (kk : ∀ (H : Heap) (locs : List Loc), g_H D cy A ad L σ0 s.heap H locs → W p l e R s m args below meth c H locs (cells + mc) (slots + ms) Q (F0 m (pc + 3) ls (.long r0 :: rest))) : W p l e R s m args below meth c H locs cells slots Q (F0 m pc ls st) := by
  refine va_calll hr G.2.2.1 (fun _ _ h => h) (fun _ h => h) fun r u t H1 locs1 ht hvm hp hB hz hk hS => ?_
  obtain ⟨rfl, rfl⟩ := hp
  subst ht
  exact kk _ _ ⟨hB.1.1, hB.1.2.1, hS, hB.1.2.2⟩
theorem g_callv (G : g_H D cy A ad L σ s.heap H locs) (hr : va_Run p l e R s m args below meth c H locs cells slots mc ms (F0 m pc ls st) rest (va_Qv (fun (u : gS) => u = σ0) (g_Pre D cy A ad L) A a) A)
    (kk : ∀ (H : Heap) (locs : List Loc), g_H D cy A ad L σ0 s.heap H locs → W p l e R s m args below meth c H locs (cells + mc) (slots + ms) Q (F0 m (pc + 3) ls rest)) : W p l e R s m args below meth c H locs cells slots Q (F0 m pc ls st) := by
  refine va_callv hr G.2.2.1 (fun _ _ h => h) (fun _ h => h) fun u t H1 locs1 ht hvm hp hB hz hk hS => ?_
  subst hp
  subst ht
  exact kk _ _ ⟨hB.1.1, hB.1.2.1, hS, hB.1.2.2⟩
theorem g_reti {r0 : Int32} (C : g_C own cc nL D cy A p m c s args) (G : g_H D cy A ad L σ0 s.heap H locs) (hr : meth.sig.returnType = some .int) (hlocks : meth.locks = false) (hdg : decode cc pc = .ok (.ireturn, 1)) : W p l e R s m args below meth c H locs cells slots (MQ below (va_Qi (fun r (u : gS) => r = r0 ∧ u = σ0) (g_Pre D cy A ad L) A) args s cells slots A) (F0 m pc ls [.int r0]) :=
  W.iret C.x C.b hr (fun t ht hW => ⟨⟨r0, σ0, rfl, ⟨rfl, rfl⟩, g_pre C G t ht hW⟩, G.2.2.1.F ht⟩) G.2.2.1.2.2 hdg hlocks
theorem g_retz {r0 : Int32} (C : g_C own cc nL D cy A p m c s args) (G : g_H D cy A ad L σ0 s.heap H locs) (hr : meth.sig.returnType = some .boolean) (hlocks : meth.locks = false) (hz : narrow .boolean (.int r0) = .int r0) (hdg : decode cc pc = .ok (.ireturn, 1)) : W p l e R s m args below meth c H locs cells slots (MQ below (va_Qi (fun r (u : gS) => r = r0 ∧ u = σ0) (g_Pre D cy A ad L) A) args s cells slots A) (F0 m pc ls [.int r0]) :=
  W.zret C.x C.b hr hz (fun t ht hW => ⟨⟨r0, σ0, rfl, ⟨rfl, rfl⟩, g_pre C G t ht hW⟩, G.2.2.1.F ht⟩) G.2.2.1.2.2 hdg hlocks
theorem g_retl {r0 : Int64} (C : g_C own cc nL D cy A p m c s args) (G : g_H D cy A ad L σ0 s.heap H locs) (hr : meth.sig.returnType = some .long) (hlocks : meth.locks = false) (hdg : decode cc pc = .ok (.lreturn, 1)) : W p l e R s m args below meth c H locs cells slots (MQ below (va_Ql (fun r (u : gS) => r = r0 ∧ u = σ0) (g_Pre D cy A ad L) A) args s cells slots A) (F0 m pc ls [.long r0]) :=
  W.lret C.x C.b hr (fun t ht hW => ⟨⟨r0, σ0, rfl, ⟨rfl, rfl⟩, g_pre C G t ht hW⟩, G.2.2.1.F ht⟩) G.2.2.1.2.2 hdg hlocks
theorem g_retv (C : g_C own cc nL D cy A p m c s args) (G : g_H D cy A ad L σ0 s.heap H locs) (hr : meth.sig.returnType = none) (hlocks : meth.locks = false) (hdg : decode cc pc = .ok (.return_, 1)) : W p l e R s m args below meth c H locs cells slots (MQ below (va_Qv (fun (u : gS) => u = σ0) (g_Pre D cy A ad L) A) args s cells slots A) (F0 m pc ls []) :=
  W.vret C.x C.b hr (fun t ht hW => ⟨⟨σ0, rfl, rfl, g_pre C G t ht hW⟩, G.2.2.1.F ht⟩) G.2.2.1.2.2 hdg hlocks
end GC
/-- the three shapes of contracts: an int (a boolean), a long, nothing; where all is as it was but σ -/
abbrev g_Mi (l : Launch) (y : MethodName) (cc : ByteArray) (maxL : Nat) (ret : Option FieldType) (rm : Room) (D : va_G) (cy : Nat → ClassId) (A : Nat → Prop) (ad : gA) (L : gL) (σ : gS) (As : List Value) (r0 : Int32) (σ0 : gS) : Prop := Met l y (Cond.code y cc maxL ret :: lw_good) rm (va_Pc As (g_Pre D cy A ad L σ)) (va_Qi (fun r (u : gS) => r = r0 ∧ u = σ0) (g_Pre D cy A ad L) A) 0 0 A
abbrev g_Ml (l : Launch) (y : MethodName) (cc : ByteArray) (maxL : Nat) (ret : Option FieldType) (rm : Room) (D : va_G) (cy : Nat → ClassId) (A : Nat → Prop) (ad : gA) (L : gL) (σ : gS) (As : List Value) (r0 : Int64) (σ0 : gS) : Prop := Met l y (Cond.code y cc maxL ret :: lw_good) rm (va_Pc As (g_Pre D cy A ad L σ)) (va_Ql (fun r (u : gS) => r = r0 ∧ u = σ0) (g_Pre D cy A ad L) A) 0 0 A
abbrev g_Mv (l : Launch) (y : MethodName) (cc : ByteArray) (maxL : Nat) (ret : Option FieldType) (rm : Room) (D : va_G) (cy : Nat → ClassId) (A : Nat → Prop) (ad : gA) (L : gL) (σ : gS) (As : List Value) (σ0 : gS) : Prop := Met l y (Cond.code y cc maxL ret :: lw_good) rm (va_Pc As (g_Pre D cy A ad L σ)) (va_Qv (fun (u : gS) => u = σ0) (g_Pre D cy A ad L) A) 0 0 A
section GE
variable {p : Program} {l : Launch} {e : Env} {R : Room} {s : State} {m : MethodId} {args : Array Value} {below : List Frame} {meth : Method} {c : Code} {H : Heap} {locs : List Loc} {cells slots : Nat} {Q : State → Prop}
variable {own : String} {cc : ByteArray} {nL : Nat} {D : va_G} {cy : Nat → ClassId} {A : Nat → Prop} {ad : gA} {L : gL} {σ σ0 : gS} {pc : Nat} {ls : Array Slot}
theorem g_eip {x r0 : Int32} (C : g_C own cc nL D cy A p m c s args) (G : g_H D cy A ad L σ s.heap H locs) (hr : meth.sig.returnType = some .int) (hlocks : meth.locks = false) (hf : some x = some r0) (hdg : decode cc pc = .ok (.ireturn, 1)) : W p l e R s m args below meth c H locs cells slots (MQ below (va_Qi (fun r (u : gS) => r = r0 ∧ u = σ) (g_Pre D cy A ad L) A) args s cells slots A) (F0 m pc ls [.int x]) := by
  cases hf; exact g_reti C G hr hlocks hdg
theorem g_eii {x r0 : Int32} (C : g_C own cc nL D cy A p m c s args) (G : g_H D cy A ad L σ s.heap H locs) (hr : meth.sig.returnType = some .int) (hlocks : meth.locks = false) (hf : some (x, σ) = some (r0, σ0)) (hdg : decode cc pc = .ok (.ireturn, 1)) : W p l e R s m args below meth c H locs cells slots (MQ below (va_Qi (fun r (u : gS) => r = r0 ∧ u = σ0) (g_Pre D cy A ad L) A) args s cells slots A) (F0 m pc ls [.int x]) := by
  cases hf; exact g_reti C G hr hlocks hdg
theorem g_ezp {x r0 : Int32} (C : g_C own cc nL D cy A p m c s args) (G : g_H D cy A ad L σ s.heap H locs) (hr : meth.sig.returnType = some .boolean) (hlocks : meth.locks = false) (hf : some x = some r0) (hz : narrow .boolean (.int x) = .int x) (hdg : decode cc pc = .ok (.ireturn, 1)) : W p l e R s m args below meth c H locs cells slots (MQ below (va_Qi (fun r (u : gS) => r = r0 ∧ u = σ) (g_Pre D cy A ad L) A) args s cells slots A) (F0 m pc ls [.int x]) := by
  cases hf; exact g_retz C G hr hlocks hz hdg
theorem g_ezi {x r0 : Int32} (C : g_C own cc nL D cy A p m c s args) (G : g_H D cy A ad L σ s.heap H locs) (hr : meth.sig.returnType = some .boolean) (hlocks : meth.locks = false) (hf : some (x, σ) = some (r0, σ0)) (hz : narrow .boolean (.int x) = .int x) (hdg : decode cc pc = .ok (.ireturn, 1)) : W p l e R s m args below meth c H locs cells slots (MQ below (va_Qi (fun r (u : gS) => r = r0 ∧ u = σ0) (g_Pre D cy A ad L) A) args s cells slots A) (F0 m pc ls [.int x]) := by
  cases hf; exact g_retz C G hr hlocks hz hdg
theorem g_elp {x r0 : Int64} (C : g_C own cc nL D cy A p m c s args) (G : g_H D cy A ad L σ s.heap H locs) (hr : meth.sig.returnType = some .long) (hlocks : meth.locks = false) (hf : some x = some r0) (hdg : decode cc pc = .ok (.lreturn, 1)) : W p l e R s m args below meth c H locs cells slots (MQ below (va_Ql (fun r (u : gS) => r = r0 ∧ u = σ) (g_Pre D cy A ad L) A) args s cells slots A) (F0 m pc ls [.long x]) := by
  cases hf; exact g_retl C G hr hlocks hdg
theorem g_eli {x r0 : Int64} (C : g_C own cc nL D cy A p m c s args) (G : g_H D cy A ad L σ s.heap H locs) (hr : meth.sig.returnType = some .long) (hlocks : meth.locks = false) (hf : some (x, σ) = some (r0, σ0)) (hdg : decode cc pc = .ok (.lreturn, 1)) : W p l e R s m args below meth c H locs cells slots (MQ below (va_Ql (fun r (u : gS) => r = r0 ∧ u = σ0) (g_Pre D cy A ad L) A) args s cells slots A) (F0 m pc ls [.long x]) := by
  cases hf; exact g_retl C G hr hlocks hdg
theorem g_evi (C : g_C own cc nL D cy A p m c s args) (G : g_H D cy A ad L σ s.heap H locs) (hr : meth.sig.returnType = none) (hlocks : meth.locks = false) (hf : some σ = some σ0) (hdg : decode cc pc = .ok (.return_, 1)) : W p l e R s m args below meth c H locs cells slots (MQ below (va_Qv (fun (u : gS) => u = σ0) (g_Pre D cy A ad L) A) args s cells slots A) (F0 m pc ls []) := by
  cases hf; exact g_retv C G hr hlocks hdg
end GE
def g_fuel : Nat := 1000000
def g_let {α β : Type} (x : β) (k : β → Option α) : Option α := k x
theorem g_lt {α β : Type} {x : β} {k : β → Option α} {r : α} (h : g_let x k = some r) : ∃ z, z = x ∧ k z = some r := ⟨x, rfl, h⟩
theorem g_swI {x k : Int32} {a : Int} (h : x = k) (hk : k.toInt = a) : x.toInt = a := by rw [h, hk]
abbrev g_Wi (p : Program) (l : Launch) (e : Env) (rm : Room) (s : State) (m : MethodId) (below : List Frame) (meth : Method) (c : Code) (H : Heap) (locs : List Loc) (cells slots : Nat) (D : va_G) (cy : Nat → ClassId) (A : Nat → Prop) (ad : gA) (L : gL) (As : List Value) (r0 : Int32) (σ0 : gS) (g : JFrame) : Prop := W p l e rm s m As.toArray below meth c H locs cells slots (MQ below (va_Qi (fun r (u : gS) => r = r0 ∧ u = σ0) (g_Pre D cy A ad L) A) As.toArray s 0 0 A) g
abbrev g_Wl (p : Program) (l : Launch) (e : Env) (rm : Room) (s : State) (m : MethodId) (below : List Frame) (meth : Method) (c : Code) (H : Heap) (locs : List Loc) (cells slots : Nat) (D : va_G) (cy : Nat → ClassId) (A : Nat → Prop) (ad : gA) (L : gL) (As : List Value) (r0 : Int64) (σ0 : gS) (g : JFrame) : Prop := W p l e rm s m As.toArray below meth c H locs cells slots (MQ below (va_Ql (fun r (u : gS) => r = r0 ∧ u = σ0) (g_Pre D cy A ad L) A) As.toArray s 0 0 A) g
abbrev g_Wv (p : Program) (l : Launch) (e : Env) (rm : Room) (s : State) (m : MethodId) (below : List Frame) (meth : Method) (c : Code) (H : Heap) (locs : List Loc) (cells slots : Nat) (D : va_G) (cy : Nat → ClassId) (A : Nat → Prop) (ad : gA) (L : gL) (As : List Value) (σ0 : gS) (g : JFrame) : Prop := W p l e rm s m As.toArray below meth c H locs cells slots (MQ below (va_Qv (fun (u : gS) => u = σ0) (g_Pre D cy A ad L) A) As.toArray s 0 0 A) g
theorem g_lawn {n : Nat} (h : n < 20) : (Int32.ofNat n).toNatClampNeg = n := nI_clamp (n := n) (by omega)
theorem g_lawv {ad : gA} {n : Nat} (h : n < 20) : Value.ref (ad 2 n) = va_rf (if Int32.ofNat n < 0 then none else some (ad 2 (Int32.ofNat n).toNatClampNeg)) := by
  rw [if_neg (show ¬ Int32.ofNat n < 0 from nI_pos (n := n) (by omega)), g_lawn h]
  rfl
