theorem g_vci {ad : gA} {k i j : Nat} {τ : Nat → Int32} {x : Int32} (h : g_tg k j = 0) : Value.int x = g_vc ad k i (upd τ j x) j := by
  unfold g_vc
  rw [if_pos h, pk_us]
theorem g_vcn {ad : gA} {k i j : Nat} {τ : Nat → Int32} (h : g_tg k j = 1) : Value.null = g_vc ad k i (upd τ j (-1)) j := by
  unfold g_vc
  rw [if_neg (by omega), if_pos h, pk_us, if_pos (by decide)]
  rfl
theorem g_vcr {ad : gA} {k i j K' : Nat} {τ : Nat → Int32} (h : g_tg k j = K' + 2) : Value.ref (ad K' i) = g_vc ad k i (upd τ j 0) j := by
  unfold g_vc
  rw [if_neg (by omega), if_neg (by omega), pk_us, if_neg (by decide), h, Nat.add_sub_cancel]
theorem g_vcgi {ad : gA} {k i j : Nat} {τ : Nat → Int32} (h : g_tg k j = 0) : g_vc ad k i τ j = Value.int (τ j) := by
  unfold g_vc
  rw [if_pos h]
theorem g_vcgr {ad : gA} {k i j K' : Nat} {τ : Nat → Int32} (h : g_tg k j = K' + 2) (hq : ¬ τ j < 0) : g_vc ad k i τ j = Value.ref (ad K' i) := by
  unfold g_vc
  rw [if_neg (by omega), if_neg (by omega), if_neg hq, h, Nat.add_sub_cancel]
def g_allset (k : Nat) (τ : Nat → Int32) : Bool := (List.range (g_n k)).all (fun j => decide (g_tg k j < 2) || !(decide (τ j < 0)))
theorem g_allset_ok {k : Nat} {τ : Nat → Int32} (h : g_allset k τ = true) : ∀ j, j < g_n k → 2 ≤ g_tg k j → ¬ τ j < 0 := by
  intro j hj h2 h3
  have := List.all_eq_true.mp h j (List.mem_range.mpr hj)
  simp [h3] at this
  omega
section GM2
variable {p : Program} {l : Launch} {e : Env} {R : Room} {s : State} {m : MethodId} {args : Array Value} {below : List Frame} {meth : Method} {c : Code} {H : Heap} {locs : List Loc} {cells slots : Nat} {Q : State → Prop}
variable {own : String} {cc : ByteArray} {nL : Nat} {D : va_G} {cy : Nat → ClassId} {A : Nat → Prop} {ad : gA} {L : gL} {σ : gS} {pc : Nat} {ls : Array Slot} {h : Nat}
theorem g_sz0 (G : g_H D cy A ad L σ s.heap H locs) (hs : s.heap.size = h) (hle : H.size ≤ s.heap.size + 0) : H.size = h + 0 := by
  have := G.2.2.1.1
  omega
theorem g_szk {k K i : Nat} (G : g_H D cy A ad L σ s.heap H locs) (hL : (K, i) ∈ L) (hs : s.heap.size = h) (had : ad K i = h + k) (hle : H.size ≤ s.heap.size + (k + 1)) : H.size = h + (k + 1) := by
  have := g_H.lt G hL
  omega
theorem g_convW {g : JFrame} {k i : Nat} {L1 L2 : gL} (G : g_H D cy A ad (L1 ++ (100 + k, i) :: L2) σ s.heap H locs) (hk : k < 10) (had : ad k i = ad (100 + k) i) (hfr : (k, i) ∉ L1 ++ (100 + k, i) :: L2) (hcv : ∀ j, j < g_n k → 2 ≤ g_tg k j → ¬ σ (100 + k) i j < 0) (hlaw : k = 7 → σ (100 + k) i 1 < 0) (hm : ∀ j, j < g_n k → 2 ≤ g_tg k j → (g_tg k j - 2, i) ∈ L1 ++ (k, i) :: L2)
    (kk : g_H D cy A ad (L1 ++ (k, i) :: L2) (g_row σ k i (σ (100 + k) i)) s.heap H locs → W p l e R s m args below meth c H locs cells slots Q g) : W p l e R s m args below meth c H locs cells slots Q g :=
  kk (g_conv G hk had hfr (fun j hj h2 => ⟨hcv j hj h2, hm j hj h2⟩) hlaw)
theorem g_eB {x r0 : Int32} {L0 : gL} {σ0 : gS} (C : g_C own cc nL D cy A p m c s args) (G : g_H D cy A ad L σ s.heap H locs) (hr : meth.sig.returnType = some .int) (hlocks : meth.locks = false) (hf : some (x, L, σ) = some (r0, L0, σ0)) (hdg : decode cc pc = .ok (.ireturn, 1)) : W p l e R s m args below meth c H locs cells slots (MQ below (va_Qi (fun r (u : gL × gS) => r = r0 ∧ u = (L0, σ0)) (fun u => g_Pre D cy A ad u.1 u.2) A) args s cells slots A) (F0 m pc ls [.int x]) := by
  cases hf
  exact W.iret C.x C.b hr (fun t ht hW => ⟨⟨x, (L, σ), rfl, ⟨rfl, rfl⟩, g_pre C G t ht hW⟩, G.2.2.1.F ht⟩) G.2.2.1.2.2 hdg hlocks
end GM2
abbrev g_MB (l : Launch) (y : MethodName) (cc : ByteArray) (maxL : Nat) (rm : Room) (D : va_G) (cy : Nat → ClassId) (A : Nat → Prop) (ad : gA) (L : gL) (σ : gS) (h : Nat) (As : List Value) (r0 : Int32) (L0 : gL) (σ0 : gS) (mc ms : Nat) : Prop := Met l y (Cond.code y cc maxL (some .int) :: lw_good) rm (va_Pc As (g_PreH D cy A ad L σ h)) (va_Qi (fun r (u : gL × gS) => r = r0 ∧ u = (L0, σ0)) (fun u => g_Pre D cy A ad u.1 u.2) A) mc ms A
abbrev g_WB (p : Program) (l : Launch) (e : Env) (rm : Room) (s : State) (m : MethodId) (below : List Frame) (meth : Method) (c : Code) (H : Heap) (locs : List Loc) (cells slots : Nat) (D : va_G) (cy : Nat → ClassId) (A : Nat → Prop) (ad : gA) (As : List Value) (r0 : Int32) (L0 : gL) (σ0 : gS) (mc ms : Nat) (g : JFrame) : Prop := W p l e rm s m As.toArray below meth c H locs cells slots (MQ below (va_Qi (fun r (u : gL × gS) => r = r0 ∧ u = (L0, σ0)) (fun u => g_Pre D cy A ad u.1 u.2) A) As.toArray s mc ms A) g
theorem gz_X0 (ad : gA) (i : Nat) : ∀ j, j < 11 → defaultValue (tyX0 j) = vp_V ((List.range (g_n 0)).map (g_vc ad 0 i (g_z 0))) j := by
  intro j hj
  rcases (show j = 0 ∨ j = 1 ∨ j = 2 ∨ j = 3 ∨ j = 4 ∨ j = 5 ∨ j = 6 ∨ j = 7 ∨ j = 8 ∨ j = 9 ∨ j = 10 by omega) with rfl | rfl | rfl | rfl | rfl | rfl | rfl | rfl | rfl | rfl | rfl <;> rfl
theorem gz_X1 (ad : gA) (i : Nat) : ∀ j, j < 15 → defaultValue (tyX1 j) = vp_V ((List.range (g_n 1)).map (g_vc ad 1 i (g_z 1))) j := by
  intro j hj
  rcases (show j = 0 ∨ j = 1 ∨ j = 2 ∨ j = 3 ∨ j = 4 ∨ j = 5 ∨ j = 6 ∨ j = 7 ∨ j = 8 ∨ j = 9 ∨ j = 10 ∨ j = 11 ∨ j = 12 ∨ j = 13 ∨ j = 14 by omega) with rfl | rfl | rfl | rfl | rfl | rfl | rfl | rfl | rfl | rfl | rfl | rfl | rfl | rfl | rfl <;> rfl
theorem gz_X2 (ad : gA) (i : Nat) : ∀ j, j < 6 → defaultValue (tyX2 j) = vp_V ((List.range (g_n 2)).map (g_vc ad 2 i (g_z 2))) j := by
  intro j hj
  rcases (show j = 0 ∨ j = 1 ∨ j = 2 ∨ j = 3 ∨ j = 4 ∨ j = 5 by omega) with rfl | rfl | rfl | rfl | rfl | rfl <;> rfl
theorem gz_X3 (ad : gA) (i : Nat) : ∀ j, j < 3 → defaultValue (tyX3 j) = vp_V ((List.range (g_n 3)).map (g_vc ad 3 i (g_z 3))) j := by
  intro j hj
  rcases (show j = 0 ∨ j = 1 ∨ j = 2 by omega) with rfl | rfl | rfl <;> rfl
theorem gz_X4 (ad : gA) (i : Nat) : ∀ j, j < 4 → defaultValue (tyX4 j) = vp_V ((List.range (g_n 4)).map (g_vc ad 4 i (g_z 4))) j := by
  intro j hj
  rcases (show j = 0 ∨ j = 1 ∨ j = 2 ∨ j = 3 by omega) with rfl | rfl | rfl | rfl <;> rfl
theorem gz_X5 (ad : gA) (i : Nat) : ∀ j, j < 9 → defaultValue (tyX5 j) = vp_V ((List.range (g_n 5)).map (g_vc ad 5 i (g_z 5))) j := by
  intro j hj
  rcases (show j = 0 ∨ j = 1 ∨ j = 2 ∨ j = 3 ∨ j = 4 ∨ j = 5 ∨ j = 6 ∨ j = 7 ∨ j = 8 by omega) with rfl | rfl | rfl | rfl | rfl | rfl | rfl | rfl | rfl <;> rfl
theorem gz_X6 (ad : gA) (i : Nat) : ∀ j, j < 9 → defaultValue (tyX6 j) = vp_V ((List.range (g_n 6)).map (g_vc ad 6 i (g_z 6))) j := by
  intro j hj
  rcases (show j = 0 ∨ j = 1 ∨ j = 2 ∨ j = 3 ∨ j = 4 ∨ j = 5 ∨ j = 6 ∨ j = 7 ∨ j = 8 by omega) with rfl | rfl | rfl | rfl | rfl | rfl | rfl | rfl | rfl <;> rfl
theorem gz_X7 (ad : gA) (i : Nat) : ∀ j, j < 5 → defaultValue (tyX7 j) = vp_V ((List.range (g_n 7)).map (g_vc ad 7 i (g_z 7))) j := by
  intro j hj
  rcases (show j = 0 ∨ j = 1 ∨ j = 2 ∨ j = 3 ∨ j = 4 by omega) with rfl | rfl | rfl | rfl | rfl <;> rfl
theorem gz_X8 (ad : gA) (i : Nat) : ∀ j, j < 5 → defaultValue (tyX8 j) = vp_V ((List.range (g_n 8)).map (g_vc ad 8 i (g_z 8))) j := by
  intro j hj
  rcases (show j = 0 ∨ j = 1 ∨ j = 2 ∨ j = 3 ∨ j = 4 by omega) with rfl | rfl | rfl | rfl | rfl <;> rfl
theorem gz_X9 (ad : gA) (i : Nat) : ∀ j, j < 45 → defaultValue (tyX9 j) = vp_V ((List.range (g_n 9)).map (g_vc ad 9 i (g_z 9))) j := by
  intro j hj
  rcases (show j = 0 ∨ j = 1 ∨ j = 2 ∨ j = 3 ∨ j = 4 ∨ j = 5 ∨ j = 6 ∨ j = 7 ∨ j = 8 ∨ j = 9 ∨ j = 10 ∨ j = 11 ∨ j = 12 ∨ j = 13 ∨ j = 14 ∨ j = 15 ∨ j = 16 ∨ j = 17 ∨ j = 18 ∨ j = 19 ∨ j = 20 ∨ j = 21 ∨ j = 22 ∨ j = 23 ∨ j = 24 ∨ j = 25 ∨ j = 26 ∨ j = 27 ∨ j = 28 ∨ j = 29 ∨ j = 30 ∨ j = 31 ∨ j = 32 ∨ j = 33 ∨ j = 34 ∨ j = 35 ∨ j = 36 ∨ j = 37 ∨ j = 38 ∨ j = 39 ∨ j = 40 ∨ j = 41 ∨ j = 42 ∨ j = 43 ∨ j = 44 by omega) with rfl | rfl | rfl | rfl | rfl | rfl | rfl | rfl | rfl | rfl | rfl | rfl | rfl | rfl | rfl | rfl | rfl | rfl | rfl | rfl | rfl | rfl | rfl | rfl | rfl | rfl | rfl | rfl | rfl | rfl | rfl | rfl | rfl | rfl | rfl | rfl | rfl | rfl | rfl | rfl | rfl | rfl | rfl | rfl | rfl <;> rfl
