def g_row (σ : gS) (K i : Nat) (τ : Nat → Int32) : gS := fun K' i' j' => if K' = K ∧ i' = i then τ j' else σ K' i' j'
theorem g_row_row (σ : gS) (K i : Nat) (τ : Nat → Int32) : g_row σ K i τ K i = τ := by
  funext q
  simp [g_row]
theorem g_row_else {σ : gS} {K i : Nat} {τ : Nat → Int32} : ∀ K' i', ¬ (K' = K ∧ i' = i) → g_row σ K i τ K' i' = σ K' i' := by
  intro K' i' h
  funext q
  simp only [g_row]
  exact if_neg h
theorem tw816 : (Jvm.Cond.native ({ cls := "java/lang/System", name := "arraycopy", desc := "(Ljava/lang/Object;ILjava/lang/Object;II)V" } : Jvm.MethodName)) ∈ lw_good := g_tw 816 (by decide +kernel) (by decide +kernel)
section GCP
variable {p : Program} {l : Launch} {e : Env} {R : Room} {s : State} {m : MethodId} {args : Array Value} {below : List Frame} {meth : Method} {c : Code} {H : Heap} {locs : List Loc} {cells slots : Nat} {Q : State → Prop}
variable {own : String} {cc : ByteArray} {nL : Nat} {D : va_G} {cy : Nat → ClassId} {A : Nat → Prop} {ad : gA} {L : gL} {σ : gS} {pc : Nat} {ls : Array Slot}
theorem g_Cl.row {K i : Nat} {τ : Nat → Int32} (h : g_Cl L σ) (hK : 10 ≤ K) (ht : g_ty K < 3) : g_Cl L (g_row σ K i τ) := by
  refine ⟨h.1, fun K' i' j' h1 h2 h3 h4 => ?_, fun i' h1 h2 => ?_⟩
  · rw [g_row_else K' i' (by rintro ⟨rfl, -⟩; omega)] at h4
    exact h.2.1 K' i' j' h1 h2 h3 h4
  · rw [g_row_else 7 i' (by omega)] at h2 ⊢
    exact h.2.2 i' h1 h2
theorem g_cpyi (C : g_C own cc nL D cy A p m c s args) (G : g_H D cy A ad L σ s.heap H locs) (K i0 i1 : Nat) (hL0 : (K, i0) ∈ L) (hL1 : (K, i1) ∈ L) {n0 index : Nat} (hK9 : 10 ≤ K ∧ g_ty K = 1) (hn0 : g_len ad K i0 = n0) (hn1 : g_len ad K i1 = n0) (hls : ls.size = nL) (hlink : Cond.methodLink own index arraycopyName ∈ lw_good) (hnat : Cond.native arraycopyName ∈ lw_good) (hstat : Cond.static arraycopyName ∈ lw_good) (hini : Cond.initialized "java/lang/System" ∈ lw_good) {sp dp n : Int32} (h : ¬ sp < 0 ∧ ¬ dp < 0 ∧ ¬ n < 0 ∧ sp.toNatClampNeg + n.toNatClampNeg ≤ n0 ∧ dp.toNatClampNeg + n.toNatClampNeg ≤ n0) (hfr : 1 ≤ R.frames) (hlo : nativeFrameWords "java/lang/System" "arraycopy" 5 + 11 ≤ R.locals) (hdg : decode cc pc = .ok (.invokestatic index, 3))
    (kk : ∀ (H : Heap) (locs : List Loc), g_H D cy A ad L (g_row σ K i1 (va_cpy (σ K i0) (σ K i1) sp.toNatClampNeg dp.toNatClampNeg n.toNatClampNeg)) s.heap H locs → W p l e R s m args below meth c H locs cells slots Q (F0 m (pc + 3) ls [])) : W p l e R s m args below meth c H locs cells slots Q (F0 m pc ls [.int n, .int dp, .ref (ad K i1), .int sp, .ref (ad K i0)]) := by
  obtain ⟨⟨hx, hb, hml, hown, hts⟩, ⟨hK, hN⟩, hA⟩ := C
  obtain ⟨hP, hD, hS, hCl⟩ := G
  obtain ⟨k0, hk0, hw0⟩ := g_ws_at (cy := cy) (ad := ad) (σ := σ) hL0
  obtain ⟨k1, hk1, hw1⟩ := g_ws_at (cy := cy) (ad := ad) (σ := σ) hL1
  rw [g_ct, if_neg (by omega), hK9.2, if_pos (by decide), hn0] at hw0
  rw [g_ct, if_neg (by omega), hK9.2, if_pos (by decide), hn1] at hw1
  refine va_copyi (rest := []) hx hb (hml.trans hls.symm) hown (hts _ hlink) (hts _ hnat) (hts _ hstat) (hts _ hini) hK hP hD hS k0 k1 1 1 hw0 hw1 rfl rfl rfl h.1 h.2.1 h.2.2.1 h.2.2.2.1 h.2.2.2.2 (fun _ _ => rfl) hfr (by simpa using hlo) hdg fun H1 locs1 hP1 hD1 hS1 => ?_
  have e : ∀ τ, (g_ws cy ad L σ).set k1 (ad K i1, .inl (cy 1, n0, .inl τ)) = g_ws cy ad L (g_row σ K i1 τ) := fun τ => g_ws_set hD hk1 (by rw [g_ct, if_neg (by omega), hK9.2, if_pos (by decide), hn1, g_row_row]) g_row_else
  rw [e] at hP1 hD1
  exact kk H1 locs1 ⟨hP1, hD1, hS1, hCl.row hK9.1 (by omega)⟩
theorem g_cpyb (C : g_C own cc nL D cy A p m c s args) (G : g_H D cy A ad L σ s.heap H locs) (K i0 i1 : Nat) (hL0 : (K, i0) ∈ L) (hL1 : (K, i1) ∈ L) {n0 index : Nat} (hK9 : 10 ≤ K ∧ g_ty K = 0) (hn0 : g_len ad K i0 = n0) (hn1 : g_len ad K i1 = n0) (hls : ls.size = nL) (hlink : Cond.methodLink own index arraycopyName ∈ lw_good) (hnat : Cond.native arraycopyName ∈ lw_good) (hstat : Cond.static arraycopyName ∈ lw_good) (hini : Cond.initialized "java/lang/System" ∈ lw_good) {sp dp n : Int32} (h : ¬ sp < 0 ∧ ¬ dp < 0 ∧ ¬ n < 0 ∧ sp.toNatClampNeg + n.toNatClampNeg ≤ n0 ∧ dp.toNatClampNeg + n.toNatClampNeg ≤ n0 ∧ (∀ i, i < n.toNatClampNeg → fits .byte (.int (σ K i0 (sp.toNatClampNeg + i))) = true)) (hfr : 1 ≤ R.frames) (hlo : nativeFrameWords "java/lang/System" "arraycopy" 5 + 11 ≤ R.locals) (hdg : decode cc pc = .ok (.invokestatic index, 3))
    (kk : ∀ (H : Heap) (locs : List Loc), g_H D cy A ad L (g_row σ K i1 (va_cpy (σ K i0) (σ K i1) sp.toNatClampNeg dp.toNatClampNeg n.toNatClampNeg)) s.heap H locs → W p l e R s m args below meth c H locs cells slots Q (F0 m (pc + 3) ls [])) : W p l e R s m args below meth c H locs cells slots Q (F0 m pc ls [.int n, .int dp, .ref (ad K i1), .int sp, .ref (ad K i0)]) := by
  obtain ⟨⟨hx, hb, hml, hown, hts⟩, ⟨hK, hN⟩, hA⟩ := C
  obtain ⟨hP, hD, hS, hCl⟩ := G
  obtain ⟨k0, hk0, hw0⟩ := g_ws_at (cy := cy) (ad := ad) (σ := σ) hL0
  obtain ⟨k1, hk1, hw1⟩ := g_ws_at (cy := cy) (ad := ad) (σ := σ) hL1
  rw [g_ct, if_neg (by omega), hK9.2, if_pos (by decide), hn0] at hw0
  rw [g_ct, if_neg (by omega), hK9.2, if_pos (by decide), hn1] at hw1
  refine va_copyi (rest := []) hx hb (hml.trans hls.symm) hown (hts _ hlink) (hts _ hnat) (hts _ hstat) (hts _ hini) hK hP hD hS k0 k1 0 0 hw0 hw1 rfl rfl rfl h.1 h.2.1 h.2.2.1 h.2.2.2.1 h.2.2.2.2.1 h.2.2.2.2.2 hfr (by simpa using hlo) hdg fun H1 locs1 hP1 hD1 hS1 => ?_
  have e : ∀ τ, (g_ws cy ad L σ).set k1 (ad K i1, .inl (cy 0, n0, .inl τ)) = g_ws cy ad L (g_row σ K i1 τ) := fun τ => g_ws_set hD hk1 (by rw [g_ct, if_neg (by omega), hK9.2, if_pos (by decide), hn1, g_row_row]) g_row_else
  rw [e] at hP1 hD1
  exact kk H1 locs1 ⟨hP1, hD1, hS1, hCl.row hK9.1 (by omega)⟩
end GCP
def g_rp (d : Nat) : Room := { frames := 3 * d + 3, cells := 0, slots := 0, locals := 100 * d + 100 }
def g_rt (d : Nat) : Room := { frames := 3 * d + 4, cells := 0, slots := 0, locals := 100 * d + 150 }
