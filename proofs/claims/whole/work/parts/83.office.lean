/-! PURE: an office comes -/
def adN (ad : gA) (n h len : Nat) (K1 K2 K3 : Nat) : gA := fun K i => if i = n then (if K = K1 then h else if K = K2 then h else if K = K3 then h + 1 else if K = 33 ∧ K3 = 23 then len else ad K i) else ad K i
theorem gJ_ad {nO nP nL : Nat} {S : Nat → Nat} {L : gL} {ad ad' : gA} {σ : gS} (h : ∀ o, o < nO → ad' 33 o = ad 33 o) (hJ : gJ nO nP nL S L ad σ) : gJ nO nP nL S L ad' σ := by
  obtain ⟨h1, h2, h3, h4⟩ := hJ
  refine ⟨h1, h2, fun o ho => ?_, h4⟩
  rw [h o ho]
  exact h3 o ho
theorem as3 {τ : Nat → Int32} (h : ¬ τ 2 < 0) : g_allset 3 τ = true := by
  simp [g_allset, g_n, g_tgs, g_tg, List.range, List.range.loop, h]
theorem as5 {τ : Nat → Int32} (h : ¬ τ 2 < 0) : g_allset 5 τ = true := by
  simp [g_allset, g_n, g_tgs, g_tg, List.range, List.range.loop, h]
theorem as2 {τ : Nat → Int32} : g_allset 2 τ = true := by
  simp [g_allset, g_n, g_tgs, g_tg, List.range, List.range.loop]
def xo5 (σ : gS) (n s : Nat) (a2 : Int32) : gS := g_row (g_up (g_row (g_up (g_up (g_row σ 103 n (g_z 3)) 103 n 0 (nI s)) 103 n 1 a2) 23 n (fun _ => 0)) 103 n 2 0) 23 n (fun j => if j < 200 * s then -1 else 0)
def xo7 (σ : gS) (n s : Nat) (a2 : Int32) : gS := g_up (g_up (g_row (xo5 σ n s a2) 3 n (xo5 σ n s a2 103 n)) 25 0 n 0) 6 0 3 (nI (n + 1))
theorem x_initO {ad : gA} {σ : gS} {n s : Nat} {a2 : Int32} (hs : s ≤ 3) (hb : g_bo a2) (had : ad 33 n = 200 * s) : f_X3_init ad (g_row σ 103 n (g_z 3)) n (nI s) a2 = some (xo5 σ n s a2) := by
  unfold f_X3_init
  simp only [g_let, if_pos hb, z_200, pk_mul]
  rw [if_pos ⟨nI_pos (by omega), by rw [z_clamp (by omega), had], by rw [z_clamp (by omega)]; omega⟩, up_s, i0l, had, x_fillB (by omega), z_b1]
  show some _ = some _
  unfold xo5
  congr 1
  apply congrArg
  funext j
  by_cases c : j < 200 * s
  · rw [if_pos c, if_pos c]
  · rw [if_neg c, if_neg c]
    show g_row _ 23 n (fun _ => 0) 23 n j = 0
    rw [row_s]
theorem J_office {nO nP nL : Nat} {S : Nat → Nat} {L : gL} {ad : gA} {σ : gS} (hJ : gJ nO nP nL S L ad σ) {s : Nat} {a2 : Int32} (h8O : nO < 8) (hs1 : 1 ≤ s) (hs3 : s ≤ 3) (hb : g_bo a2) (e33 : ad 33 nO = 200 * s) : gJ (nO + 1) nP nL (fun o => if o = nO then s else S o) (L ++ [(3, nO), (23, nO)]) ad (g_up (g_up (g_up (xo7 σ nO s a2) 44 0 nO (nI s)) 45 0 nO a2) 9 0 1 (nI (nO + 1))) := by
  obtain ⟨h1, h2, h3, h4, h5, h6, h7, h8, h9, h10, h11, h12, h13, h14, h15⟩ := id hJ
  obtain ⟨⟨hO, hP, hL⟩, ⟨m1, m2, m3⟩, ⟨x1, x2, x3⟩⟩ := id h1
  have hemp : ∀ y t, y < 200 → t < 3 → σ 58 0 (ixl nO y t) = -1 ∧ σ 59 0 (ixl nO y t) = 0 := by
    intro y t hy ht
    rcases h8 nO y t h8O hy ht with e | ⟨e, -⟩
    · exact e
    · omega
  refine ⟨?_, ?_, ?_, K_per rfl rfl rfl rfl rfl rfl rfl rfl h4, K_kin (σ := σ) (fun q => rfl) rfl h5, ?_, K_lawX rfl rfl rfl rfl rfl rfl h7, ?_, ?_, ?_, K_post rfl rfl rfl h11, K_num rfl rfl rfl rfl h12, K_el rfl rfl rfl rfl rfl rfl rfl h13, K_sh rfl rfl rfl rfl rfl rfl rfl h14, ?_⟩
  · exact ⟨⟨by omega, hP, hL⟩, ⟨rfl, m2, m3⟩, ⟨rfl, x2, x3⟩⟩
  · refine ⟨fun j hj => ?_, h2.2.1, h2.2.2.1, h2.2.2.2⟩
    show g_up (g_row (xo5 σ nO s a2) 3 nO (xo5 σ nO s a2 103 nO)) 25 0 nO 0 25 0 j = 0
    by_cases e : j = nO
    · rw [e, up_s]
    · rw [up_j e]
      exact h2.1 j (by omega)
  · intro o ho
    show (1 ≤ (if o = nO then s else S o) ∧ (if o = nO then s else S o) ≤ 3) ∧ g_up (xo7 σ nO s a2) 44 0 nO (nI s) 44 0 o = nI (if o = nO then s else S o) ∧ g_bo (g_up (g_up (xo7 σ nO s a2) 44 0 nO (nI s)) 45 0 nO a2 45 0 o) ∧ g_row (xo5 σ nO s a2) 3 nO (xo5 σ nO s a2 103 nO) 3 o 0 = nI (if o = nO then s else S o) ∧ g_row (xo5 σ nO s a2) 3 nO (xo5 σ nO s a2 103 nO) 3 o 1 = g_up (g_up (xo7 σ nO s a2) 44 0 nO (nI s)) 45 0 nO a2 45 0 o ∧ ad 33 o = 200 * (if o = nO then s else S o)
    by_cases e : o = nO
    · subst e
      rw [if_pos rfl, up_s, up_s, row_s]
      refine ⟨⟨hs1, hs3⟩, rfl, hb, ?_, ?_, e33⟩
      · simp [xo5, g_up, g_row]
      · simp [xo5, g_up, g_row]
    · rw [if_neg e, up_j e, up_j e, row_i e]
      exact h3 o (by omega)
  · intro l hl
    obtain ⟨k, n, f, hk, e53, e54, r⟩ := h6 l hl
    refine ⟨k, n, f, hk, e53, ?_, r⟩
    rcases e54 with e | ⟨o, ho, e⟩
    · exact Or.inl e
    · exact Or.inr ⟨o, by omega, e⟩
  · intro o y t ho hy ht
    rcases h8 o y t ho hy ht with e | ⟨b1, b2, b3⟩
    · exact Or.inl e
    · refine Or.inr ⟨by omega, ?_, b3⟩
      show t < if o = nO then s else S o
      rw [if_neg (by omega)]; exact b2
  · intro p y hp hy
    rcases h9 p y hp hy with e | ⟨b1, o, t, ho, ht, b3⟩
    · exact Or.inl e
    · refine Or.inr ⟨b1, o, t, by omega, ?_, b3⟩
      show t < if o = nO then s else S o
      rw [if_neg (by omega)]; exact ht
  · intro o y t ho hy ht
    have ht : t < if o = nO then s else S o := ht
    show xo5 σ nO s a2 23 o (y * (if o = nO then s else S o) + t) = xcode (σ 58 0 (ixl o y t)) (σ 59 0 (ixl o y t))
    by_cases e : o = nO
    · subst e
      rw [if_pos rfl] at ht ⊢
      rw [(hemp y t hy (by omega)).1]
      unfold xo5
      rw [row_s, if_pos (cd_lt hy ht)]
      rfl
    · rw [if_neg e] at ht ⊢
      unfold xo5
      rw [row_i e]
      show g_row (g_up (g_up (g_row σ 103 nO (g_z 3)) 103 nO 0 (nI s)) 103 nO 1 a2) 23 nO (fun _ => 0) 23 o (y * S o + t) = _
      rw [row_i e]
      exact h10 o y t (by omega) hy ht
  · obtain ⟨⟨l8, l9⟩, lO, lP, lL, lT⟩ := id h15
    refine ⟨⟨List.mem_append_left _ l8, List.mem_append_left _ l9⟩, ?_, ?_, ?_, ?_⟩
    · intro i hi
      have : ((3, i) ∈ L ∨ (23, i) ∈ L ∨ (103, i) ∈ L) ∨ i = nO := by
        simp only [List.mem_append, List.mem_cons, Prod.mk.injEq, List.not_mem_nil, or_false] at hi
        rcases hi with (hi | hi) | (hi | hi) | (hi | hi)
        · exact Or.inl (Or.inl hi)
        · exact Or.inr (by omega)
        · exact Or.inl (Or.inr (Or.inl hi))
        · exact Or.inr (by omega)
        · exact Or.inl (Or.inr (Or.inr hi))
        · omega
      rcases this with e | e
      · have := lO i e; omega
      · omega
    · intro i hi
      refine lP i ?_
      simp only [List.mem_append, List.mem_cons, Prod.mk.injEq, List.not_mem_nil, or_false] at hi
      rcases hi with (hi | hi) | (hi | hi) | (hi | hi)
      · exact Or.inl hi
      · omega
      · exact Or.inr (Or.inl hi)
      · omega
      · exact Or.inr (Or.inr hi)
      · omega
    · intro i hi
      refine lL i ?_
      simp only [List.mem_append, List.mem_cons, Prod.mk.injEq, List.not_mem_nil, or_false] at hi
      rcases hi with (hi | hi) | (hi | hi)
      · exact Or.inl hi
      · omega
      · exact Or.inr hi
      · omega
    · intro K i hi
      simp only [List.mem_append, List.mem_cons, Prod.mk.injEq, List.not_mem_nil, or_false] at hi
      rcases hi with hi | hi | hi
      · exact lT K i hi
      · exact Or.inl (by omega)
      · rw [hi.1]; exact Or.inr (by decide)
theorem ok_office : sim_office gI := by
  intro L ad σ h ⟨nO, nP, nL, S, hJ⟩ a1 a2 hb2
  obtain ⟨h1, h2, h3, h4, h5, h6, h7, h8, h9, h10, h11, h12, h13, h14, h15⟩ := id hJ
  obtain ⟨⟨hO, hP, hL⟩, ⟨m1, m2, m3⟩, ⟨x1, x2, x3⟩⟩ := id h1
  obtain ⟨⟨l8, l9⟩, lO, lP, lL, lT⟩ := id h15
  have n103 : (103, nO) ∉ L := fun hh => absurd (lO nO (Or.inr (Or.inr hh))) (by omega)
  have n23 : (23, nO) ∉ L := fun hh => absurd (lO nO (Or.inr (Or.inl hh))) (by omega)
  have n3 : (3, nO) ∉ L := fun hh => absurd (lO nO (Or.inl hh)) (by omega)
  have n33 : ∀ i, (33, i) ∉ L := fun i hh => by
    rcases lT 33 i hh with e | e
    · omega
    · exact absurd e (by decide)
  have a0 : ∀ K i, (K, i) ∈ L → adN ad nO h (200 * a1.toNatClampNeg) 103 3 23 K i = ad K i := by
    intro K i hm
    unfold adN
    by_cases e : i = nO
    · subst e
      rw [if_pos rfl, if_neg (show ¬ K = 103 from fun e => n103 (e ▸ hm)), if_neg (show ¬ K = 3 from fun e => n3 (e ▸ hm)), if_neg (show ¬ K = 23 from fun e => n23 (e ▸ hm)), if_neg (show ¬ (K = 33 ∧ 23 = 23) from fun e => n33 _ (e.1 ▸ hm))]
    · rw [if_neg e]
  have a33 : ∀ i, i ≠ nO → adN ad nO h (200 * a1.toNatClampNeg) 103 3 23 33 i = ad 33 i := fun i hi => if_neg hi
  refine ⟨adN ad nO h (200 * a1.toNatClampNeg) 103 3 23, nO, ?_⟩
  have hlive : (∀ i, (23, i) ∈ L → adN ad nO h (200 * a1.toNatClampNeg) 103 3 23 33 i = ad 33 i) := fun i hi => a33 i (fun e => n23 (e ▸ hi))
  have hfr : (adN ad nO h (200 * a1.toNatClampNeg) 103 3 23 103 nO = h + 0 ∧ adN ad nO h (200 * a1.toNatClampNeg) 103 3 23 23 nO = h + 1 ∧ (103, nO) ∉ L ∧ (23, nO) ∉ L ∧ (3, nO) ∉ L ∧ adN ad nO h (200 * a1.toNatClampNeg) 103 3 23 3 nO = adN ad nO h (200 * a1.toNatClampNeg) 103 3 23 103 nO) := by
    refine ⟨?_, ?_, n103, n23, n3, ?_⟩ <;> simp [adN]
  have hJ' : gJ nO nP nL S L (adN ad nO h (200 * a1.toNatClampNeg) 103 3 23) σ := gJ_ad (fun o ho => a33 o (by omega)) hJ
  have no : ∀ r, f_X8_office (adN ad nO h (200 * a1.toNatClampNeg) 103 3 23) σ a1 a2 L nO = some (r, L, σ) → f_X9_office (adN ad nO h (200 * a1.toNatClampNeg) 103 3 23) σ a1 a2 = some (r, σ) → ∃ (r : Int32) (L1 : gL) (σ1 σ2 : gS), (∀ K i, (K, i) ∈ L → adN ad nO h (200 * a1.toNatClampNeg) 103 3 23 K i = ad K i) ∧ (∀ i, (23, i) ∈ L → adN ad nO h (200 * a1.toNatClampNeg) 103 3 23 33 i = ad 33 i) ∧ (adN ad nO h (200 * a1.toNatClampNeg) 103 3 23 103 nO = h + 0 ∧ adN ad nO h (200 * a1.toNatClampNeg) 103 3 23 23 nO = h + 1 ∧ (103, nO) ∉ L ∧ (23, nO) ∉ L ∧ (3, nO) ∉ L ∧ adN ad nO h (200 * a1.toNatClampNeg) 103 3 23 3 nO = adN ad nO h (200 * a1.toNatClampNeg) 103 3 23 103 nO) ∧ f_X8_office (adN ad nO h (200 * a1.toNatClampNeg) 103 3 23) σ a1 a2 L nO = some (r, L1, σ1) ∧ f_X9_office (adN ad nO h (200 * a1.toNatClampNeg) 103 3 23) σ1 a1 a2 = some (r, σ2) ∧ gI L1 (adN ad nO h (200 * a1.toNatClampNeg) 103 3 23) σ2 :=
    fun r e1 e2 => ⟨r, L, σ, σ, a0, hlive, hfr, e1, e2, nO, nP, nL, S, hJ'⟩
  have low : a1 < 1 → _ := fun c => no (-1) (by unfold f_X8_office; rw [if_pos c]) (by unfold f_X9_office f_X9_in; rw [if_pos c, Option.bind_some, i00])
  have high : ¬ a1 < 1 → 3 < a1 → _ := fun c0 c => no (-1) (by unfold f_X8_office; rw [if_neg c0, if_neg (z_not_le.mpr c)]) (by unfold f_X9_office f_X9_in; rw [if_neg c0, if_pos c, Option.bind_some, i00])
  by_cases c0 : a1 < 1
  · exact low c0
  by_cases c3 : 3 < a1
  · exact high c0 c3
  have hs : ∃ s, 1 ≤ s ∧ s ≤ 3 ∧ a1 = nI s := by
    rcases z_cases a1 (n := 4) (by omega) with (e | e) | ⟨j, hj, e⟩
    · exact absurd (Int32.lt_trans e (by decide)) c0
    · exact absurd (Int32.lt_of_lt_of_le (by decide : (3 : Int32) < nI 4) e) c3
    · refine ⟨j, ?_, by omega, e⟩
      rcases Nat.eq_zero_or_pos j with e' | e'
      · rw [e, e'] at c0
        exact absurd (by decide) c0
      · exact e'
  obtain ⟨s, hs1, hs3, rfl⟩ := hs
  by_cases c8 : nO = 8
  · refine no (-2) ?_ ?_
    · unfold f_X8_office
      rw [if_neg c0, if_pos (z_not_lt.mp c3), x1, if_neg (by rw [c8]; decide)]
    · unfold f_X9_office f_X9_in
      rw [if_neg c0, if_neg c3, Option.bind_some, m1, c8]
      rfl
  have po := (z_ix (n := 8) (show nO < 2147483648 by omega)).mpr (by omega)
  have e33 : adN ad nO h (200 * (nI s).toNatClampNeg) 103 3 23 33 nO = 200 * s := by
    rw [z_clamp (by omega)]
    simp [adN]
  refine ⟨nI nO, L ++ [(3, nO), (23, nO)], xo7 σ nO s a2, g_up (g_up (g_up (xo7 σ nO s a2) 44 0 nO (nI s)) 45 0 nO a2) 9 0 1 (nI (nO + 1)), a0, hlive, hfr, ?_, ?_, nO + 1, nP, nL, (fun o => if o = nO then s else S o), ?_⟩
  · have hx5 : ¬ xo5 σ nO s a2 103 nO 2 < 0 := by
      rw [show xo5 σ nO s a2 103 nO 2 = 0 by simp [xo5, g_up, g_row]]
      decide
    unfold f_X8_office
    rw [if_neg c0, if_pos (z_not_lt.mp c3), x1, if_pos (show nI nO < (8 : Int32) from nI_lt (b := 8) (by omega) (by omega)), g_let_eq, x_initO hs3 hb2 e33, Option.bind_some, if_pos (as3 hx5), g_let_eq]
    unfold f_X6_addOffice
    rw [show g_row (xo5 σ nO s a2) 3 nO (xo5 σ nO s a2 103 nO) 6 0 3 = nI nO from x1, if_pos po, if_pos (z_clamp (by omega)), g_let_eq, g_let_eq, Option.bind_some]
    rw [show g_up (g_row (xo5 σ nO s a2) 3 nO (xo5 σ nO s a2 103 nO)) 25 0 nO 0 6 0 3 = nI nO from x1, up_s, nI_1, nI_pred]
    rfl
  · unfold f_X9_office f_X9_in
    rw [if_neg c0, if_neg c3, Option.bind_some, i10, show xo7 σ nO s a2 9 0 1 = nI nO from m1, if_neg (show ¬ nI nO = 8 from fun e => by have := (z_eq (by omega) (by omega)).mp (show nI nO = nI 8 from e); omega), if_pos po, z_clamp (by omega)]
    simp only [g_let]
    rw [show g_up (xo7 σ nO s a2) 44 0 nO (nI s) 9 0 1 = nI nO from m1, if_pos po, z_clamp (by omega), show g_up (g_up (xo7 σ nO s a2) 44 0 nO (nI s)) 45 0 nO (vp_nar .boolean a2) 9 0 1 = nI nO from m1, up_s, nI_1, nI_pred, z_bo hb2]
  · exact J_office hJ' (by omega) hs1 hs3 hb2 e33
