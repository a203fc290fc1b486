/-! PURE: drawn, province, election, vote -/
theorem ok_drawn : sim_drawn gI := by
  intro L ad σ ⟨nO, nP, nL, S, hJ⟩ a1 a2 a3
  have wr : ∀ (_ : f_X8_drawn ad σ a1 a2 a3 = some (-1, σ)) (_ : f_X9_drawn ad σ a1 a2 a3 = some (-1, σ)), ∃ (r : Int32) (σ1 : gS) (σ2 : gS), f_X8_drawn ad σ a1 a2 a3 = some (r, σ1) ∧ f_X9_drawn ad σ1 a1 a2 a3 = some (r, σ2) ∧ gI L ad σ2 := fun h1 h2 => ⟨-1, σ, σ, h1, h2, nO, nP, nL, S, hJ⟩
  have hn : (a1 < 1 ∨ ¬ a1 ≤ 35) ∨ ∃ n : Nat, 1 ≤ n ∧ n ≤ 35 ∧ a1 = nI n := by
    rcases z_cases a1 (n := 36) (by omega) with (h | h) | ⟨j, hj, e⟩
    · exact Or.inl (Or.inl (Int32.lt_trans h (by decide)))
    · refine Or.inl (Or.inr ?_)
      rw [z_not_le]
      exact Int32.lt_of_lt_of_le (by decide : (35 : Int32) < nI 36) h
    · by_cases q : j = 0
      · subst q
        exact Or.inl (Or.inl (by rw [e]; decide))
      · exact Or.inr ⟨j, by omega, by omega, e⟩
  rcases hn with hn | ⟨n, hn1, hn2, rfl⟩
  · refine wr ?_ ?_
    · unfold f_X8_drawn
      rcases hn with hn | hn
      · rw [if_pos hn]
      · by_cases q : a1 < 1
        · rw [if_pos q]
        · rw [if_neg q, if_pos (z_not_le.mp hn)]
    · unfold f_X9_drawn f_X9_in
      rcases hn with hn | hn
      · rw [if_pos hn, Option.bind_some, i00]
      · by_cases q : a1 < 1
        · rw [if_pos q, Option.bind_some, i00]
        · rw [if_neg q, if_pos (z_not_le.mp hn), Option.bind_some, i00]
  have hin : f_X9_in ad σ (nI n) 1 35 = some 1 := by
    unfold f_X9_in
    rw [z_1, z_35, if_neg (nI_nlt (by omega) (by omega)), if_neg (nI_nlt (by omega) (by omega))]
  have x1 : ¬ nI n < 1 := by rw [z_1]; exact nI_nlt (by omega) (by omega)
  have x2 : ¬ 35 < nI n := by rw [z_35]; exact nI_nlt (by omega) (by omega)
  rcases lg_cases a2 with ⟨-, l1, l2⟩ | ⟨R, hR, rfl, l1, l2⟩
  · refine wr ?_ ?_
    · unfold f_X8_drawn; rw [if_neg x1, if_neg x2, if_pos l1]
    · unfold f_X9_drawn; rw [hin, Option.bind_some, i10, if_pos l1]
  rcases z_cases a3 (n := n) (by omega) with h | ⟨j, hj, rfl⟩
  · refine wr ?_ ?_
    · unfold f_X8_drawn; rw [if_neg x1, if_neg x2, if_neg l1]
      rcases h with h | h
      · rw [if_pos h]
      · rw [if_neg (z_nI_le (by omega) h), if_neg (by rw [z_not_lt]; exact h)]
    · unfold f_X9_drawn; rw [hin, Option.bind_some, i10, if_neg l1, m_in0 (by omega) h, Option.bind_some, i00]
  have pj := (z_ix (n := 35) (show j < 2147483648 by omega)).mpr (by omega)
  obtain ⟨τ, t1, t2⟩ := x_draw (ad := ad) (σ := σ) (K0 := 31) hn2 hR
  obtain ⟨u, u', u1, u2⟩ := m_draw (ad := ad) (σ := g_row σ 31 0 τ) hn2 hR
  refine ⟨nI (dv n R j), g_row σ 31 0 τ, g_row (g_row (g_row σ 31 0 τ) 72 0 u) 73 0 u', ?_, ?_, nO, nP, nL, S, gJ_eqv (eqv_row (eqv_row (eqv_row (eqv_rfl σ) (fun _ => rfl)) (fun _ => rfl)) (fun _ => rfl)) hJ⟩
  · unfold f_X8_drawn; rw [if_neg x1, if_neg x2, if_neg l1, if_neg (nI_pos (by omega)), if_pos (nI_lt hj (by omega)), t2, Option.bind_some, if_pos pj, row_s, z_clamp (by omega), t1 j hj]
  · unfold f_X9_drawn
    rw [show f_X9_in ad (g_row σ 31 0 τ) (nI n) 1 35 = some 1 from hin, Option.bind_some, i10, if_neg l1, m_in1 (by omega) hj, Option.bind_some, i10, u2, Option.bind_some, if_pos pj, row_K (by decide), row_s, z_clamp (by omega), u1 j hj]
section
variable {nO nP nL : Nat} {S : Nat → Nat} {L : gL} {ad : gA} {σ : gS}
theorem x_ahead (hJ : gJ nO nP nL S L ad σ) {o y s : Nat} (ho : o < nO) (hy : y < 200) (hs : s < S o) :
    ∀ (k fuel j : Nat), k < fuel → j + k = s → f_X3_heldAhead_L5 ad σ o (nI y) (nI s) f_X3_heldAhead_P31 fuel (nI (cntN (fun s => heldB σ (ixl o y s)) j)) (nI j) = some (nI (cntN (fun s => heldB σ (ixl o y s)) s)) := by
  obtain ⟨h1, h2, h3, h4, h5, h6, h7, h8, h9, h10, h11, h12, h13, h14, h15⟩ := id hJ
  obtain ⟨⟨hO, hP, hL⟩, ⟨m1, m2, m3⟩, ⟨x1, x2, x3⟩⟩ := id h1
  have hS := (h3 o ho).1
  intro k
  induction k with
  | zero =>
    intro fuel j hf hj
    obtain ⟨m, rfl⟩ : ∃ m, fuel = m + 1 := ⟨fuel - 1, by omega⟩
    unfold f_X3_heldAhead_L5
    rw [if_pos (nI_le (by omega) (by omega)), show j = s by omega]; rfl
  | succ k ih =>
    intro fuel j hf hj
    obtain ⟨m, rfl⟩ : ∃ m, fuel = m + 1 := ⟨fuel - 1, by omega⟩
    have this := ih m (j + 1) (by omega) (by omega)
    rw [show cntN (fun s => heldB σ (ixl o y s)) (j + 1) = cntN (fun s => heldB σ (ixl o y s)) j + (if heldB σ (ixl o y j) then 1 else 0) from rfl] at this
    unfold f_X3_heldAhead_L5
    rw [if_neg (nI_ge (by omega) (by omega)), nI_1]
    rcases x_seatv hO hP h3 h8 h10 ho hy (show j < S o by omega) with ⟨e1, -, e⟩ | ⟨p, hp, e1, -, ⟨e2, e⟩ | ⟨e2, e⟩⟩
    · rw [show heldB σ (ixl o y j) = false by simp [heldB, e1]] at this
      rw [e, Option.bind_some, im1]
      exact this
    · rw [show heldB σ (ixl o y j) = true by simp [heldB, e1, z_0le (show p < 2147483648 by omega)]] at this
      rw [e, Option.bind_some, if_neg (by rw [z_eqm1 (by omega)]; exact id), nI_1]
      exact this
    · rw [show heldB σ (ixl o y j) = true by simp [heldB, e1, z_0le (show p < 2147483648 by omega)]] at this
      rw [e, Option.bind_some, if_neg (by rw [z_eqm1 (by omega)]; exact id), nI_1]
      exact this
theorem m_ahead' {o y s : Nat} (ho : o < 8) (hy : y < 200) (hs : s < 3) (K : gS → Int32 → Option (Int32 × gS)) :
    ∀ (k fuel j : Nat), k < fuel → j + k = s → f_X9_province_L55 ad (nI o) (nI y) (nI s) K fuel σ (nI (cntN (fun s => heldB σ (ixl o y s)) j)) (nI j) = K σ (nI (cntN (fun s => heldB σ (ixl o y s)) s)) := by
  intro k
  induction k with
  | zero =>
    intro fuel j hf hj
    obtain ⟨m, rfl⟩ : ∃ m, fuel = m + 1 := ⟨fuel - 1, by omega⟩
    unfold f_X9_province_L55
    rw [if_pos (nI_le (by omega) (by omega)), show j = s by omega]
  | succ k ih =>
    intro fuel j hf hj
    obtain ⟨m, rfl⟩ : ∃ m, fuel = m + 1 := ⟨fuel - 1, by omega⟩
    have this := ih m (j + 1) (by omega) (by omega)
    rw [show cntN (fun s => heldB σ (ixl o y s)) (j + 1) = cntN (fun s => heldB σ (ixl o y s)) j + (if heldB σ (ixl o y j) then 1 else 0) from rfl] at this
    have hix := ix_lt ho hy (show j < 3 by omega)
    have pq := (z_ix (n := 4800) (show ixl o y j < 2147483648 by omega)).mpr (by omega)
    unfold f_X9_province_L55
    rw [if_neg (nI_ge (by omega) (by omega)), m_at]
    simp only [Option.bind_some, if_pos pq, z_clamp (show ixl o y j < 2147483648 by omega), nI_1, Int32.add_zero]
    by_cases q : 0 ≤ σ 58 0 (ixl o y j)
    · rw [show heldB σ (ixl o y j) = true by simp [heldB, q]] at this
      rw [if_pos q]
      exact this
    · rw [show heldB σ (ixl o y j) = false by simp [heldB, q]] at this
      rw [if_neg q]
      exact this
end
theorem ok_province : sim_province gI := by
  intro L ad σ ⟨nO, nP, nL, S, hJ⟩ a1 a2 a3 a4 a5
  obtain ⟨h1, h2, h3, h4, h5, h6, h7, h8, h9, h10, h11, h12, h13, h14, h15⟩ := id hJ
  obtain ⟨⟨hO, hP, hL⟩, ⟨m1, m2, m3⟩, ⟨x1, x2, x3⟩⟩ := id h1
  have wr : ∀ (_ : f_X8_province ad σ a1 a2 a3 a4 a5 = some (-1, σ)) (_ : f_X9_province ad σ a1 a2 a3 a4 a5 = some (-1, σ)), ∃ (r : Int32) (σ1 : gS) (σ2 : gS), f_X8_province ad σ a1 a2 a3 a4 a5 = some (r, σ1) ∧ f_X9_province ad σ1 a1 a2 a3 a4 a5 = some (r, σ2) ∧ gI L ad σ2 := fun h1 h2 => ⟨-1, σ, σ, h1, h2, nO, nP, nL, S, hJ⟩
  rcases x_seat hJ a1 a2 a3 with ⟨hx, hm⟩ | ⟨o, y, s, ho, hy, hs, rfl, rfl, rfl, hx, hm⟩
  · refine wr ?_ ?_
    · unfold f_X8_province; rw [hx]; rfl
    · unfold f_X9_province; rw [hm]; rfl
  have hS := (h3 o ho).1
  have e25 := h2.1 o ho
  have hix := ix_lt (o := o) (y := y) (s := s) (by omega) hy (by omega)
  have po := (z_ix (n := 8) (show o < 2147483648 by omega)).mpr (by omega)
  have pq := (z_ix (n := 4800) (show ixl o y s < 2147483648 by omega)).mpr (by omega)
  have hn : (a4 < 1 ∨ ¬ a4 ≤ 9) ∨ ∃ n : Nat, 1 ≤ n ∧ n ≤ 9 ∧ a4 = nI n := by
    rcases z_cases a4 (n := 10) (by omega) with (h | h) | ⟨j, hj, e⟩
    · exact Or.inl (Or.inl (Int32.lt_trans h (by decide)))
    · refine Or.inl (Or.inr ?_)
      rw [z_not_le]
      exact Int32.lt_of_lt_of_le (by decide : (9 : Int32) < nI 10) h
    · by_cases q : j = 0
      · subst q
        exact Or.inl (Or.inl (by rw [e]; decide))
      · exact Or.inr ⟨j, by omega, by omega, e⟩
  rcases hn with hn | ⟨n, hn1, hn2, rfl⟩
  · refine wr ?_ ?_
    · unfold f_X8_province; rw [hx, Option.bind_some, i10]
      rcases hn with hn | hn
      · rw [if_pos hn]
      · by_cases q : a4 < 1
        · rw [if_pos q]
        · rw [if_neg q, if_pos (z_not_le.mp hn)]
    · unfold f_X9_province; rw [hm, Option.bind_some, i10]
      unfold f_X9_in
      rcases hn with hn | hn
      · rw [if_pos hn, Option.bind_some, i00]
      · by_cases q : a4 < 1
        · rw [if_pos q, Option.bind_some, i00]
        · rw [if_neg q, if_pos (z_not_le.mp hn), Option.bind_some, i00]
  have hin : ∀ τ : gS, f_X9_in ad τ (nI n) 1 9 = some 1 := by
    intro τ
    unfold f_X9_in
    rw [z_1, z_9, if_neg (nI_nlt (by omega) (by omega)), if_neg (nI_nlt (by omega) (by omega))]
  have y1 : ¬ nI n < 1 := by rw [z_1]; exact nI_nlt (by omega) (by omega)
  have y2 : ¬ 9 < nI n := by rw [z_9]; exact nI_nlt (by omega) (by omega)
  rcases lg_cases a5 with ⟨-, l1, l2⟩ | ⟨R, hR, rfl, l1, l2⟩
  · refine wr ?_ ?_
    · unfold f_X8_province; rw [hx, Option.bind_some, i10, if_neg y1, if_neg y2, if_neg l2]
    · unfold f_X9_province; rw [hm, Option.bind_some, i10, hin, Option.bind_some, i10, if_neg l2]
  rcases x_seatv hO hP h3 h8 h10 ho hy hs with ⟨e1, e2, e3⟩ | ⟨p, hp, e1, e2, e3⟩
  · refine ⟨-3, σ, σ, ?_, ?_, nO, nP, nL, S, hJ⟩
    · unfold f_X8_province f_X3_holder; rw [hx, Option.bind_some, i10, if_neg y1, if_neg y2, if_pos l2]
      simp only [if_pos po, z_clamp (show o < 2147483648 by omega), e25, e3, Option.bind_some, if_true, if_false, reduceIte, i10, i00, i0l, im1, iml, iml', ib0, ib1]
    · unfold f_X9_province; rw [hm, Option.bind_some, i10, hin, Option.bind_some, i10, if_pos l2, m_at]
      simp only [Option.bind_some, if_pos pq, z_clamp (show ixl o y s < 2147483648 by omega), e1, iml']
  obtain ⟨-, v2⟩ := x_isvoid hP hp e3
  have hA := x_ahead hJ ho hy hs s g_fuel 0 (by unfold g_fuel; omega) (by omega)
  have hc := cnt_le (fun s => heldB σ (ixl o y s)) s
  have hseat : ∀ τ : gS, τ 9 = σ 9 → τ 44 = σ 44 → f_X9_isSeat ad τ (nI o) (nI y) (nI s) = some 1 := by
    intro τ t1 t2
    rw [← hm]
    unfold f_X9_isSeat f_X9_isOffice f_X9_isYear f_X9_in
    rw [t1, t2]
  have hM : ∀ τ : gS, τ 9 = σ 9 → τ 44 = σ 44 → τ 58 = σ 58 → f_X9_province ad τ (nI o) (nI y) (nI s) (nI n) (lN R) = f_X9_province_P93 ad (nI n) (lN R) τ (nI (cntN (fun s => heldB σ (ixl o y s)) s)) := by
    intro τ t1 t2 t3
    unfold f_X9_province
    rw [hseat τ t1 t2, Option.bind_some, i10, hin, Option.bind_some, i10, if_pos l2, m_at]
    have hh : (fun s => heldB τ (ixl o y s)) = (fun s => heldB σ (ixl o y s)) := by
      funext s'
      unfold heldB
      rw [t3]
    simp only [Option.bind_some, if_pos pq, z_clamp (show ixl o y s < 2147483648 by omega), t3, e1, z_0le (show p < 2147483648 by omega), if_true]
    have := m_ahead' (ad := ad) (σ := τ) (show o < 8 by omega) hy (show s < 3 by omega) (f_X9_province_P93 ad (nI n) (lN R)) s g_fuel 0 (by unfold g_fuel; omega) (by omega)
    rw [hh] at this
    exact this
  have hX : f_X8_province ad σ (nI o) (nI y) (nI s) (nI n) (lN R) = if nI (cntN (fun s => heldB σ (ixl o y s)) s) < nI n then ((f_X8_draw ad σ 31 0 35 (nI n) (lN R)).bind fun σ11 => if g_ix (nI (cntN (fun s => heldB σ (ixl o y s)) s)) 35 then some (σ11 31 0 (nI (cntN (fun s => heldB σ (ixl o y s)) s)).toNatClampNeg, σ11) else none) else some (-2, σ) := by
    unfold f_X8_province f_X3_heldAhead
    rw [hx, Option.bind_some, i10, if_neg y1, if_neg y2, if_pos l2]
    simp only [if_pos po, z_clamp (show o < 2147483648 by omega), e25, i0l, v2, Option.bind_some, z_eqm1 (show p < 2147483648 by omega), if_false]
    rw [show f_X3_heldAhead_L5 ad σ o (nI y) (nI s) f_X3_heldAhead_P31 g_fuel 0 0 = _ from hA, Option.bind_some]
  by_cases q : cntN (fun s => heldB σ (ixl o y s)) s < n
  · have pj := (z_ix (n := 35) (show cntN (fun s => heldB σ (ixl o y s)) s < 2147483648 by omega)).mpr (by omega)
    obtain ⟨τ, t1, t2⟩ := x_draw (ad := ad) (σ := σ) (K0 := 31) (show n ≤ 35 by omega) hR
    obtain ⟨u, u', u1, u2⟩ := m_draw (ad := ad) (σ := g_row σ 31 0 τ) (show n ≤ 35 by omega) hR
    refine ⟨nI (dv n R (cntN (fun s => heldB σ (ixl o y s)) s)), g_row σ 31 0 τ, g_row (g_row (g_row σ 31 0 τ) 72 0 u) 73 0 u', ?_, ?_, nO, nP, nL, S, gJ_eqv (eqv_row (eqv_row (eqv_row (eqv_rfl σ) (fun _ => rfl)) (fun _ => rfl)) (fun _ => rfl)) hJ⟩
    · rw [hX, if_pos (nI_lt q (by omega)), t2, Option.bind_some, if_pos pj, row_s, z_clamp (by omega), t1 _ q]
    · rw [hM _ (row_K (by decide)) (row_K (by decide)) (row_K (by decide))]
      unfold f_X9_province_P93
      rw [u2, Option.bind_some, if_neg (nI_ge q (by omega)), if_pos pj, row_K (by decide), row_s, z_clamp (by omega), u1 _ q]
  · obtain ⟨u, u', u1, u2⟩ := m_draw (ad := ad) (σ := σ) (show n ≤ 35 by omega) hR
    refine ⟨-2, σ, g_row (g_row σ 72 0 u) 73 0 u', ?_, ?_, nO, nP, nL, S, gJ_eqv (eqv_row (eqv_row (eqv_rfl σ) (fun _ => rfl)) (fun _ => rfl)) hJ⟩
    · rw [hX, if_neg (nI_nlt (by omega) (by omega))]
    · rw [hM _ rfl rfl rfl]
      unfold f_X9_province_P93
      rw [u2, Option.bind_some, if_pos (nI_le (by omega) (by omega))]
/-! filling rows with one number -/
theorem x_fill {K0 i0 n0 : Nat} (hn : n0 ≤ 4800) {v : Int32} (K : gS → Option gS) :
    ∀ (d fuel k : Nat) (σ : gS), d < fuel → k + d = n0 → f_J7_fill_53178_L5 K0 i0 n0 v K fuel σ (nI k) (nI n0) = K (g_row σ K0 i0 (fun j => if k ≤ j ∧ j < n0 then v else σ K0 i0 j)) := by
  intro d
  induction d with
  | zero =>
    intro fuel k σ hf hk
    obtain ⟨m, rfl⟩ : ∃ m, fuel = m + 1 := ⟨fuel - 1, by omega⟩
    unfold f_J7_fill_53178_L5
    rw [if_pos (nI_le (by omega) (by omega)), row_self]
    intro j
    rw [if_neg (by omega)]
  | succ d ih =>
    intro fuel k σ hf hk
    obtain ⟨m, rfl⟩ : ∃ m, fuel = m + 1 := ⟨fuel - 1, by omega⟩
    have pk := (z_ix (n := n0) (show k < 2147483648 by omega)).mpr (by omega)
    unfold f_J7_fill_53178_L5
    rw [if_neg (nI_ge (by omega) (by omega)), if_pos pk, z_clamp (by omega), nI_1]
    simp only [g_let]
    rw [ih m (k + 1) _ (by omega) (by omega), up_row]
    congr 2
    funext j
    by_cases q1 : k + 1 ≤ j ∧ j < n0
    · rw [if_pos q1, if_pos (by omega)]
    · rw [if_neg q1]
      by_cases q2 : j = k
      · subst q2
        rw [if_pos (by omega), up_s]
      · rw [if_neg (by omega), up_j q2]
theorem x_fillI {ad : gA} {σ : gS} {K0 i0 n0 : Nat} (hn : n0 ≤ 4800) {v : Int32} : f_J7_fill_53178 ad σ K0 i0 n0 v = some (g_row σ K0 i0 (fun j => if j < n0 then v else σ K0 i0 j)) := by
  unfold f_J7_fill_53178
  rw [show Int32.ofNat n0 = nI n0 from rfl, ← nI_0, x_fill hn _ n0 g_fuel 0 σ (by unfold g_fuel; omega) (by omega)]
  unfold f_J7_fill_53178_P20
  congr 2
  funext j
  simp
theorem x_fillb {K0 i0 n0 : Nat} (hn : n0 ≤ 4800) {v : Int32} (K : gS → Option gS) :
    ∀ (d fuel k : Nat) (σ : gS), d < fuel → k + d = n0 → f_J7_fill_031fb_L5 K0 i0 n0 v K fuel σ (nI k) (nI n0) = K (g_row σ K0 i0 (fun j => if k ≤ j ∧ j < n0 then vp_nar .byte v else σ K0 i0 j)) := by
  intro d
  induction d with
  | zero =>
    intro fuel k σ hf hk
    obtain ⟨m, rfl⟩ : ∃ m, fuel = m + 1 := ⟨fuel - 1, by omega⟩
    unfold f_J7_fill_031fb_L5
    rw [if_pos (nI_le (by omega) (by omega)), row_self]
    intro j
    rw [if_neg (by omega)]
  | succ d ih =>
    intro fuel k σ hf hk
    obtain ⟨m, rfl⟩ : ∃ m, fuel = m + 1 := ⟨fuel - 1, by omega⟩
    have pk := (z_ix (n := n0) (show k < 2147483648 by omega)).mpr (by omega)
    unfold f_J7_fill_031fb_L5
    rw [if_neg (nI_ge (by omega) (by omega)), if_pos pk, z_clamp (by omega), nI_1]
    simp only [g_let]
    rw [ih m (k + 1) _ (by omega) (by omega), up_row]
    congr 2
    funext j
    by_cases q1 : k + 1 ≤ j ∧ j < n0
    · rw [if_pos q1, if_pos (by omega)]
    · rw [if_neg q1]
      by_cases q2 : j = k
      · subst q2
        rw [if_pos (by omega), up_s]
      · rw [if_neg (by omega), up_j q2]
theorem x_fillB {ad : gA} {σ : gS} {K0 i0 n0 : Nat} (hn : n0 ≤ 4800) {v : Int32} : f_J7_fill_031fb ad σ K0 i0 n0 v = some (g_row σ K0 i0 (fun j => if j < n0 then vp_nar .byte v else σ K0 i0 j)) := by
  unfold f_J7_fill_031fb
  rw [show Int32.ofNat n0 = nI n0 from rfl, ← nI_0, x_fillb hn _ n0 g_fuel 0 σ (by unfold g_fuel; omega) (by omega)]
  unfold f_J7_fill_031fb_P20
  congr 2
  funext j
  simp
