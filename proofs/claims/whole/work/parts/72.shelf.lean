/-! PURE: weight, toss, element -/
section
variable {nO nP nL : Nat} {S : Nat → Nat} {L : gL} {ad : gA} {σ : gS}
theorem s_law (hJ : gJ nO nP nL S L ad σ) (a1 : Int32) : (∃ q, q ≠ 0 ∧ f_X8_refusalOfLaw ad σ a1 = some q ∧ f_X9_lacksLaw ad σ a1 = some q) ∨ ∃ d l, d < 8 ∧ l < nL ∧ a1 = nI d ∧ σ 81 0 d = nI l ∧ σ 7 d 1 = nI l ∧ f_X8_refusalOfLaw ad σ a1 = some 0 ∧ f_X9_lacksLaw ad σ a1 = some 0 := by
  obtain ⟨h1, h2, h3, h4, h5, h6, h7, h8, h9, h10, h11, h12, h13, h14, h15⟩ := id hJ
  obtain ⟨⟨hO, hP, hL⟩, ⟨m1, m2, m3⟩, ⟨x1, x2, x3⟩⟩ := id h1
  rcases z_cases a1 (n := 8) (by omega) with h | ⟨d, hd, rfl⟩
  · refine Or.inl ⟨-1, by decide, ?_, ?_⟩
    · unfold f_X8_refusalOfLaw; rw [x_sh0 h]; rfl
    · unfold f_X9_lacksLaw; rw [m_sh0 h]; rfl
  have pd := (z_ix (n := 8) (show d < 2147483648 by omega)).mpr hd
  have e30 := h2.2.2.2 d hd
  have kx : f_X8_refusalOfLaw ad σ (nI d) = if σ 7 d 0 = 0 then some (-11) else if σ 7 d 1 < 0 then some (-12) else some 0 := by
    unfold f_X8_refusalOfLaw
    rw [x_sh1 hd, Option.bind_some, i10]
    simp only [if_pos pd, z_clamp (show d < 2147483648 by omega), e30, i0l]
  have km : f_X9_lacksLaw ad σ (nI d) = if σ 80 0 d = 0 then some (-11) else if σ 80 0 d = 1 then some 0 else some (-12) := by
    unfold f_X9_lacksLaw
    rw [m_sh1 hd, Option.bind_some, i10]
    simp only [if_pos pd, z_clamp (show d < 2147483648 by omega)]
  obtain ⟨k0, k⟩ := h14.1 d hd
  rw [k0] at kx
  rcases k with ⟨k1, k2⟩ | ⟨k1, l, hl, k2, k3⟩ | ⟨k1, k2, -⟩ | ⟨k1, k2, -⟩
  · refine Or.inl ⟨-11, by decide, ?_, ?_⟩
    · rw [kx, k1, i00]
    · rw [km, k1, i00]
  · refine Or.inr ⟨d, l, hd, hl, rfl, k2, k3, ?_, ?_⟩
    · rw [kx, k1, i10, k3, if_neg (nI_pos (by omega))]
    · rw [km, k1, i10, if_pos rfl]
  · refine Or.inl ⟨-12, by decide, ?_, ?_⟩
    · rw [kx, k1, if_neg (by decide), k2, iml]
    · rw [km, k1, if_neg (by decide), if_neg (by decide)]
  · refine Or.inl ⟨-12, by decide, ?_, ?_⟩
    · rw [kx, k1, if_neg (by decide), k2, iml]
    · rw [km, k1, if_neg (by decide), if_neg (by decide)]
end
theorem ok_weight : sim_weight gI := by
  intro L ad σ ⟨nO, nP, nL, S, hJ⟩ a1
  obtain ⟨h1, h2, h3, h4, h5, h6, h7, h8, h9, h10, h11, h12, h13, h14, h15⟩ := id hJ
  obtain ⟨⟨hO, hP, hL⟩, ⟨m1, m2, m3⟩, ⟨x1, x2, x3⟩⟩ := id h1
  rcases s_law hJ a1 with ⟨q, hq, e1, e2⟩ | ⟨d, l, hd, hl, rfl, k2, k3, e1, e2⟩
  · refine ⟨q, ?_, ?_, nO, nP, nL, S, hJ⟩
    · unfold f_X8_weight; rw [e1, Option.bind_some, if_neg hq]
    · unfold f_X9_weight; rw [e2, Option.bind_some, if_neg hq]; rfl
  have pd := (z_ix (n := 8) (show d < 2147483648 by omega)).mpr hd
  have pl := (z_ix (n := 20) (show l < 2147483648 by omega)).mpr (by omega)
  have e30 := h2.2.2.2 d hd
  obtain ⟨l0, l1, l2, l3, -⟩ := h7 l hl
  obtain ⟨k, -, -, hk, ek, -⟩ := h6 l hl
  rw [ek] at l1
  have hX : f_X8_weight ad σ (nI d) = (f_X2_heft ad σ l).bind fun q => some q := by
    unfold f_X8_weight
    rw [e1, Option.bind_some, i00]
    simp only [if_pos pd, z_clamp (show d < 2147483648 by omega), e30, i0l, k3, z_clamp (show l < 2147483648 by omega)]
    rw [if_neg (nI_pos (by omega))]
  have hM : f_X9_weight ad σ (nI d) = if nI k = 5 then f_X9_weight_P50 (nI k) 0 (10 + nI k) else f_X9_weight_P50 (nI k) (100 + σ 55 0 l) (10 + nI k) := by
    unfold f_X9_weight
    rw [e2, Option.bind_some, i00]
    simp only [if_pos pd, if_pos pl, z_clamp (show d < 2147483648 by omega), k2, z_clamp (show l < 2147483648 by omega), ek]
  have he : ∃ r, (f_X2_heft ad σ l).bind (fun q => some q) = some r ∧ (if nI k = 5 then f_X9_weight_P50 (nI k) 0 (10 + nI k) else f_X9_weight_P50 (nI k) (100 + σ 55 0 l) (10 + nI k)) = some r := by
    unfold f_X2_heft f_X2_looksAtLists f_X9_weight_P50
    rw [l1, l3]
    rcases (show k = 0 ∨ k = 1 ∨ k = 2 ∨ k = 3 ∨ k = 4 ∨ k = 5 by omega) with e | e | e | e | e | e <;> subst e <;>
    · simp (disch := decide) only [if_pos, if_neg, Option.bind_some, Int32.add_zero]
      exact ⟨_, rfl, rfl⟩
  obtain ⟨r, r1, r2⟩ := he
  exact ⟨r, hX.trans r1, hM.trans r2, nO, nP, nL, S, hJ⟩
theorem ok_toss : sim_toss gI := by
  intro L ad σ ⟨nO, nP, nL, S, hJ⟩ a1
  obtain ⟨h1, h2, h3, h4, h5, h6, h7, h8, h9, h10, h11, h12, h13, h14, h15⟩ := id hJ
  obtain ⟨⟨hO, hP, hL⟩, ⟨m1, m2, m3⟩, ⟨x1, x2, x3⟩⟩ := id h1
  rcases s_law hJ a1 with ⟨q, hq, e1, e2⟩ | ⟨d, l, hd, hl, rfl, k2, k3, e1, e2⟩
  · refine ⟨q, ?_, ?_, nO, nP, nL, S, hJ⟩
    · unfold f_X8_toss; rw [e1, Option.bind_some, if_neg hq]
    · unfold f_X9_toss; rw [e2, Option.bind_some, if_neg hq]; rfl
  have pd := (z_ix (n := 8) (show d < 2147483648 by omega)).mpr hd
  have pl := (z_ix (n := 20) (show l < 2147483648 by omega)).mpr (by omega)
  have e30 := h2.2.2.2 d hd
  obtain ⟨l0, l1, l2, l3, -⟩ := h7 l hl
  obtain ⟨k, -, -, hk, ek, -⟩ := h6 l hl
  rw [ek] at l1
  have hX : f_X8_toss ad σ (nI d) = (f_X2_looksAtLists ad σ l).bind fun q => if q = 0 then some (-15) else some (nI l) := by
    unfold f_X8_toss
    rw [e1, Option.bind_some, i00]
    simp only [if_pos pd, z_clamp (show d < 2147483648 by omega), e30, i0l, k3, z_clamp (show l < 2147483648 by omega), l0]
    rw [if_neg (nI_pos (by omega))]
  have hM : f_X9_toss ad σ (nI d) = if nI k = 0 then some (-15) else if nI k = 4 then some (-15) else some (nI l) := by
    unfold f_X9_toss
    rw [e2, Option.bind_some, i00]
    simp only [if_pos pd, if_pos pl, z_clamp (show d < 2147483648 by omega), k2, z_clamp (show l < 2147483648 by omega), ek]
  have he : ∃ r, (f_X2_looksAtLists ad σ l).bind (fun q => if q = 0 then some (-15) else some (nI l)) = some r ∧ (if nI k = 0 then some (-15) else if nI k = 4 then some (-15) else some (nI l)) = some r := by
    unfold f_X2_looksAtLists
    rw [l1]
    by_cases q1 : nI k = 0
    · rw [if_pos q1, if_pos q1]; exact ⟨_, rfl, rfl⟩
    · rw [if_neg q1, if_neg q1]
      by_cases q2 : nI k = 4
      · rw [if_pos q2, if_pos q2]; exact ⟨_, rfl, rfl⟩
      · rw [if_neg q2, if_neg q2, Option.bind_some, i10]; exact ⟨_, rfl, rfl⟩
  obtain ⟨r, r1, r2⟩ := he
  exact ⟨r, hX.trans r1, hM.trans r2, nO, nP, nL, S, hJ⟩
theorem ok_element : sim_element gI := by
  intro L ad σ ⟨nO, nP, nL, S, hJ⟩ a1 a2
  obtain ⟨h1, h2, h3, h4, h5, h6, h7, h8, h9, h10, h11, h12, h13, h14, h15⟩ := id hJ
  have hI : ∀ x, gI L ad (g_up σ 9 0 0 x) := fun x => ⟨nO, nP, nL, S, gJ_eqv (eqv_up (eqv_rfl σ) rfl) hJ⟩
  have e0 : ∀ x, g_up σ 9 0 0 x 9 0 0 = x := fun x => up_s
  rcases z_cases a1 (n := 8) (by omega) with h | ⟨d, hd, rfl⟩
  · refine ⟨1, 0, 0, g_up σ 9 0 0 1, ?_, ?_, ?_, fun hh => absurd hh (by decide), by decide, hI 1⟩
    · unfold f_X8_element; rw [x_sh0 h]; rfl
    · unfold f_X9_element; rw [m_sh0 h, Option.bind_some, i00, g_let_e, e0, if_neg (by decide)]
    · unfold f_X9_thrown; rw [e0]; rfl
  have pd := (z_ix (n := 8) (show d < 2147483648 by omega)).mpr hd
  have e30 := h2.2.2.2 d hd
  have kx : f_X8_element ad σ (nI d) a2 = (f_X7_isRow ad σ d).bind fun q2 => if q2 = 0 then some (2, 0) else (if a2 < 0 then some (2, 0) else (if a2 < (σ 7 d 2) then ((f_X7_at ad σ d a2).bind fun q3 => some (0, q3)) else some (2, 0))) := by
    unfold f_X8_element
    rw [x_sh1 hd, Option.bind_some, i10]
    simp only [if_pos pd, z_clamp (show d < 2147483648 by omega), e30, i0l]
  have km : f_X9_element ad σ (nI d) a2 = if σ 80 0 d < 3 then some (0, g_up σ 9 0 0 2) else (f_X9_in ad σ a2 0 (σ 82 0 d - 1)).bind fun q9 => if q9 = 0 then some (0, g_up σ 9 0 0 2) else (if g_ix ((200 : Int32) * nI d + a2) 1600 then some ((σ 83 0 ((200 : Int32) * nI d + a2).toNatClampNeg).toInt64, g_up σ 9 0 0 0) else none) := by
    unfold f_X9_element
    rw [m_sh1 hd, Option.bind_some, i10]
    simp only [if_pos pd, z_clamp (show d < 2147483648 by omega), g_let_e, e0, if_neg (show ¬ (2 : Int32) ≤ 0 by decide), if_pos (show (0 : Int32) ≤ 0 by decide)]
    rfl
  obtain ⟨k0, k⟩ := h14.1 d hd
  have two : f_X8_element ad σ (nI d) a2 = some (2, 0) → f_X9_element ad σ (nI d) a2 = some (0, g_up σ 9 0 0 2) → ∃ (k0 : Nat) (v0 v1 : Int64) (σ2 : gS), f_X8_element ad σ (nI d) a2 = some (k0, v0) ∧ f_X9_element ad σ (nI d) a2 = some (v1, σ2) ∧ f_X9_thrown ad σ2 = some (Int32.ofNat k0) ∧ (k0 = 0 → v0 = v1) ∧ k0 < 3 ∧ gI L ad σ2 := by
    intro t1 t2
    exact ⟨2, 0, 0, _, t1, t2, by unfold f_X9_thrown; rw [e0]; rfl, fun hh => absurd hh (by decide), by decide, hI 2⟩
  have go : ∀ (n : Nat), n ≤ 200 → σ 82 0 d = nI n → σ 7 d 2 = nI n → f_X7_isRow ad σ d = some 1 → ¬ σ 80 0 d < 3 → (∀ i, i < n → f_X7_at ad σ d (nI i) = some (σ 83 0 (200 * d + i)).toInt64) → ∃ (k0 : Nat) (v0 v1 : Int64) (σ2 : gS), f_X8_element ad σ (nI d) a2 = some (k0, v0) ∧ f_X9_element ad σ (nI d) a2 = some (v1, σ2) ∧ f_X9_thrown ad σ2 = some (Int32.ofNat k0) ∧ (k0 = 0 → v0 = v1) ∧ k0 < 3 ∧ gI L ad σ2 := by
    intro n hn g1 g2 g3 g4 g5
    rw [g3, Option.bind_some, i10, g2] at kx
    rw [if_neg g4, g1] at km
    rcases z_cases a2 (n := n) (by omega) with h | ⟨i, hi, rfl⟩
    · refine two ?_ ?_
      · rw [kx]
        rcases h with h | h
        · rw [if_pos h]
        · rw [if_neg (z_nI_le (by omega) h), if_neg (z_not_lt.mpr h)]
      · rw [km, m_in0 (by omega) h, Option.bind_some, i00]
    · rw [if_neg (nI_pos (by omega)), if_pos (nI_lt hi (by omega)), g5 i hi, Option.bind_some] at kx
      rw [m_in1 (by omega) hi, Option.bind_some, i10, z_200, pk_mul, nI_add, if_pos ((z_ix (by omega)).mpr (by omega)), z_clamp (by omega)] at km
      exact ⟨0, _, _, _, kx, km, by unfold f_X9_thrown; rw [e0]; rfl, fun _ => rfl, by decide, hI 0⟩
  rcases k with ⟨k1, k2⟩ | ⟨k1, l, hl, k2, k3⟩ | ⟨k1, k2, n, hn, k3, k4, k5⟩ | ⟨k1, k2, n, hn, k3, k4, k5⟩
  · refine two ?_ ?_
    · rw [kx]; unfold f_X7_isRow; rw [k0, k1, if_neg (by decide), if_neg (by decide)]; rfl
    · rw [km, k1, if_pos (by decide)]
  · refine two ?_ ?_
    · rw [kx]; unfold f_X7_isRow; rw [k0, k1, if_neg (by decide), if_neg (by decide)]; rfl
    · rw [km, k1, if_pos (by decide)]
  · refine go n hn k3 k4 ?_ ?_ ?_
    · unfold f_X7_isRow; rw [k0, k1, if_pos rfl]
    · rw [k1]; decide
    · intro i hi
      unfold f_X7_at
      rw [k0, k1, if_pos rfl, if_pos ((z_ix (by omega)).mpr (by omega)), z_clamp (by omega), k5 i hi]
  · refine go n (by omega) k3 k4 ?_ ?_ ?_
    · unfold f_X7_isRow; rw [k0, k1, if_neg (by decide), if_pos rfl]
    · rw [k1]; decide
    · intro i hi
      unfold f_X7_at
      rw [k0, k1, if_neg (by decide), if_pos ((z_ix (by omega)).mpr (by omega)), z_clamp (by omega), k5 i hi]
