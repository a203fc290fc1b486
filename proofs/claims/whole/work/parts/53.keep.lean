/-! PURE: what a part of the invariant rests on -/
theorem up_j {σ : gS} {K i j : Nat} {v : Int32} {K' i' j' : Nat} (h : j' ≠ j) : g_up σ K i j v K' i' j' = σ K' i' j' := by
  unfold g_up
  exact if_neg fun hh => h hh.2.2
theorem up_i {σ : gS} {K i j : Nat} {v : Int32} {K' i' j' : Nat} (h : i' ≠ i) : g_up σ K i j v K' i' j' = σ K' i' j' := by
  unfold g_up
  exact if_neg fun hh => h hh.2.1
theorem up_K {σ : gS} {K i j : Nat} {v : Int32} {K' : Nat} (h : K' ≠ K) : g_up σ K i j v K' = σ K' := by
  funext i' j'
  unfold g_up
  exact if_neg fun hh => h hh.1
theorem up_s {σ : gS} {K i j : Nat} {v : Int32} : g_up σ K i j v K i j = v := by
  unfold g_up
  exact if_pos ⟨rfl, rfl, rfl⟩
theorem row_K {σ : gS} {K i : Nat} {τ : Nat → Int32} {K' : Nat} (h : K' ≠ K) : g_row σ K i τ K' = σ K' := by
  funext i' j'
  unfold g_row
  exact if_neg fun hh => h hh.1
theorem row_i {σ : gS} {K i : Nat} {τ : Nat → Int32} {K' i' : Nat} (h : i' ≠ i) : g_row σ K i τ K' i' = σ K' i' := by
  funext j'
  unfold g_row
  exact if_neg fun hh => h hh.2
theorem row_s {σ : gS} {K i : Nat} {τ : Nat → Int32} : g_row σ K i τ K i = τ := by
  funext j'
  unfold g_row
  exact if_pos ⟨rfl, rfl⟩
section
variable {nO nP nL : Nat} {S : Nat → Nat} {L : gL} {ad : gA} {σ σ' : gS}
theorem K_cnt (a1 : σ' 9 0 1 = σ 9 0 1) (a2 : σ' 9 0 2 = σ 9 0 2) (a3 : σ' 9 0 3 = σ 9 0 3) (b1 : σ' 6 0 3 = σ 6 0 3) (b2 : σ' 6 0 4 = σ 6 0 4) (b3 : σ' 6 0 5 = σ 6 0 5) (h : J_cnt nO nP nL σ) : J_cnt nO nP nL σ' := by
  simpa only [J_cnt, a1, a2, a3, b1, b2, b3] using h
theorem K_ref (e25 : σ' 25 = σ 25) (e26 : σ' 26 = σ 26) (e27 : σ' 27 = σ 27) (e30 : σ' 30 = σ 30) (h : J_ref nO nP nL σ) : J_ref nO nP nL σ' := by
  simpa only [J_ref, e25, e26, e27, e30] using h
theorem K_off (e44 : σ' 44 = σ 44) (e45 : σ' 45 = σ 45) (e3 : σ' 3 = σ 3) (h : J_off nO S ad σ) : J_off nO S ad σ' := by
  simpa only [J_off, e44, e45, e3] using h
theorem K_per (e5 : σ' 5 = σ 5) (e46 : σ' 46 = σ 46) (e47 : σ' 47 = σ 47) (e48 : σ' 48 = σ 48) (e49 : σ' 49 = σ 49) (e50 : σ' 50 = σ 50) (e51 : σ' 51 = σ 51) (e52 : σ' 52 = σ 52) (h : J_per nP σ) : J_per nP σ' := by
  simpa only [J_per, e5, e46, e47, e48, e49, e50, e51, e52] using h
theorem K_kin (e5 : ∀ p, σ' 5 p 8 = σ 5 p 8) (e49 : σ' 49 = σ 49) (h : J_kin nP σ) : J_kin nP σ' := by
  simpa only [J_kin, kinP, e5, e49] using h
theorem K_lawM (e53 : σ' 53 = σ 53) (e54 : σ' 54 = σ 54) (e55 : σ' 55 = σ 55) (e56 : σ' 56 = σ 56) (h : J_lawM nO nL σ) : J_lawM nO nL σ' := by
  simpa only [J_lawM, e53, e54, e55, e56] using h
theorem K_lawX (e2 : σ' 2 = σ 2) (e53 : σ' 53 = σ 53) (e54 : σ' 54 = σ 54) (e55 : σ' 55 = σ 55) (e56 : σ' 56 = σ 56) (e57 : σ' 57 = σ 57) (h : J_lawX nL σ) : J_lawX nL σ' := by
  simpa only [J_lawX, e2, e53, e54, e55, e56, e57] using h
theorem K_seat (e58 : σ' 58 = σ 58) (e59 : σ' 59 = σ 59) (e60 : σ' 60 = σ 60) (h : J_seat nO nP S σ) : J_seat nO nP S σ' := by
  simpa only [J_seat, e58, e59, e60] using h
theorem K_place (e58 : σ' 58 = σ 58) (e60 : σ' 60 = σ 60) (h : J_place nO nP S σ) : J_place nO nP S σ' := by
  simpa only [J_place, e58, e60] using h
theorem K_code (e23 : σ' 23 = σ 23) (e58 : σ' 58 = σ 58) (e59 : σ' 59 = σ 59) (h : J_code nO S σ) : J_code nO S σ' := by
  simpa only [J_code, e23, e58, e59] using h
theorem K_post (e24 : σ' 24 = σ 24) (e59 : σ' 59 = σ 59) (e60 : σ' 60 = σ 60) (h : J_post nP σ) : J_post nP σ' := by
  simpa only [J_post, e24, e59, e60] using h
theorem K_num (a6 : σ' 6 0 6 = σ 6 0 6) (a7 : σ' 6 0 7 = σ 6 0 7) (e58 : σ' 58 = σ 58) (e59 : σ' 59 = σ 59) (h : J_num σ) : J_num σ' := by
  have hh : heldB σ' = heldB σ := by funext x; simp only [heldB, e58]
  have hv : voidB σ' = voidB σ := by funext x; simp only [voidB, e58, e59]
  simpa only [J_num, a6, a7, hh, hv] using h
theorem K_el (a0 : σ' 0 0 0 = σ 0 0 0) (a1 : σ' 0 0 1 = σ 0 0 1) (a2 : σ' 0 0 2 = σ 0 0 2) (b1 : σ' 9 0 29 = σ 9 0 29) (b2 : σ' 9 0 30 = σ 9 0 30) (e12 : σ' 12 = σ 12) (e71 : σ' 71 = σ 71) (h : J_el σ) : J_el σ' := by
  have hb : balB σ' = balB σ := by funext x; simp only [balB, e71]
  simpa only [J_el, a0, a1, a2, b1, b2, e12, e71, hb] using h
theorem K_sh (e7 : σ' 7 = σ 7) (e28 : σ' 28 = σ 28) (e29 : σ' 29 = σ 29) (e80 : σ' 80 = σ 80) (e81 : σ' 81 = σ 81) (e82 : σ' 82 = σ 82) (e83 : σ' 83 = σ 83) (h : J_sh nL σ) : J_sh nL σ' := by
  simpa only [J_sh, J_sh1, e7, e28, e29, e80, e81, e82, e83] using h
end
/-! the first calls: death, exile, birth, repeal -/
theorem ok_death : sim_death gI := by
  intro L ad σ ⟨nO, nP, nL, S, hJ⟩ a1 a2
  obtain ⟨h1, h2, h3, h4, h5, h6, h7, h8, h9, h10, h11, h12, h13, h14, h15⟩ := id hJ
  obtain ⟨⟨hO, hP, hL⟩, ⟨m1, m2, m3⟩, ⟨x1, x2, x3⟩⟩ := id h1
  rcases z_cases a1 (n := nP) (by omega) with h | ⟨p, h, rfl⟩
  · refine ⟨-1, σ, σ, ?_, ?_, nO, nP, nL, S, hJ⟩
    · unfold f_X8_death; rw [x_per0 x2 h]; rfl
    · unfold f_X9_death; rw [m_per0 (by omega) m2 h]; rfl
  have e26 := h2.2.1 p h
  rcases z_cases a2 (n := 201) (by omega) with hy | ⟨y, hy, rfl⟩
  · refine ⟨-1, σ, σ, ?_, ?_, nO, nP, nL, S, hJ⟩
    · unfold f_X8_death; rw [x_per1 (by omega) x2 h]
      simp only [Option.bind_some, if_true, if_false, reduceIte, i10, i00, i0l, im1, iml, iml', ib0, ib1]
      rcases hy with hy | hy
      · rw [if_pos hy]
      · rw [if_neg (z_nI_le (by omega) hy), if_neg]
        rw [z_not_le]
        exact Int32.lt_of_lt_of_le (by decide : (200 : Int32) < nI 201) hy
    · unfold f_X9_death; rw [m_per1 (by omega) m2 h, show (200 : Int32) = nI 201 - 1 from rfl, m_in0 (by omega) hy]; rfl
  · have px := (z_ix (n := 24) (show p < 2147483648 by omega)).mpr (by omega)
    refine ⟨σ 50 0 p, g_up σ 5 p 5 (nI y), g_up (g_up σ 5 p 5 (nI y)) 50 0 p (nI y), ?_, ?_, nO, nP, nL, S, ?_⟩
    · unfold f_X8_death; rw [x_per1 (by omega) x2 h]
      simp only [Option.bind_some, if_true, if_false, reduceIte, i10, i00, i0l, im1, iml, iml', ib0, ib1, z_lt0 (show y < 2147483648 by omega), z_200, z_le (show y < 2147483648 by omega) (show 200 < 2147483648 by omega), if_pos (show y ≤ 200 by omega), if_false, if_pos px, z_clamp (show p < 2147483648 by omega), e26, g_let, (h4 p h).2.2.2.2.1]
    · unfold f_X9_death; rw [m_per1 (by omega) (show g_up σ 5 p 5 (nI y) 9 0 2 = nI nP from m2) h, show (200 : Int32) = nI 201 - 1 from rfl, m_in1 (by omega) hy]
      simp only [Option.bind_some, if_true, if_false, reduceIte, i10, i00, i0l, im1, iml, iml', ib0, ib1, if_pos px, z_clamp (show p < 2147483648 by omega), g_let]
      rfl
    · refine ⟨K_cnt rfl rfl rfl rfl rfl rfl h1, K_ref rfl rfl rfl rfl h2, K_off rfl rfl rfl h3, ?_, K_kin (σ := σ) (fun q => by simp [g_up]) rfl h5, K_lawM rfl rfl rfl rfl h6, K_lawX rfl rfl rfl rfl rfl rfl h7, K_seat rfl rfl rfl h8, K_place rfl rfl h9, K_code rfl rfl rfl h10, K_post rfl rfl rfl h11, K_num rfl rfl rfl rfl h12, K_el rfl rfl rfl rfl rfl rfl rfl h13, K_sh rfl rfl rfl rfl rfl rfl rfl h14, h15⟩
      intro q hq
      have := h4 q hq
      by_cases e : q = p
      · subst e; simp [g_up, this]
      · simp [g_up, e, this]
