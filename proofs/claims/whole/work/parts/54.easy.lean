/-! PURE: exile, birth, repeal, seat, holds -/
theorem ok_exile : sim_exile gI := by
  intro L ad σ ⟨nO, nP, nL, S, hJ⟩ a1 a2 a3
  obtain ⟨h1, h2, h3, h4, h5, h6, h7, h8, h9, h10, h11, h12, h13, h14, h15⟩ := id hJ
  obtain ⟨⟨hO, hP, hL⟩, ⟨m1, m2, m3⟩, ⟨x1, x2, x3⟩⟩ := id h1
  rcases z_cases a1 (n := nP) (by omega) with h | ⟨p, h, rfl⟩
  · refine ⟨-1, σ, σ, ?_, ?_, nO, nP, nL, S, hJ⟩
    · unfold f_X8_exile; rw [x_per0 x2 h]; rfl
    · unfold f_X9_exile; rw [m_per0 (by omega) m2 h]; rfl
  have e26 := h2.2.1 p h
  rcases z_cases a2 (n := 200) (by omega) with hy | ⟨y, hy, rfl⟩
  · refine ⟨-1, σ, σ, ?_, ?_, nO, nP, nL, S, hJ⟩
    · unfold f_X8_exile; rw [x_per1 (by omega) x2 h, x_year0 hy]; rfl
    · unfold f_X9_exile; rw [m_per1 (by omega) m2 h, m_year0 hy]; rfl
  rcases z_cases a3 (n := 200) (by omega) with hz | ⟨z, hz, rfl⟩
  · refine ⟨-1, σ, σ, ?_, ?_, nO, nP, nL, S, hJ⟩
    · unfold f_X8_exile; rw [x_per1 (by omega) x2 h, x_year1 hy, x_year0 hz]; rfl
    · unfold f_X9_exile; rw [m_per1 (by omega) m2 h, m_year1 hy, m_year0 hz]; rfl
  have px := (z_ix (n := 24) (show p < 2147483648 by omega)).mpr (by omega)
  obtain ⟨q0, q1, q3, q4, q5, q6, q7⟩ := h4 p h
  by_cases hb : σ 52 0 p < σ 51 0 p <;> by_cases hyz : y ≤ z
  all_goals
    have hyz' : (nI y ≤ nI z) = (y ≤ z) := propext (z_le (by omega) (by omega))
    have hzy' : (nI z < nI y) = (z < y) := propext (z_lt (by omega) (by omega))
  · refine ⟨0, g_up (g_up σ 5 p 6 (nI y)) 5 p 7 (nI z), g_up (g_up (g_up (g_up σ 5 p 6 (nI y)) 5 p 7 (nI z)) 51 0 p (nI y)) 52 0 p (nI z), ?_, ?_, nO, nP, nL, S, ?_⟩
    · unfold f_X8_exile f_X5_hasExile f_X5_setExile; rw [x_per1 (by omega) x2 h, x_year1 hy, x_year1 hz]
      simp only [Option.bind_some, if_true, if_false, reduceIte, i10, i00, i0l, im1, iml, iml', ib0, ib1, if_pos px, z_clamp (show p < 2147483648 by omega), e26, g_let, q6, q7, if_pos hb, hzy', if_neg (show ¬ z < y by omega)]
    · unfold f_X9_exile f_X9_exile_P46; rw [m_per1 (by omega) (show g_up (g_up σ 5 p 6 (nI y)) 5 p 7 (nI z) 9 0 2 = nI nP from m2) h, m_year1 hy, m_year1 hz]
      simp only [Option.bind_some, if_true, if_false, reduceIte, i10, i00, i0l, im1, iml, iml', ib0, ib1, if_pos px, z_clamp (show p < 2147483648 by omega), g_let, hyz', if_pos hyz]
      rw [if_pos (show g_up (g_up σ 5 p 6 (nI y)) 5 p 7 (nI z) 52 0 p < g_up (g_up σ 5 p 6 (nI y)) 5 p 7 (nI z) 51 0 p from hb)]
    · refine ⟨K_cnt rfl rfl rfl rfl rfl rfl h1, K_ref rfl rfl rfl rfl h2, K_off rfl rfl rfl h3, ?_, K_kin (σ := σ) (fun q => by simp [g_up]) rfl h5, K_lawM rfl rfl rfl rfl h6, K_lawX rfl rfl rfl rfl rfl rfl h7, K_seat rfl rfl rfl h8, K_place rfl rfl h9, K_code rfl rfl rfl h10, K_post rfl rfl rfl h11, K_num rfl rfl rfl rfl h12, K_el rfl rfl rfl rfl rfl rfl rfl h13, K_sh rfl rfl rfl rfl rfl rfl rfl h14, h15⟩
      intro q hq
      have := h4 q hq
      by_cases e : q = p
      · subst e; simp [g_up, this]
      · simp [g_up, e, this]
  · refine ⟨0, g_up (g_up σ 5 p 6 0) 5 p 7 (-1), g_up (g_up (g_up (g_up σ 5 p 6 0) 5 p 7 (-1)) 51 0 p 0) 52 0 p (-1), ?_, ?_, nO, nP, nL, S, ?_⟩
    · unfold f_X8_exile f_X5_hasExile f_X5_setExile; rw [x_per1 (by omega) x2 h, x_year1 hy, x_year1 hz]
      simp only [Option.bind_some, if_true, if_false, reduceIte, i10, i00, i0l, im1, iml, iml', ib0, ib1, if_pos px, z_clamp (show p < 2147483648 by omega), e26, g_let, q6, q7, if_pos hb, hzy', if_pos (show z < y by omega)]
    · unfold f_X9_exile f_X9_exile_P46; rw [m_per1 (by omega) (show g_up (g_up σ 5 p 6 0) 5 p 7 (-1) 9 0 2 = nI nP from m2) h, m_year1 hy, m_year1 hz]
      simp only [Option.bind_some, if_true, if_false, reduceIte, i10, i00, i0l, im1, iml, iml', ib0, ib1, if_pos px, z_clamp (show p < 2147483648 by omega), g_let, hyz', if_neg hyz]
      rw [if_pos (show g_up (g_up σ 5 p 6 0) 5 p 7 (-1) 52 0 p < g_up (g_up σ 5 p 6 0) 5 p 7 (-1) 51 0 p from hb)]
    · refine ⟨K_cnt rfl rfl rfl rfl rfl rfl h1, K_ref rfl rfl rfl rfl h2, K_off rfl rfl rfl h3, ?_, K_kin (σ := σ) (fun q => by simp [g_up]) rfl h5, K_lawM rfl rfl rfl rfl h6, K_lawX rfl rfl rfl rfl rfl rfl h7, K_seat rfl rfl rfl h8, K_place rfl rfl h9, K_code rfl rfl rfl h10, K_post rfl rfl rfl h11, K_num rfl rfl rfl rfl h12, K_el rfl rfl rfl rfl rfl rfl rfl h13, K_sh rfl rfl rfl rfl rfl rfl rfl h14, h15⟩
      intro q hq
      have := h4 q hq
      by_cases e : q = p
      · subst e; simp [g_up, this]
      · simp [g_up, e, this]
  · refine ⟨1, g_up (g_up σ 5 p 6 (nI y)) 5 p 7 (nI z), g_up (g_up (g_up (g_up σ 5 p 6 (nI y)) 5 p 7 (nI z)) 51 0 p (nI y)) 52 0 p (nI z), ?_, ?_, nO, nP, nL, S, ?_⟩
    · unfold f_X8_exile f_X5_hasExile f_X5_setExile; rw [x_per1 (by omega) x2 h, x_year1 hy, x_year1 hz]
      simp only [Option.bind_some, if_true, if_false, reduceIte, i10, i00, i0l, im1, iml, iml', ib0, ib1, if_pos px, z_clamp (show p < 2147483648 by omega), e26, g_let, q6, q7, if_neg hb, hzy', if_neg (show ¬ z < y by omega)]
    · unfold f_X9_exile f_X9_exile_P46; rw [m_per1 (by omega) (show g_up (g_up σ 5 p 6 (nI y)) 5 p 7 (nI z) 9 0 2 = nI nP from m2) h, m_year1 hy, m_year1 hz]
      simp only [Option.bind_some, if_true, if_false, reduceIte, i10, i00, i0l, im1, iml, iml', ib0, ib1, if_pos px, z_clamp (show p < 2147483648 by omega), g_let, hyz', if_pos hyz]
      rw [if_neg (show ¬ g_up (g_up σ 5 p 6 (nI y)) 5 p 7 (nI z) 52 0 p < g_up (g_up σ 5 p 6 (nI y)) 5 p 7 (nI z) 51 0 p from hb)]
    · refine ⟨K_cnt rfl rfl rfl rfl rfl rfl h1, K_ref rfl rfl rfl rfl h2, K_off rfl rfl rfl h3, ?_, K_kin (σ := σ) (fun q => by simp [g_up]) rfl h5, K_lawM rfl rfl rfl rfl h6, K_lawX rfl rfl rfl rfl rfl rfl h7, K_seat rfl rfl rfl h8, K_place rfl rfl h9, K_code rfl rfl rfl h10, K_post rfl rfl rfl h11, K_num rfl rfl rfl rfl h12, K_el rfl rfl rfl rfl rfl rfl rfl h13, K_sh rfl rfl rfl rfl rfl rfl rfl h14, h15⟩
      intro q hq
      have := h4 q hq
      by_cases e : q = p
      · subst e; simp [g_up, this]
      · simp [g_up, e, this]
  · refine ⟨1, g_up (g_up σ 5 p 6 0) 5 p 7 (-1), g_up (g_up (g_up (g_up σ 5 p 6 0) 5 p 7 (-1)) 51 0 p 0) 52 0 p (-1), ?_, ?_, nO, nP, nL, S, ?_⟩
    · unfold f_X8_exile f_X5_hasExile f_X5_setExile; rw [x_per1 (by omega) x2 h, x_year1 hy, x_year1 hz]
      simp only [Option.bind_some, if_true, if_false, reduceIte, i10, i00, i0l, im1, iml, iml', ib0, ib1, if_pos px, z_clamp (show p < 2147483648 by omega), e26, g_let, q6, q7, if_neg hb, hzy', if_pos (show z < y by omega)]
    · unfold f_X9_exile f_X9_exile_P46; rw [m_per1 (by omega) (show g_up (g_up σ 5 p 6 0) 5 p 7 (-1) 9 0 2 = nI nP from m2) h, m_year1 hy, m_year1 hz]
      simp only [Option.bind_some, if_true, if_false, reduceIte, i10, i00, i0l, im1, iml, iml', ib0, ib1, if_pos px, z_clamp (show p < 2147483648 by omega), g_let, hyz', if_neg hyz]
      rw [if_neg (show ¬ g_up (g_up σ 5 p 6 0) 5 p 7 (-1) 52 0 p < g_up (g_up σ 5 p 6 0) 5 p 7 (-1) 51 0 p from hb)]
    · refine ⟨K_cnt rfl rfl rfl rfl rfl rfl h1, K_ref rfl rfl rfl rfl h2, K_off rfl rfl rfl h3, ?_, K_kin (σ := σ) (fun q => by simp [g_up]) rfl h5, K_lawM rfl rfl rfl rfl h6, K_lawX rfl rfl rfl rfl rfl rfl h7, K_seat rfl rfl rfl h8, K_place rfl rfl h9, K_code rfl rfl rfl h10, K_post rfl rfl rfl h11, K_num rfl rfl rfl rfl h12, K_el rfl rfl rfl rfl rfl rfl rfl h13, K_sh rfl rfl rfl rfl rfl rfl rfl h14, h15⟩
      intro q hq
      have := h4 q hq
      by_cases e : q = p
      · subst e; simp [g_up, this]
      · simp [g_up, e, this]
theorem z_birth (a b : Int32) : (∀ (ad : gA) (σ : gS), f_X8_isBirth ad σ a b = some 0 ∧ f_X9_isSpan ad σ a b = some 0) ∨ (∀ (ad : gA) (σ : gS), f_X8_isBirth ad σ a b = some 1 ∧ f_X9_isSpan ad σ a b = some 1) := by
  unfold f_X8_isBirth f_X9_isSpan f_X9_in
  have t1 : (200 : Int32) ≤ b ↔ 199 < b := by
    rw [Int32.le_iff_toInt_le, Int32.lt_iff_toInt_lt]
    show (200 : Int) ≤ b.toInt ↔ (199 : Int) < b.toInt
    omega
  by_cases q1 : a < -50
  · exact Or.inl fun _ _ => ⟨by rw [if_pos q1], by simp only [if_pos q1, Option.bind_some, if_true, if_false, reduceIte, i10, i00, i0l, im1, iml, iml', ib0, ib1]⟩
  by_cases q2 : b < a
  · refine Or.inl fun _ _ => ⟨by rw [if_neg q1, if_pos q2], ?_⟩
    by_cases q3 : 199 < a
    · simp only [if_neg q1, if_pos q3, Option.bind_some, if_true, if_false, reduceIte, i10, i00, i0l, im1, iml, iml', ib0, ib1]
    · simp only [if_neg q1, if_neg q3, if_pos q2, Option.bind_some, if_true, if_false, reduceIte, i10, i00, i0l, im1, iml, iml', ib0, ib1]
  by_cases q4 : 199 < b
  · refine Or.inl fun _ _ => ⟨by rw [if_neg q1, if_neg q2, if_pos (t1.mpr q4)], ?_⟩
    by_cases q3 : 199 < a
    · simp only [if_neg q1, if_pos q3, Option.bind_some, if_true, if_false, reduceIte, i10, i00, i0l, im1, iml, iml', ib0, ib1]
    · simp only [if_neg q1, if_neg q3, if_neg q2, if_pos q4, Option.bind_some, if_true, if_false, reduceIte, i10, i00, i0l, im1, iml, iml', ib0, ib1]
  have q3 : ¬ 199 < a := fun h => q4 (Int32.lt_of_lt_of_le h (z_not_lt.mp q2))
  exact Or.inr fun _ _ => ⟨by rw [if_neg q1, if_neg q2, if_neg (fun h => q4 (t1.mp h))], by simp only [if_neg q1, if_neg q3, if_neg q2, if_neg q4, Option.bind_some, if_true, if_false, reduceIte, i10, i00, i0l, im1, iml, iml', ib0, ib1]⟩
theorem ok_birth : sim_birth gI := by
  intro L ad σ ⟨nO, nP, nL, S, hJ⟩ a1 a2 a3
  obtain ⟨h1, h2, h3, h4, h5, h6, h7, h8, h9, h10, h11, h12, h13, h14, h15⟩ := id hJ
  obtain ⟨⟨hO, hP, hL⟩, ⟨m1, m2, m3⟩, ⟨x1, x2, x3⟩⟩ := id h1
  rcases z_cases a1 (n := nP) (by omega) with h | ⟨p, h, rfl⟩
  · refine ⟨-1, σ, σ, ?_, ?_, nO, nP, nL, S, hJ⟩
    · unfold f_X8_birth; rw [x_per0 x2 h]; rfl
    · unfold f_X9_birth; rw [m_per0 (by omega) m2 h]; rfl
  have e26 := h2.2.1 p h
  have px := (z_ix (n := 24) (show p < 2147483648 by omega)).mpr (by omega)
  obtain ⟨q0, q1, q3, q4, q5, q6, q7⟩ := h4 p h
  rcases z_birth a2 a3 with hb | hb
  · refine ⟨-1, σ, σ, ?_, ?_, nO, nP, nL, S, hJ⟩
    · unfold f_X8_birth; rw [x_per1 (by omega) x2 h, (hb _ _).1]; rfl
    · unfold f_X9_birth; rw [m_per1 (by omega) m2 h, (hb _ _).2]; rfl
  have fin : gI L ad (g_up (g_up (g_up (g_up σ 5 p 3 a2) 5 p 4 a3) 47 0 p a2) 48 0 p a3) := by
    refine ⟨nO, nP, nL, S, ⟨K_cnt rfl rfl rfl rfl rfl rfl h1, K_ref rfl rfl rfl rfl h2, K_off rfl rfl rfl h3, ?_, K_kin (σ := σ) (fun q => by simp [g_up]) rfl h5, K_lawM rfl rfl rfl rfl h6, K_lawX rfl rfl rfl rfl rfl rfl h7, K_seat rfl rfl rfl h8, K_place rfl rfl h9, K_code rfl rfl rfl h10, K_post rfl rfl rfl h11, K_num rfl rfl rfl rfl h12, K_el rfl rfl rfl rfl rfl rfl rfl h13, K_sh rfl rfl rfl rfl rfl rfl rfl h14, h15⟩⟩
    intro q hq
    have := h4 q hq
    by_cases e : q = p
    · subst e; simp [g_up, this]
    · simp [g_up, e, this]
  refine ⟨if σ 47 0 p = a2 then if σ 48 0 p = a3 then 0 else 1 else 1, g_up (g_up σ 5 p 3 a2) 5 p 4 a3, _, ?_, ?_, fin⟩
  · unfold f_X8_birth; rw [x_per1 (by omega) x2 h, (hb _ _).1]
    simp only [Option.bind_some, if_true, if_false, reduceIte, i10, i00, i0l, im1, iml, iml', ib0, ib1, if_pos px, z_clamp (show p < 2147483648 by omega), e26, g_let, q3, q4]
    by_cases c1 : σ 47 0 p = a2
    · by_cases c2 : σ 48 0 p = a3
      · simp only [if_pos c1, if_pos c2]
      · simp only [if_pos c1, if_neg c2]
    · simp only [if_neg c1]
  · unfold f_X9_birth; rw [m_per1 (by omega) (show g_up (g_up σ 5 p 3 a2) 5 p 4 a3 9 0 2 = nI nP from m2) h, (hb _ _).2]
    simp only [Option.bind_some, if_true, if_false, reduceIte, i10, i00, i0l, im1, iml, iml', ib0, ib1, if_pos px, z_clamp (show p < 2147483648 by omega), g_let, show g_up (g_up σ 5 p 3 a2) 5 p 4 a3 47 0 p = σ 47 0 p from rfl, show g_up (g_up σ 5 p 3 a2) 5 p 4 a3 48 0 p = σ 48 0 p from rfl]
    by_cases c1 : σ 47 0 p = a2
    · by_cases c2 : σ 48 0 p = a3
      · simp only [if_pos c1, if_pos c2]
      · simp only [if_pos c1, if_neg c2]
    · simp only [if_neg c1]
theorem ok_repeal : sim_repeal gI := by
  intro L ad σ ⟨nO, nP, nL, S, hJ⟩ a1 a2
  obtain ⟨h1, h2, h3, h4, h5, h6, h7, h8, h9, h10, h11, h12, h13, h14, h15⟩ := id hJ
  obtain ⟨⟨hO, hP, hL⟩, ⟨m1, m2, m3⟩, ⟨x1, x2, x3⟩⟩ := id h1
  rcases z_cases a1 (n := nL) (by omega) with h | ⟨l, h, rfl⟩
  · refine ⟨-1, σ, σ, ?_, ?_, nO, nP, nL, S, hJ⟩
    · unfold f_X8_repeal; rw [x_law0 x3 h]; rfl
    · unfold f_X9_repeal; rw [m3, m_in0 (by omega) h]; rfl
  have e27 := h2.2.2.1 l h
  have px := (z_ix (n := 20) (show l < 2147483648 by omega)).mpr (by omega)
  obtain ⟨q0, q1, q2, q3, q4, q5⟩ := h7 l h
  obtain ⟨k, n, f, -, -, -, -, -, hf, e56⟩ := h6 l h
  have t : a2 < nI f + 1 ↔ a2 ≤ nI f := by
    rw [nI_1, Int32.le_iff_toInt_le, Int32.lt_iff_toInt_lt, nI_toInt (by omega), nI_toInt (by omega)]
    omega
  by_cases c1 : a2 ≤ nI f
  · refine ⟨-1, σ, σ, ?_, ?_, nO, nP, nL, S, hJ⟩
    · unfold f_X8_repeal; rw [x_law1 (by omega) x3 h]
      simp only [Option.bind_some, if_true, if_false, reduceIte, i10, i00, i0l, im1, iml, iml', ib0, ib1, if_pos px, z_clamp (show l < 2147483648 by omega), e27, q4, e56, if_pos c1]
    · unfold f_X9_repeal; rw [m3, m_in1 (by omega) h]
      simp only [Option.bind_some, if_true, if_false, reduceIte, i10, i00, i0l, im1, iml, iml', ib0, ib1, if_pos px, z_clamp (show l < 2147483648 by omega), e56]
      unfold f_X9_in
      rw [if_pos (t.mpr c1)]; rfl
  by_cases c2 : σ 57 0 l < a2
  · refine ⟨-1, σ, σ, ?_, ?_, nO, nP, nL, S, hJ⟩
    · unfold f_X8_repeal; rw [x_law1 (by omega) x3 h]
      simp only [Option.bind_some, if_true, if_false, reduceIte, i10, i00, i0l, im1, iml, iml', ib0, ib1, if_pos px, z_clamp (show l < 2147483648 by omega), e27, q4, q5, e56, if_neg c1, if_neg (z_not_le.mpr c2)]
    · unfold f_X9_repeal; rw [m3, m_in1 (by omega) h]
      simp only [Option.bind_some, if_true, if_false, reduceIte, i10, i00, i0l, im1, iml, iml', ib0, ib1, if_pos px, z_clamp (show l < 2147483648 by omega), e56]
      unfold f_X9_in
      rw [if_neg (fun hh => c1 (t.mp hh)), if_pos c2]; rfl
  refine ⟨σ 57 0 l, g_up σ 2 l 5 a2, g_up (g_up σ 2 l 5 a2) 57 0 l a2, ?_, ?_, nO, nP, nL, S, ?_⟩
  · unfold f_X8_repeal; rw [x_law1 (by omega) x3 h]
    simp only [Option.bind_some, if_true, if_false, reduceIte, i10, i00, i0l, im1, iml, iml', ib0, ib1, if_pos px, z_clamp (show l < 2147483648 by omega), e27, q4, q5, e56, if_neg c1, if_pos (z_not_lt.mp c2), g_let]
  · unfold f_X9_repeal
    rw [show g_up σ 2 l 5 a2 9 0 3 = nI nL from m3, m_in1 (by omega) h]
    simp only [Option.bind_some, if_true, if_false, reduceIte, i10, i00, i0l, im1, iml, iml', ib0, ib1, if_pos px, z_clamp (show l < 2147483648 by omega), show g_up σ 2 l 5 a2 56 0 l = nI f from e56, show g_up σ 2 l 5 a2 57 0 l = σ 57 0 l from rfl, g_let]
    unfold f_X9_in
    rw [if_neg (fun hh => c1 (t.mp hh)), if_neg c2]
    simp only [Option.bind_some, if_true, if_false, reduceIte, i10, i00, i0l, im1, iml, iml', ib0, ib1]
  · refine ⟨K_cnt rfl rfl rfl rfl rfl rfl h1, K_ref rfl rfl rfl rfl h2, K_off rfl rfl rfl h3, K_per rfl rfl rfl rfl rfl rfl rfl rfl h4, K_kin (σ := σ) (fun q => by simp [g_up]) rfl h5, K_lawM rfl rfl rfl rfl h6, ?_, K_seat rfl rfl rfl h8, K_place rfl rfl h9, K_code rfl rfl rfl h10, K_post rfl rfl rfl h11, K_num rfl rfl rfl rfl h12, K_el rfl rfl rfl rfl rfl rfl rfl h13, K_sh rfl rfl rfl rfl rfl rfl rfl h14, h15⟩
    intro q hq
    have := h7 q hq
    by_cases e : q = l
    · subst e; simp [g_up, this]
    · simp [g_up, e, this]
