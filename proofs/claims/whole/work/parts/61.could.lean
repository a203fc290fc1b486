/-! PURE: could, first, who -/
section
variable {nO nP nL : Nat} {S : Nat → Nat} {L : gL} {ad : gA} {σ : gS}
theorem inB_eqv {τ : gS} (h : eqv σ τ) (l o y : Nat) : inB τ l o y = inB σ l o y := by
  unfold inB
  rw [h 45 0 o rfl, h 54 0 l rfl, h 56 0 l rfl, h 57 0 l rfl]
theorem hB_eqv {τ : gS} (h : eqv σ τ) (p : Nat) : hB τ p = hB σ p := by
  funext a y
  unfold hB
  simp only [h 60 0 _ rfl, h 59 0 _ rfl]
theorem kB_eqv {τ : gS} (h : eqv σ τ) (p q : Nat) : kB τ p q = kB σ p q := by
  unfold kB
  simp only [h 49 0 _ rfl]
theorem brB_eqv {τ : gS} (h : eqv σ τ) (l p o y : Nat) : brB τ S l p o y = brB σ S l p o y := by
  unfold brB hwB hkB
  simp only [h 53 0 _ rfl, h 55 0 _ rfl, h 47 0 _ rfl, h 46 0 _ rfl, h 58 0 _ rfl, h 59 0 _ rfl, hB_eqv h, kB_eqv h]
theorem barS_eqv {τ : gS} (h : eqv σ τ) (p o y : Nat) (own : Bool) : barS τ S nL p o y own = barS σ S nL p o y own := by
  unfold barS
  simp only [h 50 0 _ rfl, h 47 0 _ rfl, h 51 0 _ rfl, h 52 0 _ rfl, h 60 0 _ rfl, inB_eqv h, brB_eqv h]
theorem couldS_eqv {τ : gS} (h : eqv σ τ) (p o y : Nat) : couldS τ S nL p o y = couldS σ S nL p o y := by
  have e : dbB τ p o y = dbB σ p o y := by
    funext l
    unfold dbB
    rw [inB_eqv h, h 53 0 _ rfl, h 55 0 _ rfl, h 48 0 _ rfl]
  unfold couldS
  rw [barS_eqv h, e]
theorem x_levelL (hJ : gJ nO nP nL S L ad σ) {p o y : Nat} (hp : p < nP) (_ho : o < nO) (hfree : σ 45 0 o = 0) {τ : gS} (hq : eqv σ τ) :
    ∀ (k fuel j : Nat), k < fuel → j + k = nL → exB (dbB σ p o y) j = false → f_X6_level_L32 ad (nI p) (nI o) (nI y) f_X6_level_P84 fuel τ (nI j) = some (if exB (dbB σ p o y) nL then 1 else 2, τ) := by
  obtain ⟨h1, h2, h3, h4, h5, h6, h7, h8, h9, h10, h11, h12, h13, h14, h15⟩ := id hJ
  obtain ⟨⟨hO, hP, hL⟩, ⟨m1, m2, m3⟩, ⟨x1, x2, x3⟩⟩ := id h1
  have e65 : τ 6 0 5 = nI nL := (hq 6 0 5 rfl).trans x3
  have pp := (z_ix (n := 24) (show p < 2147483648 by omega)).mpr (by omega)
  have e26 : τ 26 0 p = 0 := (hq 26 0 p rfl).trans (h2.2.1 p hp)
  intro k
  induction k with
  | zero =>
    intro fuel j hf hj hz
    obtain ⟨m, rfl⟩ : ∃ m, fuel = m + 1 := ⟨fuel - 1, by omega⟩
    have : j = nL := by omega
    subst this
    unfold f_X6_level_L32
    rw [e65, if_pos (nI_le (by omega) (by omega)), hz]; rfl
  | succ k ih =>
    intro fuel j hf hj hz
    obtain ⟨m, rfl⟩ : ∃ m, fuel = m + 1 := ⟨fuel - 1, by omega⟩
    have pj := (z_ix (n := 20) (show j < 2147483648 by omega)).mpr (by omega)
    have e27 : τ 27 0 j = 0 := (hq 27 0 j rfl).trans (h2.2.2.1 j (by omega))
    obtain ⟨-, q1, -, q3, -, -⟩ := h7 j (by omega)
    obtain ⟨-, -, -, p4, -, -, -⟩ := h4 p hp
    unfold f_X6_level_L32 f_X2_leavesDoubt
    rw [e65, if_neg (nI_ge (by omega) (by omega))]
    simp only [if_pos pj, if_pos pp, z_clamp (show j < 2147483648 by omega), z_clamp (show p < 2147483648 by omega), e27, e26, i0l, x_binds h6 h7 hO (show j < nL by omega) hfree hq, Option.bind_some, nI_1, hq 2 j 1 rfl, hq 2 j 3 rfl, hq 5 p 4 rfl, q1, q3, p4]
    have go : dbB σ p o y j = false → f_X6_level_L32 ad (nI p) (nI o) (nI y) f_X6_level_P84 m τ (nI (j + 1)) = some (if exB (dbB σ p o y) nL then 1 else 2, τ) := by
      intro hd
      exact ih m (j + 1) (by omega) (by omega) (by simp [exB, hz, hd])
    cases hin : inB σ j o y
    · simp only [Bool.false_eq_true, if_false, i00]
      exact go (by simp [dbB, hin])
    · simp only [if_true, i10]
      by_cases c1 : σ 53 0 j = 0
      · rw [if_pos c1]
        by_cases c2 : σ 55 0 j ≤ nI y - σ 48 0 p
        · rw [if_pos c2, Option.bind_some, i00]
          exact go (by simp [dbB, c2])
        · rw [if_neg c2, Option.bind_some, i10]
          rw [exB_iff.mpr ⟨j, by omega, by simp [dbB, hin, c1, c2]⟩]; rfl
      · rw [if_neg c1, Option.bind_some, i00]
        exact go (by simp [dbB, c1])
theorem x_level (hJ : gJ nO nP nL S L ad σ) {p o y : Nat} (hp : p < nP) (ho : o < nO) (hy : y < 200) : ∃ τ, f_X6_level ad σ (nI p) (nI o) (nI y) = some (couldS σ S nL p o y, τ) ∧ eqv σ τ := by
  obtain ⟨h1, h2, h3, h4, h5, h6, h7, h8, h9, h10, h11, h12, h13, h14, h15⟩ := id hJ
  obtain ⟨⟨hO, hP, hL⟩, ⟨m1, m2, m3⟩, ⟨x1, x2, x3⟩⟩ := id h1
  obtain ⟨τ, t1, t2⟩ := x_bar hJ hp ho hy true
  have po := (z_ix (n := 8) (show o < 2147483648 by omega)).mpr (by omega)
  have e25 : τ 25 0 o = 0 := (t2 25 0 o rfl).trans (h2.1 o ho)
  have e31 : τ 3 o 1 = σ 45 0 o := (t2 3 o 1 rfl).trans (h3 o ho).2.2.2.2.1
  unfold f_X6_level couldS
  rw [show f_X6_firstBar ad σ (nI p) (nI o) (nI y) 1 = _ from t1, Option.bind_some]
  by_cases q : barS σ S nL p o y true = -2
  · rw [if_pos q, if_pos q]
    simp only [if_pos po, z_clamp (show o < 2147483648 by omega), e25, i0l, e31]
    by_cases hfree : σ 45 0 o = 0
    · rw [if_pos hfree]
      exact ⟨τ, x_levelL hJ hp ho hfree t2 nL g_fuel 0 (by unfold g_fuel; omega) (by omega) rfl, t2⟩
    · rw [if_neg hfree]
      refine ⟨τ, ?_, t2⟩
      rw [exB_no.mpr]
      · rfl
      · intro l _
        simp [dbB, inB, hfree]
  · rw [if_neg q, if_neg q]
    exact ⟨τ, rfl, t2⟩
end
theorem ok_could : sim_could gI := by
  intro L ad σ ⟨nO, nP, nL, S, hJ⟩ a1 a2 a3 a4
  obtain ⟨h1, h2, h3, h4, h5, h6, h7, h8, h9, h10, h11, h12, h13, h14, h15⟩ := id hJ
  obtain ⟨⟨hO, hP, hL⟩, ⟨m1, m2, m3⟩, ⟨x1, x2, x3⟩⟩ := id h1
  have hI : gI L ad σ := ⟨nO, nP, nL, S, hJ⟩
  rcases z_cases a1 (n := nP) (by omega) with h | ⟨p, h, rfl⟩
  · refine ⟨-1, σ, ?_, ?_, hI⟩
    · unfold f_X8_could; rw [x_per0 x2 h]; rfl
    · unfold f_X9_could; rw [m_per0 (by omega) m2 h]; rfl
  rcases z_cases a2 (n := nO) (by omega) with ho | ⟨o, ho, rfl⟩
  · refine ⟨-1, σ, ?_, ?_, hI⟩
    · unfold f_X8_could; rw [x_per1 (by omega) x2 h, x_off0 x1 ho]; rfl
    · unfold f_X9_could; rw [m_per1 (by omega) m2 h, m_off0 (by omega) m1 ho]; rfl
  rcases z_cases a3 (n := 200) (by omega) with hy | ⟨y, hy, rfl⟩
  · refine ⟨-1, σ, ?_, ?_, hI⟩
    · unfold f_X8_could; rw [x_per1 (by omega) x2 h, x_off1 (by omega) x1 ho, x_year0 hy]; rfl
    · unfold f_X9_could; rw [m_per1 (by omega) m2 h, m_off1 (by omega) m1 ho, m_year0 hy]; rfl
  by_cases c0 : a4 = 0
  · obtain ⟨τ, t1, t2⟩ := x_level hJ h ho hy
    have hJ' := gJ_eqv t2 hJ
    refine ⟨couldS σ S nL p o y, τ, ?_, ?_, nO, nP, nL, S, hJ'⟩
    · unfold f_X8_could; rw [x_per1 (by omega) x2 h, x_off1 (by omega) x1 ho, x_year1 hy, t1]
      simp only [Option.bind_some, if_true, if_false, reduceIte, i10, i00, i0l, im1, iml, iml', ib0, ib1, if_pos c0]
    · unfold f_X9_could; rw [m_per1 (by omega) hJ'.1.2.1.2.1 h, m_off1 (by omega) hJ'.1.2.1.1 ho, m_year1 hy, c0, show (1 : Int32) = nI 2 - 1 from rfl, show (0 : Int32) = nI 0 from rfl]
      rw [show f_X9_in ad τ (nI 0) (nI 0) (nI 2 - 1) = _ from m_in1 (n := 2) (j := 0) (by omega) (by omega), m_could (wM_of hJ') (by omega) ho hy, couldS_eqv t2]
      rfl
  · by_cases c1 : a4 = 1
    · obtain ⟨τ, t1, t2⟩ := x_bar hJ h ho hy true
      have hJ' := gJ_eqv t2 hJ
      refine ⟨barS σ S nL p o y true, τ, ?_, ?_, nO, nP, nL, S, hJ'⟩
      · unfold f_X8_could; rw [x_per1 (by omega) x2 h, x_off1 (by omega) x1 ho, x_year1 hy, show f_X6_firstBar ad σ (nI p) (nI o) (nI y) 1 = _ from t1]
        simp only [Option.bind_some, if_true, if_false, reduceIte, i10, i00, i0l, im1, iml, iml', ib0, ib1, if_neg c0, if_pos c1]
      · unfold f_X9_could; rw [m_per1 (by omega) hJ'.1.2.1.2.1 h, m_off1 (by omega) hJ'.1.2.1.1 ho, m_year1 hy, c1]
        rw [show f_X9_in ad τ 1 0 1 = _ from m_in1 (n := 2) (j := 1) (by omega) (by omega), m_bar (wM_of hJ') (by omega) ho hy, barS_eqv t2]
        rfl
    · refine ⟨-1, σ, ?_, ?_, hI⟩
      · unfold f_X8_could; rw [x_per1 (by omega) x2 h, x_off1 (by omega) x1 ho, x_year1 hy]
        simp only [Option.bind_some, if_true, if_false, reduceIte, i10, i00, i0l, im1, iml, iml', ib0, ib1, if_neg c0, if_neg c1]
      · unfold f_X9_could; rw [m_per1 (by omega) m2 h, m_off1 (by omega) m1 ho, m_year1 hy]
        have : f_X9_in ad σ a4 0 1 = some 0 := by
          rcases z_cases a4 (n := 2) (by omega) with hh | ⟨j, hj, rfl⟩
          · exact m_in0 (n := 2) (by omega) hh
          · rcases (show j = 0 ∨ j = 1 by omega) with e | e
            · subst e; exact absurd rfl c0
            · subst e; exact absurd rfl c1
        rw [this]; rfl
theorem x_firstL {nO nP nL : Nat} {S : Nat → Nat} {L : gL} {ad : gA} {σ : gS} (hJ : gJ nO nP nL S L ad σ) {p o : Nat} (hp : p < nP) (ho : o < nO) (a4 w : Int32) (hw : w = if a4 = 0 then 1 else 2) :
    ∀ (k fuel j : Nat) (τ : gS), k < fuel → j + k = 200 → eqv σ τ → ∃ (r : Int32) (τ' : gS), f_X8_first_L46 ad (nI p) (nI o) f_X8_first_P79 fuel τ w (nI j) = some (r, τ') ∧ eqv σ τ' ∧ ∀ τ2, eqv σ τ2 → f_X9_first_L29 ad τ2 (nI p) (nI o) a4 f_X9_first_P67 fuel (nI j) = some r := by
  obtain ⟨h1, h2, h3, h4, h5, h6, h7, h8, h9, h10, h11, h12, h13, h14, h15⟩ := id hJ
  obtain ⟨⟨hO, hP, hL⟩, ⟨m1, m2, m3⟩, ⟨x1, x2, x3⟩⟩ := id h1
  intro k
  induction k with
  | zero =>
    intro fuel j τ hf hj hq
    obtain ⟨m, rfl⟩ : ∃ m, fuel = m + 1 := ⟨fuel - 1, by omega⟩
    refine ⟨-2, τ, ?_, hq, fun τ2 _ => ?_⟩
    · unfold f_X8_first_L46
      rw [z_200, if_pos (nI_le (by omega) (by omega))]; rfl
    · unfold f_X9_first_L29
      rw [z_200, if_pos (nI_le (by omega) (by omega))]; rfl
  | succ k ih =>
    intro fuel j τ hf hj hq
    obtain ⟨m, rfl⟩ : ∃ m, fuel = m + 1 := ⟨fuel - 1, by omega⟩
    obtain ⟨u, u1, u2⟩ := x_level (gJ_eqv hq hJ) hp ho (show j < 200 by omega)
    rw [couldS_eqv hq] at u1
    have u3 := eqv_trans hq u2
    obtain ⟨r, v, v1, v2, v3⟩ := ih m (j + 1) u (by omega) (by omega) u3
    have hm : ∀ τ2, eqv σ τ2 → f_X9_couldBe ad τ2 (nI p) (nI o) (nI j) = some (couldS σ S nL p o j) := by
      intro τ2 h2'
      rw [m_could (wM_of (gJ_eqv h2' hJ)) (by omega) ho (by omega), couldS_eqv h2']
    by_cases c : couldS σ S nL p o j < w
    · refine ⟨r, v, ?_, v2, fun τ2 h2' => ?_⟩
      · unfold f_X8_first_L46
        rw [z_200, if_neg (nI_ge (by omega) (by omega)), u1, Option.bind_some, if_pos c, nI_1]
        exact v1
      · unfold f_X9_first_L29
        rw [z_200, if_neg (nI_ge (by omega) (by omega)), hm τ2 h2', Option.bind_some, nI_1, v3 τ2 h2']
        rw [hw] at c
        by_cases c4 : a4 = 0
        · rw [if_pos c4] at c ⊢
          rw [if_pos c]
        · rw [if_neg c4] at c ⊢
          rw [if_pos c]
    · refine ⟨nI j, u, ?_, u3, fun τ2 h2' => ?_⟩
      · unfold f_X8_first_L46
        rw [z_200, if_neg (nI_ge (by omega) (by omega)), u1, Option.bind_some, if_neg c]
      · unfold f_X9_first_L29
        rw [z_200, if_neg (nI_ge (by omega) (by omega)), hm τ2 h2', Option.bind_some]
        rw [hw] at c
        by_cases c4 : a4 = 0
        · rw [if_pos c4] at c ⊢
          rw [if_neg c]
        · rw [if_neg c4] at c ⊢
          rw [if_neg c]
theorem ok_first : sim_first gI := by
  intro L ad σ ⟨nO, nP, nL, S, hJ⟩ a1 a2 a3 a4 _
  obtain ⟨h1, h2, h3, h4, h5, h6, h7, h8, h9, h10, h11, h12, h13, h14, h15⟩ := id hJ
  obtain ⟨⟨hO, hP, hL⟩, ⟨m1, m2, m3⟩, ⟨x1, x2, x3⟩⟩ := id h1
  have hI : gI L ad σ := ⟨nO, nP, nL, S, hJ⟩
  rcases z_cases a1 (n := nP) (by omega) with h | ⟨p, h, rfl⟩
  · refine ⟨-1, σ, ?_, ?_, hI⟩
    · unfold f_X8_first; rw [x_per0 x2 h]; rfl
    · unfold f_X9_first; rw [m_per0 (by omega) m2 h]; rfl
  rcases z_cases a2 (n := nO) (by omega) with ho | ⟨o, ho, rfl⟩
  · refine ⟨-1, σ, ?_, ?_, hI⟩
    · unfold f_X8_first; rw [x_per1 (by omega) x2 h, x_off0 x1 ho]; rfl
    · unfold f_X9_first; rw [m_per1 (by omega) m2 h, m_off0 (by omega) m1 ho]; rfl
  rcases z_cases a3 (n := 200) (by omega) with hy | ⟨y, hy, rfl⟩
  · refine ⟨-1, σ, ?_, ?_, hI⟩
    · unfold f_X8_first; rw [x_per1 (by omega) x2 h, x_off1 (by omega) x1 ho, x_year0 hy]; rfl
    · unfold f_X9_first; rw [m_per1 (by omega) m2 h, m_off1 (by omega) m1 ho, m_year0 hy]; rfl
  obtain ⟨r, τ, t1, t2, t3⟩ := x_firstL hJ h ho a4 _ rfl (200 - y) g_fuel y σ (by unfold g_fuel; omega) (by omega) (eqv_rfl σ)
  have hJ' := gJ_eqv t2 hJ
  refine ⟨r, τ, ?_, ?_, nO, nP, nL, S, hJ'⟩
  · unfold f_X8_first; rw [x_per1 (by omega) x2 h, x_off1 (by omega) x1 ho, x_year1 hy]
    simp only [Option.bind_some, if_true, if_false, reduceIte, i10, i00, i0l, im1, iml, iml', ib0, ib1]
    by_cases c : a4 = 0
    · rw [if_pos c] at t1 ⊢; exact t1
    · rw [if_neg c] at t1 ⊢; exact t1
  · unfold f_X9_first; rw [m_per1 (by omega) hJ'.1.2.1.2.1 h, m_off1 (by omega) hJ'.1.2.1.1 ho, m_year1 hy]
    simp only [Option.bind_some, if_true, if_false, reduceIte, i10, i00, i0l, im1, iml, iml', ib0, ib1]
    exact t3 τ t2
theorem x_whoL {nO nP nL : Nat} {S : Nat → Nat} {L : gL} {ad : gA} {σ : gS} (hJ : gJ nO nP nL S L ad σ) {o y : Nat} (ho : o < nO) (hy : y < 200) (a4 w : Int32) (hw : w = if a4 = 0 then 1 else 2) :
    ∀ (k fuel j : Nat) (v : Int32) (τ : gS), k < fuel → j + k = nP → eqv σ τ → ∃ (r : Int32) (τ' : gS), f_X8_who_L37 ad (nI o) (nI y) f_X8_who_P74 fuel τ w v (nI j) = some (r, τ') ∧ eqv σ τ' ∧ ∀ τ2, eqv σ τ2 → f_X9_who_L24 ad τ2 (nI o) (nI y) a4 f_X9_who_P69 fuel v (nI j) = some r := by
  obtain ⟨h1, h2, h3, h4, h5, h6, h7, h8, h9, h10, h11, h12, h13, h14, h15⟩ := id hJ
  obtain ⟨⟨hO, hP, hL⟩, ⟨m1, m2, m3⟩, ⟨x1, x2, x3⟩⟩ := id h1
  intro k
  induction k with
  | zero =>
    intro fuel j v τ hf hj hq
    obtain ⟨m, rfl⟩ : ∃ m, fuel = m + 1 := ⟨fuel - 1, by omega⟩
    refine ⟨v, τ, ?_, hq, fun τ2 hq2 => ?_⟩
    · unfold f_X8_who_L37
      rw [hq 6 0 4 rfl, x2, if_pos (nI_le (by omega) (by omega))]; rfl
    · unfold f_X9_who_L24
      rw [hq2 9 0 2 rfl, m2, if_pos (nI_le (by omega) (by omega))]; rfl
  | succ k ih =>
    intro fuel j v τ hf hj hq
    obtain ⟨m, rfl⟩ : ∃ m, fuel = m + 1 := ⟨fuel - 1, by omega⟩
    obtain ⟨u, u1, u2⟩ := x_level (gJ_eqv hq hJ) (show j < nP by omega) ho hy
    rw [couldS_eqv hq] at u1
    have u3 := eqv_trans hq u2
    have hm : ∀ τ2, eqv σ τ2 → f_X9_couldBe ad τ2 (nI j) (nI o) (nI y) = some (couldS σ S nL j o y) := by
      intro τ2 h2'
      rw [m_could (wM_of (gJ_eqv h2' hJ)) (by omega) ho (by omega), couldS_eqv h2']
    by_cases c : couldS σ S nL j o y < w
    · obtain ⟨r, t, t1, t2, t3⟩ := ih m (j + 1) v u (by omega) (by omega) u3
      refine ⟨r, t, ?_, t2, fun τ2 h2' => ?_⟩
      · unfold f_X8_who_L37
        rw [hq 6 0 4 rfl, x2, if_neg (nI_ge (by omega) (by omega)), u1, Option.bind_some, if_pos c, nI_1]
        exact t1
      · unfold f_X9_who_L24
        rw [h2' 9 0 2 rfl, m2, if_neg (nI_ge (by omega) (by omega)), hm τ2 h2', Option.bind_some, nI_1, Int32.add_zero, t3 τ2 h2']
        rw [hw] at c
        by_cases c4 : a4 = 0
        · rw [if_pos c4] at c ⊢
          rw [if_pos c]
        · rw [if_neg c4] at c ⊢
          rw [if_pos c]
    · obtain ⟨r, t, t1, t2, t3⟩ := ih m (j + 1) (v + 1) u (by omega) (by omega) u3
      refine ⟨r, t, ?_, t2, fun τ2 h2' => ?_⟩
      · unfold f_X8_who_L37
        rw [hq 6 0 4 rfl, x2, if_neg (nI_ge (by omega) (by omega)), u1, Option.bind_some, if_neg c, nI_1]
        exact t1
      · unfold f_X9_who_L24
        rw [h2' 9 0 2 rfl, m2, if_neg (nI_ge (by omega) (by omega)), hm τ2 h2', Option.bind_some, nI_1, t3 τ2 h2']
        rw [hw] at c
        by_cases c4 : a4 = 0
        · rw [if_pos c4] at c ⊢
          rw [if_neg c]
        · rw [if_neg c4] at c ⊢
          rw [if_neg c]
theorem ok_who : sim_who gI := by
  intro L ad σ ⟨nO, nP, nL, S, hJ⟩ a1 a2 a3 _
  obtain ⟨h1, h2, h3, h4, h5, h6, h7, h8, h9, h10, h11, h12, h13, h14, h15⟩ := id hJ
  obtain ⟨⟨hO, hP, hL⟩, ⟨m1, m2, m3⟩, ⟨x1, x2, x3⟩⟩ := id h1
  have hI : gI L ad σ := ⟨nO, nP, nL, S, hJ⟩
  rcases z_cases a1 (n := nO) (by omega) with ho | ⟨o, ho, rfl⟩
  · refine ⟨-1, σ, ?_, ?_, hI⟩
    · unfold f_X8_who; rw [x_off0 x1 ho]; rfl
    · unfold f_X9_who; rw [m_off0 (by omega) m1 ho]; rfl
  rcases z_cases a2 (n := 200) (by omega) with hy | ⟨y, hy, rfl⟩
  · refine ⟨-1, σ, ?_, ?_, hI⟩
    · unfold f_X8_who; rw [x_off1 (by omega) x1 ho, x_year0 hy]; rfl
    · unfold f_X9_who; rw [m_off1 (by omega) m1 ho, m_year0 hy]; rfl
  obtain ⟨r, τ, t1, t2, t3⟩ := x_whoL hJ ho hy a3 _ rfl nP g_fuel 0 0 σ (by unfold g_fuel; omega) (by omega) (eqv_rfl σ)
  have hJ' := gJ_eqv t2 hJ
  refine ⟨r, τ, ?_, ?_, nO, nP, nL, S, hJ'⟩
  · unfold f_X8_who f_X8_who_P29; rw [x_off1 (by omega) x1 ho, x_year1 hy]
    simp only [Option.bind_some, if_true, if_false, reduceIte, i10, i00, i0l, im1, iml, iml', ib0, ib1]
    by_cases c : a3 = 0
    · rw [if_pos c] at t1 ⊢; exact t1
    · rw [if_neg c] at t1 ⊢; exact t1
  · unfold f_X9_who; rw [m_off1 (by omega) hJ'.1.2.1.1 ho, m_year1 hy]
    simp only [Option.bind_some, if_true, if_false, reduceIte, i10, i00, i0l, im1, iml, iml', ib0, ib1]
    exact t3 τ t2
