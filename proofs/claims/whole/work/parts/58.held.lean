/-! PURE: held, count -/
def hB (σ : gS) (p : Nat) (a : Int32) (y : Nat) : Bool := !decide (σ 60 0 (200 * p + y) < 0) && decide (σ 59 0 (σ 60 0 (200 * p + y)).toNatClampNeg = 0) && (decide (a < 0) || decide (σ 60 0 (200 * p + y) / 600 = a))
/-- places lie in the lists -/
def plc (σ : gS) : Prop := ∀ p y, p < 24 → y < 200 → σ 60 0 (200 * p + y) = -1 ∨ ∃ x, x < 4800 ∧ σ 60 0 (200 * p + y) = nI x
theorem plc_of {nO nP : Nat} {S : Nat → Nat} {ad : gA} {σ : gS} (hO : nO ≤ 8) (h3 : J_off nO S ad σ) (h9 : J_place nO nP S σ) : plc σ := by
  intro p y hp hy
  rcases h9 p y hp hy with h | ⟨-, o, s, ho, hs, e, -⟩
  · exact Or.inl h
  · have hS := (h3 o ho).1
    exact Or.inr ⟨_, ix_lt (by omega) hy (by omega), e⟩
theorem m_hh {ad : gA} {σ : gS} (hp9 : plc σ) {p y : Nat} (hp : p < 24) (hy : y < 200) (a : Int32) : f_X9_hasHeld ad σ (nI p) a (nI y) = some (if hB σ p a y then 1 else 0) := by
  have pr := (z_ix (n := 4800) (show 200 * p + y < 2147483648 by omega)).mpr (by omega)
  unfold f_X9_hasHeld hB f_X9_officeAt
  simp only [z_0le (show y < 2147483648 by omega), if_true, if_false, reduceIte, i10, i00, i0l, im1, iml, iml', ib0, ib1, z_200, pk_mul, nI_add, if_pos pr, z_clamp (show 200 * p + y < 2147483648 by omega), Option.bind_some]
  rcases hp9 p y hp hy with h | ⟨x, hx, h⟩
  · rw [h]
    simp
  · rw [h]
    have px := (z_ix (n := 4800) (show x < 2147483648 by omega)).mpr (by omega)
    simp only [z_lt0 (show x < 2147483648 by omega), if_true, if_false, reduceIte, i10, i00, i0l, im1, iml, iml', ib0, ib1, if_pos px, z_clamp (show x < 2147483648 by omega)]
    by_cases q1 : σ 59 0 x = 0
    · by_cases q2 : a < 0
      · simp [q1, q2]
      · by_cases q3 : nI x / 600 = a
        · simp [q1, q3]
        · simp [q1, q2, q3]
    · simp [q1]
theorem x_hb {nO nP : Nat} {S : Nat → Nat} {ad : gA} {σ : gS} (hO : nO ≤ 8) (hP : nP ≤ 24) (h3 : J_off nO S ad σ) (h8 : J_seat nO nP S σ) (h9 : J_place nO nP S σ) (h11 : J_post nP σ) {p y : Nat} (hp : p < nP) (hy : y < 200) :
    (σ 24 p y = -1 ∧ ∀ a, hB σ p a y = false) ∨ (∃ o, o < nO ∧ σ 24 p y = nI (o + 100) ∧ ∀ a, hB σ p a y = false) ∨ ∃ o, o < nO ∧ σ 24 p y = nI o ∧ ∀ a, hB σ p a y = (decide (a < 0) || decide (nI o = a)) := by
  rcases x_postv hO hP h3 h8 h9 h11 hp hy with ⟨e1, e2⟩ | ⟨o, s, ho, hs, e1, e2, e3⟩
  · exact Or.inl ⟨e2, fun a => by simp [hB, e1]⟩
  · have hS := (h3 o ho).1
    have hix := ix_lt (o := o) (y := y) (s := s) (by omega) hy (by omega)
    have hdiv : nI (ixl o y s) / (600 : Int32) = nI o := by
      rw [show (600 : Int32) = nI 600 from rfl, pk_div (by omega) (by omega) (by omega), ix_off hy (by omega)]
    rcases e3 with ⟨e3, e4⟩ | ⟨e3, e4⟩
    · refine Or.inr (Or.inr ⟨o, ho, e4, fun a => ?_⟩)
      simp [hB, e1, z_lt0 (show ixl o y s < 2147483648 by omega), nI_clamp (show ixl o y s < 2 ^ 31 by omega), e3, hdiv]
    · refine Or.inr (Or.inl ⟨o, ho, e4, fun a => ?_⟩)
      simp [hB, e1, nI_clamp (show ixl o y s < 2 ^ 31 by omega), e3]
theorem m_held {ad : gA} {σ : gS} (hp9 : plc σ) {p Y : Nat} (hp : p < 24) (hY : Y < 200) (a : Int32) :
    ∀ (k fuel j : Nat), k < fuel → j + k = Y → f_X9_held_L39 ad σ (nI p) a (nI Y) f_X9_held_P72 fuel (nI (cntN (hB σ p a) j)) (nI j) = some (nI (cntN (hB σ p a) Y)) := by
  intro k
  induction k with
  | zero =>
    intro fuel j hf hj
    obtain ⟨m, rfl⟩ : ∃ m, fuel = m + 1 := ⟨fuel - 1, by omega⟩
    unfold f_X9_held_L39
    rw [if_pos (nI_le (by omega) (by omega)), show j = Y by omega]; rfl
  | succ k ih =>
    intro fuel j hf hj
    obtain ⟨m, rfl⟩ : ∃ m, fuel = m + 1 := ⟨fuel - 1, by omega⟩
    unfold f_X9_held_L39
    rw [if_neg (nI_ge (by omega) (by omega)), m_hh hp9 hp (by omega)]
    have := ih m (j + 1) (by omega) (by omega)
    rw [show cntN (hB σ p a) (j + 1) = cntN (hB σ p a) j + (if hB σ p a j then 1 else 0) from rfl] at this
    cases hb : hB σ p a j
    · simp only [hb, Option.bind_some, if_true, if_false, reduceIte, i10, i00, i0l, im1, iml, iml', ib0, ib1, Int32.add_zero, nI_1, Bool.false_eq_true, Nat.add_zero] at this ⊢
      exact this
    · simp only [hb, Option.bind_some, if_true, if_false, reduceIte, i10, i00, i0l, im1, iml, iml', ib0, ib1, nI_1] at this ⊢
      exact this
theorem x_held {nO nP : Nat} {S : Nat → Nat} {ad : gA} {σ : gS} (hO : nO ≤ 8) (hP : nP ≤ 24) (h3 : J_off nO S ad σ) (h8 : J_seat nO nP S σ) (h9 : J_place nO nP S σ) (h11 : J_post nP σ) {p Y : Nat} (hp : p < nP) (hY : Y < 200) (a : Int32) (ha : a = -1 ∨ ∃ o, o < nO ∧ a = nI o) :
    ∀ (k fuel j : Nat), k < fuel → j + k = Y → f_X5_yearsHeld_L5 σ p a (nI Y) f_X5_yearsHeld_P56 fuel (nI (cntN (hB σ p a) j)) (nI j) = some (nI (cntN (hB σ p a) Y)) := by
  intro k
  induction k with
  | zero =>
    intro fuel j hf hj
    obtain ⟨m, rfl⟩ : ∃ m, fuel = m + 1 := ⟨fuel - 1, by omega⟩
    unfold f_X5_yearsHeld_L5
    rw [if_pos (nI_le (by omega) (by omega)), show j = Y by omega]; rfl
  | succ k ih =>
    intro fuel j hf hj
    obtain ⟨m, rfl⟩ : ∃ m, fuel = m + 1 := ⟨fuel - 1, by omega⟩
    have pj := (z_ix (n := 200) (show j < 2147483648 by omega)).mpr (by omega)
    unfold f_X5_yearsHeld_L5
    rw [if_neg (nI_ge (by omega) (by omega)), if_pos pj, z_clamp (by omega)]
    have := ih m (j + 1) (by omega) (by omega)
    rw [show cntN (hB σ p a) (j + 1) = cntN (hB σ p a) j + (if hB σ p a j then 1 else 0) from rfl] at this
    rcases x_hb hO hP h3 h8 h9 h11 hp (show j < 200 by omega) with ⟨e1, e2⟩ | ⟨o, ho, e1, e2⟩ | ⟨o, ho, e1, e2⟩
    · rw [e2 a] at this
      simp only [e1, if_true, if_false, reduceIte, i10, i00, i0l, im1, iml, iml', ib0, ib1, nI_1, Bool.false_eq_true, Nat.add_zero] at this ⊢
      exact this
    · rw [e2 a] at this
      simp only [e1, z_eqm1 (show o + 100 < 2147483648 by omega), if_true, if_false, reduceIte, i10, i00, i0l, im1, iml, iml', ib0, ib1, nI_1, Bool.false_eq_true, Nat.add_zero, z_100, z_le (show 100 < 2147483648 by omega) (show o + 100 < 2147483648 by omega), if_pos (show 100 ≤ o + 100 by omega)] at this ⊢
      rcases ha with rfl | ⟨o', ho', rfl⟩
      · simp only [if_true, if_false, reduceIte, i10, i00, i0l, im1, iml, iml', ib0, ib1]; exact this
      · simp only [z_eqm1 (show o' < 2147483648 by omega), if_true, if_false, reduceIte, i10, i00, i0l, im1, iml, iml', ib0, ib1, z_eq (show o + 100 < 2147483648 by omega) (show o' < 2147483648 by omega), if_neg (show ¬ o + 100 = o' by omega)]
        exact this
    · rw [e2 a] at this
      simp only [e1, z_eqm1 (show o < 2147483648 by omega), if_true, if_false, reduceIte, i10, i00, i0l, im1, iml, iml', ib0, ib1, nI_1, z_100, z_le (show 100 < 2147483648 by omega) (show o < 2147483648 by omega), if_neg (show ¬ 100 ≤ o by omega)] at this ⊢
      rcases ha with rfl | ⟨o', ho', rfl⟩
      · simp only [if_true, if_false, reduceIte, i10, i00, i0l, im1, iml, iml', ib0, ib1]
        rw [show (decide ((-1 : Int32) < 0) || decide (nI o = -1)) = true by simp] at this
        exact this
      · simp only [z_eqm1 (show o' < 2147483648 by omega), if_true, if_false, reduceIte, i10, i00, i0l, im1, iml, iml', ib0, ib1, z_eq (show o < 2147483648 by omega) (show o' < 2147483648 by omega), z_lt0 (show o' < 2147483648 by omega)] at this ⊢
        by_cases q : o = o'
        · simp [q] at this ⊢; exact this
        · simp [q] at this ⊢; exact this
theorem ok_held : sim_held gI := by
  intro L ad σ ⟨nO, nP, nL, S, hJ⟩ a1 a2 a3
  obtain ⟨h1, h2, h3, h4, h5, h6, h7, h8, h9, h10, h11, h12, h13, h14, h15⟩ := id hJ
  obtain ⟨⟨hO, hP, hL⟩, ⟨m1, m2, m3⟩, ⟨x1, x2, x3⟩⟩ := id h1
  have hI : gI L ad σ := ⟨nO, nP, nL, S, hJ⟩
  have hp9 := plc_of hO h3 h9
  rcases z_cases a1 (n := nP) (by omega) with h | ⟨p, h, rfl⟩
  · refine ⟨-1, ?_, ?_, hI⟩
    · unfold f_X8_held; rw [x_per0 x2 h]; rfl
    · unfold f_X9_held; rw [m_per0 (by omega) m2 h]; rfl
  have e26 := h2.2.1 p h
  have pp := (z_ix (n := 24) (show p < 2147483648 by omega)).mpr (by omega)
  have ha : (a2 = -1 ∨ ∃ o, o < nO ∧ a2 = nI o) ∨ (a2 ≠ -1 ∧ (a2 < 0 ∨ nI nO ≤ a2)) := by
    by_cases q : a2 = -1
    · exact Or.inl (Or.inl q)
    · rcases z_cases a2 (n := nO) (by omega) with h | ⟨o, h, rfl⟩
      · exact Or.inr ⟨q, h⟩
      · exact Or.inl (Or.inr ⟨o, h, rfl⟩)
  rcases z_cases a3 (n := 200) (by omega) with hy | ⟨y, hy, rfl⟩
  · refine ⟨-1, ?_, ?_, hI⟩
    · unfold f_X8_held; rw [x_per1 (by omega) x2 h, x_year0 hy]; rfl
    · unfold f_X9_held; rw [m_per1 (by omega) m2 h, m_year0 hy, m1]
      have : f_X9_in ad σ a2 (-1) (nI nO - 1) = some 0 ∨ f_X9_in ad σ a2 (-1) (nI nO - 1) = some 1 := by
        rcases ha with (rfl | ⟨o, ho, rfl⟩) | ⟨q, hh⟩
        · exact Or.inr (m_inm (by omega))
        · exact Or.inr (m_inm1 (by omega) ho)
        · exact Or.inl (m_inm0 (by omega) q hh)
      rcases this with e | e <;> rw [e] <;> rfl
  rcases ha with ha | ⟨q, hh⟩
  · have mx := x_held hO hP h3 h8 h9 h11 h hy a2 ha y g_fuel 0 (by unfold g_fuel; omega) (by omega)
    have mm := m_held (ad := ad) hp9 (show p < 24 by omega) hy a2 y g_fuel 0 (by unfold g_fuel; omega) (by omega)
    refine ⟨nI (cntN (hB σ p a2) y), ?_, ?_, hI⟩
    · unfold f_X8_held f_X5_yearsHeld; rw [x_per1 (by omega) x2 h, x_year1 hy]
      rcases ha with rfl | ⟨o, ho, rfl⟩
      · simp only [Option.bind_some, if_true, if_false, reduceIte, i10, i00, i0l, im1, iml, iml', ib0, ib1, if_pos pp, z_clamp (show p < 2147483648 by omega), e26]
        rw [show f_X5_yearsHeld_L5 σ p (-1) (nI y) f_X5_yearsHeld_P56 g_fuel 0 0 = _ from mx]; rfl
      · rw [x_off1 (by omega) x1 ho]
        simp only [Option.bind_some, if_true, if_false, reduceIte, i10, i00, i0l, im1, iml, iml', ib0, ib1, if_pos pp, z_clamp (show p < 2147483648 by omega), e26, z_eqm1 (show o < 2147483648 by omega)]
        rw [show f_X5_yearsHeld_L5 σ p (nI o) (nI y) f_X5_yearsHeld_P56 g_fuel 0 0 = _ from mx]; rfl
    · unfold f_X9_held; rw [m_per1 (by omega) m2 h, m_year1 hy, m1]
      rcases ha with rfl | ⟨o, ho, rfl⟩
      · rw [m_inm (by omega)]
        simp only [Option.bind_some, if_true, if_false, reduceIte, i10, i00, i0l, im1, iml, iml', ib0, ib1]
        exact mm
      · rw [m_inm1 (by omega) ho]
        simp only [Option.bind_some, if_true, if_false, reduceIte, i10, i00, i0l, im1, iml, iml', ib0, ib1]
        exact mm
  · refine ⟨-1, ?_, ?_, hI⟩
    · unfold f_X8_held; rw [x_per1 (by omega) x2 h, x_year1 hy, x_off0 x1 hh]
      simp only [Option.bind_some, if_true, if_false, reduceIte, i10, i00, i0l, im1, iml, iml', ib0, ib1, if_neg q]
    · unfold f_X9_held; rw [m_per1 (by omega) m2 h, m1, m_inm0 (by omega) q hh]; rfl
theorem m_voted {σ : gS} : ∀ (k fuel j : Nat), k < fuel → j + k = 35 → f_X9_voted_L4 σ f_X9_voted_P33 fuel (nI (cntN (balB σ) j)) (nI j) = some (nI (cntN (balB σ) 35)) := by
  intro k
  induction k with
  | zero =>
    intro fuel j hf hj
    obtain ⟨m, rfl⟩ : ∃ m, fuel = m + 1 := ⟨fuel - 1, by omega⟩
    unfold f_X9_voted_L4
    rw [z_35, if_pos (nI_le (by omega) (by omega)), show j = 35 by omega]; rfl
  | succ k ih =>
    intro fuel j hf hj
    obtain ⟨m, rfl⟩ : ∃ m, fuel = m + 1 := ⟨fuel - 1, by omega⟩
    have pj := (z_ix (n := 35) (show j < 2147483648 by omega)).mpr (by omega)
    unfold f_X9_voted_L4
    rw [z_35, if_neg (nI_ge (by omega) (by omega)), if_pos pj, z_clamp (by omega)]
    have := ih m (j + 1) (by omega) (by omega)
    rw [show cntN (balB σ) (j + 1) = cntN (balB σ) j + (if balB σ j then 1 else 0) from rfl] at this
    by_cases q : σ 71 0 j = 0
    · rw [show balB σ j = false by simp [balB, q]] at this
      simp only [if_pos q, if_true, if_false, reduceIte, i10, i00, i0l, im1, iml, iml', ib0, ib1, Int32.add_zero, nI_1, Bool.false_eq_true, Nat.add_zero] at this ⊢
      exact this
    · rw [show balB σ j = true by simp [balB, q]] at this
      simp only [if_neg q, if_true, if_false, reduceIte, i10, i00, i0l, im1, iml, iml', ib0, ib1, nI_1] at this ⊢
      exact this
theorem m_count {σ : gS} {a : Int32} {f : Nat → Bool} (hf : (a = 3 ∧ f = heldB σ) ∨ (a = 4 ∧ f = voidB σ)) : ∀ (k fuel j : Nat), k < fuel → j + k = 4800 → f_X9_count_L57 σ a f_X9_count_P101 fuel (nI (cntN f j)) (nI j) = some (nI (cntN f 4800)) := by
  intro k
  induction k with
  | zero =>
    intro fuel j hf hj
    obtain ⟨m, rfl⟩ : ∃ m, fuel = m + 1 := ⟨fuel - 1, by omega⟩
    unfold f_X9_count_L57
    rw [z_4800, if_pos (nI_le (by omega) (by omega)), show j = 4800 by omega]; rfl
  | succ k ih =>
    intro fuel j hfu hj
    obtain ⟨m, rfl⟩ : ∃ m, fuel = m + 1 := ⟨fuel - 1, by omega⟩
    have pj := (z_ix (n := 4800) (show j < 2147483648 by omega)).mpr (by omega)
    unfold f_X9_count_L57
    rw [z_4800, if_neg (nI_ge (by omega) (by omega))]
    simp only [if_pos pj, z_clamp (show j < 2147483648 by omega)]
    have := ih m (j + 1) (by omega) (by omega)
    rw [show cntN f (j + 1) = cntN f j + (if f j then 1 else 0) from rfl] at this
    by_cases q : σ 58 0 j < 0
    · have hn : ¬ 0 ≤ σ 58 0 j := by rw [z_not_le]; exact q
      have e : f j = false := by
        rcases hf with ⟨-, rfl⟩ | ⟨-, rfl⟩
        · simp [heldB, hn]
        · simp [voidB, hn]
      rw [e] at this
      simp only [if_pos q, if_true, if_false, reduceIte, i10, i00, i0l, im1, iml, iml', ib0, ib1, Int32.add_zero, nI_1, Bool.false_eq_true, Nat.add_zero] at this ⊢
      exact this
    · have hn : 0 ≤ σ 58 0 j := z_not_lt.mp q
      rcases hf with ⟨rfl, rfl⟩ | ⟨rfl, rfl⟩
      · rw [show heldB σ j = true by simp [heldB, hn]] at this
        simp only [if_neg q, if_true, if_false, reduceIte, i10, i00, i0l, im1, iml, iml', ib0, ib1, nI_1] at this ⊢
        exact this
      · rw [if_neg q, if_neg (show ¬ (4 : Int32) = 3 by decide)]
        by_cases q2 : σ 59 0 j = 0
        · rw [show voidB σ j = false by simp [voidB, q2]] at this
          simp only [if_pos q2, if_true, if_false, reduceIte, i10, i00, i0l, im1, iml, iml', ib0, ib1, Int32.add_zero, nI_1, Bool.false_eq_true, Nat.add_zero] at this ⊢
          exact this
        · rw [show voidB σ j = true by simp [voidB, hn, q2]] at this
          simp only [if_neg q2, if_true, if_false, reduceIte, i10, i00, i0l, im1, iml, iml', ib0, ib1, nI_1] at this ⊢
          exact this
theorem ok_count : sim_count gI := by
  intro L ad σ ⟨nO, nP, nL, S, hJ⟩ a1
  obtain ⟨h1, h2, h3, h4, h5, h6, h7, h8, h9, h10, h11, h12, h13, h14, h15⟩ := id hJ
  obtain ⟨⟨hO, hP, hL⟩, ⟨m1, m2, m3⟩, ⟨x1, x2, x3⟩⟩ := id h1
  have hI : gI L ad σ := ⟨nO, nP, nL, S, hJ⟩
  unfold f_X8_count f_X9_count f_X9_count_P55 f_X9_voted
  by_cases q0 : a1 = 0
  · exact ⟨nI nO, by rw [if_pos q0, x1], by rw [if_pos q0, m1], hI⟩
  by_cases q1 : a1 = 1
  · exact ⟨nI nP, by rw [if_neg q0, if_pos q1, x2], by rw [if_neg q0, if_pos q1, m2], hI⟩
  by_cases q2 : a1 = 2
  · exact ⟨nI nL, by rw [if_neg q0, if_neg q1, if_pos q2, x3], by rw [if_neg q0, if_neg q1, if_pos q2, m3], hI⟩
  by_cases q3 : a1 = 3
  · refine ⟨nI (cntN (heldB σ) 4800), by rw [if_neg q0, if_neg q1, if_neg q2, if_pos q3, h12.1], ?_, hI⟩
    rw [if_neg q0, if_neg q1, if_neg q2, if_pos q3]
    exact m_count (Or.inl ⟨q3, rfl⟩) 4800 g_fuel 0 (by unfold g_fuel; omega) (by omega)
  by_cases q4 : a1 = 4
  · refine ⟨nI (cntN (voidB σ) 4800), by rw [if_neg q0, if_neg q1, if_neg q2, if_neg q3, if_pos q4, h12.2], ?_, hI⟩
    rw [if_neg q0, if_neg q1, if_neg q2, if_neg q3, if_pos q4]
    exact m_count (Or.inr ⟨q4, rfl⟩) 4800 g_fuel 0 (by unfold g_fuel; omega) (by omega)
  by_cases q5 : a1 = 5
  · refine ⟨nI (cntN (balB σ) 35), by rw [if_neg q0, if_neg q1, if_neg q2, if_neg q3, if_neg q4, if_pos q5, h13.2.2], ?_, hI⟩
    rw [if_neg q0, if_neg q1, if_neg q2, if_neg q3, if_neg q4, if_pos q5]
    rw [show f_X9_voted_L4 σ f_X9_voted_P33 g_fuel 0 0 = _ from m_voted 35 g_fuel 0 (by unfold g_fuel; omega) (by omega)]; rfl
  · exact ⟨-1, by rw [if_neg q0, if_neg q1, if_neg q2, if_neg q3, if_neg q4, if_neg q5], by rw [if_neg q0, if_neg q1, if_neg q2, if_neg q3, if_neg q4, if_neg q5], hI⟩
