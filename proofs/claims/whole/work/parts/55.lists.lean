/-! PURE: the lists -/
theorem cnt_eq {f g : Nat → Bool} {n : Nat} (h : ∀ j, j < n → g j = f j) : cntN g n = cntN f n := by
  induction n with
  | zero => rfl
  | succ n ih => simp only [cntN, ih (fun j hj => h j (by omega)), h n (by omega)]
theorem cnt_flip {f g : Nat → Bool} {n x : Nat} (hx : x < n) (h0 : f x = false) (h1 : g x = true) (h : ∀ j, j ≠ x → g j = f j) : cntN g n = cntN f n + 1 := by
  induction n with
  | zero => omega
  | succ n ih =>
    by_cases e : x = n
    · subst e
      have := cnt_eq (f := f) (g := g) (n := x) (fun j hj => h j (by omega))
      simp [cntN, h0, h1, this]
    · have := ih (by omega)
      simp only [cntN, this, h n (by omega)]
      omega
theorem cnt_le (f : Nat → Bool) (n : Nat) : cntN f n ≤ n := by
  induction n with
  | zero => exact Nat.le_refl _
  | succ n ih => simp only [cntN]; split <;> omega
theorem ix_lt {o y s : Nat} (ho : o < 8) (hy : y < 200) (hs : s < 3) : ixl o y s < 4800 := by unfold ixl; omega
theorem ix_inj {o y s o' y' s' : Nat} (hy : y < 200) (hs : s < 3) (hy' : y' < 200) (hs' : s' < 3) (h : ixl o y s = ixl o' y' s') : o = o' ∧ y = y' ∧ s = s' := by unfold ixl at h; omega
theorem ix_off {o y s : Nat} (hy : y < 200) (hs : s < 3) : ixl o y s / 600 = o := by unfold ixl; omega
theorem cd_lt {y s k : Nat} (hy : y < 200) (hs : s < k) : y * k + s < 200 * k := by
  have : (y + 1) * k ≤ 200 * k := Nat.mul_le_mul_right k (by omega)
  rw [Nat.add_mul] at this
  omega
theorem cd_inj {y s y' s' k : Nat} (hk : k ≤ 3) (hs : s < k) (hs' : s' < k) (h : y * k + s = y' * k + s') : y = y' ∧ s = s' := by
  rcases (show k = 1 ∨ k = 2 ∨ k = 3 by omega) with e | e | e <;> subst e <;> omega
section
variable {nO nP nL : Nat} {S : Nat → Nat} {L : gL} {ad : gA} {σ : gS}
theorem x_code (h3 : J_off nO S ad σ) (h10 : J_code nO S σ) {o y s : Nat} (ho : o < nO) (hy : y < 200) (hs : s < S o) : f_X3_code ad σ o (nI y) (nI s) = some (xcode (σ 58 0 (ixl o y s)) (σ 59 0 (ixl o y s))) := by
  obtain ⟨hS, -, -, e3, -, e33⟩ := h3 o ho
  have hlt := cd_lt hy hs
  unfold f_X3_code
  rw [e3, pk_mul, nI_add, if_pos, nI_clamp (by omega), h10 o y s ho hy hs]
  rw [z_ix (by omega), e33]
  exact hlt
/-- a seat: empty, or held -/
theorem x_seatv (hO : nO ≤ 8) (hP : nP ≤ 24) (h3 : J_off nO S ad σ) (h8 : J_seat nO nP S σ) (h10 : J_code nO S σ) {o y s : Nat} (ho : o < nO) (hy : y < 200) (hs : s < S o) :
    (σ 58 0 (ixl o y s) = -1 ∧ σ 59 0 (ixl o y s) = 0 ∧ f_X3_code ad σ o (nI y) (nI s) = some (-1)) ∨
    ∃ p, p < nP ∧ σ 58 0 (ixl o y s) = nI p ∧ σ 60 0 (200 * p + y) = nI (ixl o y s) ∧ ((σ 59 0 (ixl o y s) = 0 ∧ f_X3_code ad σ o (nI y) (nI s) = some (nI p)) ∨ (σ 59 0 (ixl o y s) = 1 ∧ f_X3_code ad σ o (nI y) (nI s) = some (nI (p + 100)))) := by
  have hS := (h3 o ho).1
  have hc := x_code h3 h10 ho hy hs
  rcases h8 o y s (by omega) hy (by omega) with ⟨e1, e2⟩ | ⟨-, -, p, hp, e1, e2, e3⟩
  · refine Or.inl ⟨e1, e2, ?_⟩
    rw [hc, e1, xcode, if_pos (by decide)]
  · refine Or.inr ⟨p, hp, e1, e2, ?_⟩
    rcases e3 with e3 | e3
    · refine Or.inl ⟨e3, ?_⟩
      rw [hc, e1, e3, xcode, if_neg (nI_pos (by omega)), if_pos rfl]
    · refine Or.inr ⟨e3, ?_⟩
      rw [hc, e1, e3, xcode, if_neg (nI_pos (by omega)), if_neg (by decide), z_100, nI_add]
/-- a post: none, or that of a seat -/
theorem x_postv (hO : nO ≤ 8) (hP : nP ≤ 24) (h3 : J_off nO S ad σ) (h8 : J_seat nO nP S σ) (h9 : J_place nO nP S σ) (h11 : J_post nP σ) {p y : Nat} (hp : p < nP) (hy : y < 200) :
    (σ 60 0 (200 * p + y) = -1 ∧ σ 24 p y = -1) ∨
    ∃ o s, o < nO ∧ s < S o ∧ σ 60 0 (200 * p + y) = nI (ixl o y s) ∧ σ 58 0 (ixl o y s) = nI p ∧ ((σ 59 0 (ixl o y s) = 0 ∧ σ 24 p y = nI o) ∨ (σ 59 0 (ixl o y s) = 1 ∧ σ 24 p y = nI (o + 100))) := by
  have hc := h11 p y hp hy
  rcases h9 p y (by omega) hy with e | ⟨-, o, s, ho, hs, e1, e2⟩
  · refine Or.inl ⟨e, ?_⟩
    rw [hc, e, pcode, if_pos (by decide)]
  · refine Or.inr ⟨o, s, ho, hs, e1, e2, ?_⟩
    have hS := (h3 o ho).1
    have hx := ix_lt (o := o) (y := y) (s := s) (by omega) hy (by omega)
    have hx6 := ix_off (o := o) (y := y) (s := s) hy (by omega)
    have hbo : g_bo (σ 59 0 (ixl o y s)) := by
      rcases h8 o y s (by omega) hy (by omega) with ⟨e3, e4⟩ | ⟨-, -, p', -, -, -, e5⟩
      · exact Or.inl e4
      · exact e5
    rw [e1, nI_clamp (by omega), pcode, if_neg (nI_pos (by omega)), show (600 : Int32) = nI 600 from rfl, pk_div (by omega) (by omega) (by omega), hx6] at hc
    rcases hbo with hbo | hbo
    · refine Or.inl ⟨hbo, ?_⟩
      rw [hc, if_pos hbo]
    · refine Or.inr ⟨hbo, ?_⟩
      rw [hc, if_neg (by rw [hbo]; decide), z_100, nI_add]
end
theorem x_hold {p : Nat} (hp : p < 100) : nI (p + 100) - nI (p + 100) / (100 : Int32) * (100 : Int32) = nI p := by
  rw [z_100, pk_rem (by omega) (by omega) (by omega)]
  rw [show (p + 100) % 100 = p by omega]
theorem x_hold0 {p : Nat} (hp : p < 100) : nI p - nI p / (100 : Int32) * (100 : Int32) = nI p := by
  rw [z_100, pk_rem (by omega) (by omega) (by omega)]
  rw [show p % 100 = p by omega]
theorem m_at {ad : gA} {σ : gS} (o y s : Nat) : f_X9_at ad σ (nI o) (nI y) (nI s) = some (nI (ixl o y s)) := by
  unfold f_X9_at ixl
  rw [z_200, z_3, pk_mul, nI_add, pk_mul, nI_add]
theorem ok_seat : sim_seat gI := by
  intro L ad σ ⟨nO, nP, nL, S, hJ⟩ a1 a2 a3
  obtain ⟨h1, h2, h3, h4, h5, h6, h7, h8, h9, h10, h11, h12, h13, h14, h15⟩ := id hJ
  obtain ⟨⟨hO, hP, hL⟩, ⟨m1, m2, m3⟩, ⟨x1, x2, x3⟩⟩ := id h1
  have hI : gI L ad σ := ⟨nO, nP, nL, S, hJ⟩
  rcases x_seat hJ a1 a2 a3 with ⟨hx, hm⟩ | ⟨o, y, s, ho, hy, hs, rfl, rfl, rfl, hx, hm⟩
  · refine ⟨-1, ?_, ?_, hI⟩
    · unfold f_X8_seat; rw [hx]; rfl
    · unfold f_X9_seat; rw [hm]; rfl
  have hS := (h3 o ho).1
  have e25 := h2.1 o ho
  have hix := ix_lt (o := o) (y := y) (s := s) (by omega) hy (by omega)
  have px := (z_ix (n := 8) (show o < 2147483648 by omega)).mpr (by omega)
  have pq := (z_ix (n := 4800) (show ixl o y s < 2147483648 by omega)).mpr (by omega)
  rcases x_seatv hO hP h3 h8 h10 ho hy hs with ⟨e1, e2, e3⟩ | ⟨p, hp, e1, e2, e3⟩
  · refine ⟨-2, ?_, ?_, hI⟩
    · unfold f_X8_seat; rw [hx]
      simp only [Option.bind_some, if_true, if_false, reduceIte, i10, i00, i0l, im1, iml, iml', ib0, ib1, if_pos px, z_clamp (show o < 2147483648 by omega), e25, e3]
    · unfold f_X9_seat; rw [hm, m_at]
      simp only [Option.bind_some, if_true, if_false, reduceIte, i10, i00, i0l, im1, iml, iml', ib0, ib1, if_pos pq, z_clamp (show ixl o y s < 2147483648 by omega), e1]
  · rcases e3 with ⟨e3, e4⟩ | ⟨e3, e4⟩
    · refine ⟨nI p, ?_, ?_, hI⟩
      · unfold f_X8_seat; rw [hx]
        simp only [Option.bind_some, if_true, if_false, reduceIte, i10, i00, i0l, im1, iml, iml', ib0, ib1, if_pos px, z_clamp (show o < 2147483648 by omega), e25, e4, z_eqm1 (show p < 2147483648 by omega)]
      · unfold f_X9_seat; rw [hm, m_at]
        simp only [Option.bind_some, if_true, if_false, reduceIte, i10, i00, i0l, im1, iml, iml', ib0, ib1, if_pos pq, z_clamp (show ixl o y s < 2147483648 by omega), e1, e3, z_0le (show p < 2147483648 by omega), Int32.add_zero]
    · refine ⟨nI (p + 100), ?_, ?_, hI⟩
      · unfold f_X8_seat; rw [hx]
        simp only [Option.bind_some, if_true, if_false, reduceIte, i10, i00, i0l, im1, iml, iml', ib0, ib1, if_pos px, z_clamp (show o < 2147483648 by omega), e25, e4, z_eqm1 (show p + 100 < 2147483648 by omega)]
      · unfold f_X9_seat; rw [hm, m_at]
        simp only [Option.bind_some, if_true, if_false, reduceIte, i10, i00, i0l, im1, iml, iml', ib0, ib1, if_pos pq, z_clamp (show ixl o y s < 2147483648 by omega), e1, e3, z_0le (show p < 2147483648 by omega), z_100, nI_add]
theorem ok_holds : sim_holds gI := by
  intro L ad σ ⟨nO, nP, nL, S, hJ⟩ a1 a2
  obtain ⟨h1, h2, h3, h4, h5, h6, h7, h8, h9, h10, h11, h12, h13, h14, h15⟩ := id hJ
  obtain ⟨⟨hO, hP, hL⟩, ⟨m1, m2, m3⟩, ⟨x1, x2, x3⟩⟩ := id h1
  have hI : gI L ad σ := ⟨nO, nP, nL, S, hJ⟩
  rcases z_cases a1 (n := nP) (by omega) with h | ⟨p, h, rfl⟩
  · refine ⟨-1, ?_, ?_, hI⟩
    · unfold f_X8_holds; rw [x_per0 x2 h]; rfl
    · unfold f_X9_holds; rw [m_per0 (by omega) m2 h]; rfl
  rcases z_cases a2 (n := 200) (by omega) with hy | ⟨y, hy, rfl⟩
  · refine ⟨-1, ?_, ?_, hI⟩
    · unfold f_X8_holds; rw [x_per1 (by omega) x2 h, x_year0 hy]; rfl
    · unfold f_X9_holds; rw [m_per1 (by omega) m2 h, m_year0 hy]; rfl
  have e26 := h2.2.1 p h
  have px := (z_ix (n := 24) (show p < 2147483648 by omega)).mpr (by omega)
  have py := (z_ix (n := 200) (show y < 2147483648 by omega)).mpr (by omega)
  have pq := (z_ix (n := 4800) (show 200 * p + y < 2147483648 by omega)).mpr (by omega)
  rcases x_postv hO hP h3 h8 h9 h11 h hy with ⟨e1, e2⟩ | ⟨o, s, ho, hs, e1, e2, e3⟩
  · refine ⟨-2, ?_, ?_, hI⟩
    · unfold f_X8_holds; rw [x_per1 (by omega) x2 h, x_year1 hy]
      simp only [Option.bind_some, if_true, if_false, reduceIte, i10, i00, i0l, im1, iml, iml', ib0, ib1, if_pos px, if_pos py, z_clamp (show p < 2147483648 by omega), z_clamp (show y < 2147483648 by omega), e26, e2]
    · unfold f_X9_holds; rw [m_per1 (by omega) m2 h, m_year1 hy]
      simp only [Option.bind_some, if_true, if_false, reduceIte, i10, i00, i0l, im1, iml, iml', ib0, ib1, z_200, pk_mul, nI_add, if_pos pq, z_clamp (show 200 * p + y < 2147483648 by omega), e1]
  · have hS := (h3 o ho).1
    have hix := ix_lt (o := o) (y := y) (s := s) (by omega) hy (by omega)
    refine ⟨nI o, ?_, ?_, hI⟩
    · unfold f_X8_holds; rw [x_per1 (by omega) x2 h, x_year1 hy]
      rcases e3 with ⟨e3, e4⟩ | ⟨e3, e4⟩
      · simp only [Option.bind_some, if_true, if_false, reduceIte, i10, i00, i0l, im1, iml, iml', ib0, ib1, if_pos px, if_pos py, z_clamp (show p < 2147483648 by omega), z_clamp (show y < 2147483648 by omega), e26, e4, z_eqm1 (show o < 2147483648 by omega), x_hold0 (show o < 100 by omega)]
      · simp only [Option.bind_some, if_true, if_false, reduceIte, i10, i00, i0l, im1, iml, iml', ib0, ib1, if_pos px, if_pos py, z_clamp (show p < 2147483648 by omega), z_clamp (show y < 2147483648 by omega), e26, e4, z_eqm1 (show o + 100 < 2147483648 by omega), x_hold (show o < 100 by omega)]
    · unfold f_X9_holds f_X9_officeAt; rw [m_per1 (by omega) m2 h, m_year1 hy]
      simp only [Option.bind_some, if_true, if_false, reduceIte, i10, i00, i0l, im1, iml, iml', ib0, ib1, z_200, pk_mul, nI_add, if_pos pq, z_clamp (show 200 * p + y < 2147483648 by omega), e1, z_0le (show ixl o y s < 2147483648 by omega), show (600 : Int32) = nI 600 from rfl, pk_div (show ixl o y s < 2147483648 by omega) (show 0 < 600 by omega) (show 600 < 2147483648 by omega), ix_off hy (show s < 3 by omega)]
