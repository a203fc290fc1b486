/-! PURE: empty, annul -/
theorem x_isvoid {nP : Nat} {ad : gA} {σ : gS} (hP : nP ≤ 24) {o y s p : Nat} (hp : p < nP) (e : (σ 59 0 (ixl o y s) = 0 ∧ f_X3_code ad σ o (nI y) (nI s) = some (nI p)) ∨ (σ 59 0 (ixl o y s) = 1 ∧ f_X3_code ad σ o (nI y) (nI s) = some (nI (p + 100)))) : f_X3_isVoid ad σ o (nI y) (nI s) = some (σ 59 0 (ixl o y s)) ∧ f_X3_holder ad σ o (nI y) (nI s) = some (nI p) := by
  unfold f_X3_isVoid f_X3_holder
  rcases e with ⟨e1, e2⟩ | ⟨e1, e2⟩
  · rw [e2, e1]
    simp only [Option.bind_some, z_100, z_lt (show p < 2147483648 by omega) (show 100 < 2147483648 by omega), if_pos (show p < 100 by omega), z_eqm1 (show p < 2147483648 by omega), if_false]
    exact ⟨trivial, congrArg some (x_hold0 (by omega))⟩
  · rw [e2, e1]
    simp only [Option.bind_some, z_100, z_lt (show p + 100 < 2147483648 by omega) (show 100 < 2147483648 by omega), if_neg (show ¬ p + 100 < 100 by omega), z_eqm1 (show p + 100 < 2147483648 by omega), if_false]
    exact ⟨trivial, congrArg some (x_hold (by omega))⟩
theorem ok_empty : sim_empty gI := by
  intro L ad σ ⟨nO, nP, nL, S, hJ⟩ a1 a2 a3
  obtain ⟨h1, h2, h3, h4, h5, h6, h7, h8, h9, h10, h11, h12, h13, h14, h15⟩ := id hJ
  obtain ⟨⟨hO, hP, hL⟩, ⟨m1, m2, m3⟩, ⟨x1, x2, x3⟩⟩ := id h1
  rcases x_seat hJ a1 a2 a3 with ⟨hx, hm⟩ | ⟨o, y, s, ho, hy, hs, rfl, rfl, rfl, hx, hm⟩
  · refine ⟨-1, σ, σ, ?_, ?_, nO, nP, nL, S, hJ⟩
    · unfold f_X8_empty; rw [hx]; rfl
    · unfold f_X9_empty; rw [hm]; rfl
  have hS := (h3 o ho).1
  have e25 := h2.1 o ho
  have hix := ix_lt (o := o) (y := y) (s := s) (by omega) hy (by omega)
  have po := (z_ix (n := 8) (show o < 2147483648 by omega)).mpr (by omega)
  have py := (z_ix (n := 200) (show y < 2147483648 by omega)).mpr (by omega)
  have pq := (z_ix (n := 4800) (show ixl o y s < 2147483648 by omega)).mpr (by omega)
  rcases x_seatv hO hP h3 h8 h10 ho hy hs with ⟨e1, e2, e3⟩ | ⟨p, hp, e1, e2, e3⟩
  · refine ⟨-3, σ, σ, ?_, ?_, nO, nP, nL, S, hJ⟩
    · unfold f_X8_empty f_X3_holder; rw [hx]
      simp only [Option.bind_some, if_true, if_false, reduceIte, i10, i00, i0l, im1, iml, iml', ib0, ib1, if_pos po, z_clamp (show o < 2147483648 by omega), e25, e3]
    · unfold f_X9_empty; rw [hm, m_at]
      simp only [Option.bind_some, if_true, if_false, reduceIte, i10, i00, i0l, im1, iml, iml', ib0, ib1, if_pos pq, z_clamp (show ixl o y s < 2147483648 by omega), e1]
  obtain ⟨v1, v2⟩ := x_isvoid hP hp e3
  have e26 := h2.2.1 p hp
  have pp := (z_ix (n := 24) (show p < 2147483648 by omega)).mpr (by omega)
  have pr := (z_ix (n := 4800) (show 200 * p + y < 2147483648 by omega)).mpr (by omega)
  have c1 := cnt_le (voidB σ) 4800
  -- the class's vacate
  have hv : ∀ τ : gS, J_ref nO nP nL τ → J_off nO S ad τ → f_X6_vacate_P25 ad (nI p) (nI o) (nI y) (nI s) τ = some (xvac S τ p o y s) := by
    intro τ t2 t3
    unfold f_X6_vacate_P25
    simp only [if_pos po, z_clamp (show o < 2147483648 by omega), t2.1 o ho, if_true, if_false, reduceIte, i10, i00, i0l, im1, iml, iml', ib0, ib1, x_setCode t3 ho hy hs, Option.bind_some, if_pos pp, z_clamp (show p < 2147483648 by omega), if_pos py, z_clamp (show y < 2147483648 by omega), g_let, z_b1, z_b1']
    rw [show g_up τ 23 o (y * S o + s) (-1) 26 0 p = 0 from t2.2.1 p hp]
    rfl
  have hmm : ∀ τ : gS, τ 58 0 (ixl o y s) = nI p → f_X9_isSeat ad τ (nI o) (nI y) (nI s) = some 1 → f_X9_empty ad τ (nI o) (nI y) (nI s) = some (nI p, mvac τ p o y s) := by
    intro τ t1 t2
    unfold f_X9_empty f_X9_clear; rw [t2, m_at]
    simp only [Option.bind_some, if_true, if_false, reduceIte, i10, i00, i0l, im1, iml, iml', ib0, ib1, if_pos pq, z_clamp (show ixl o y s < 2147483648 by omega), t1, z_0le (show p < 2147483648 by omega), z_200, pk_mul, nI_add, if_pos pr, z_clamp (show 200 * p + y < 2147483648 by omega), g_let, z_bo m_bo0]
    rfl
  have hseat : ∀ τ : gS, τ 9 = σ 9 → τ 44 = σ 44 → f_X9_isSeat ad τ (nI o) (nI y) (nI s) = some 1 := by
    intro τ t1 t2
    rw [← hm]
    unfold f_X9_isSeat f_X9_isOffice f_X9_isYear f_X9_in
    rw [t1, t2]
  rcases e3 with ⟨e3, e4⟩ | ⟨e3, e4⟩
  · have hj := J_vac hJ hp ho hy hs e1 e2 (d := 0) (by rw [if_pos e3, Int32.sub_zero, h12.2]; rfl)
    have hself : g_up σ 6 0 7 (σ 6 0 7 - 0) = σ := by
      funext K i j
      unfold g_up
      by_cases q : K = 6 ∧ i = 0 ∧ j = 7
      · rw [if_pos q, q.1, q.2.1, q.2.2, Int32.sub_zero]
      · rw [if_neg q]
    rw [hself] at hj
    refine ⟨nI p, xvac S σ p o y s, _, ?_, ?_, nO, nP, nL, S, hj⟩
    · unfold f_X8_empty f_X6_vacate; rw [hx]
      simp only [Option.bind_some, if_true, if_false, reduceIte, i10, i00, i0l, im1, iml, iml', ib0, ib1, if_pos po, z_clamp (show o < 2147483648 by omega), e25, v2, z_eqm1 (show p < 2147483648 by omega), v1, e3, hv σ h2 h3]
    · exact hmm _ e1 (hseat _ rfl rfl)
  · have hj := J_vac hJ hp ho hy hs e1 e2 (d := 1) (by
      rw [if_neg (by rw [e3]; decide), h12.2]
      have hpos : 0 < cntN (voidB σ) 4800 := by
        have := cnt_flip (f := fun j => if j = ixl o y s then false else voidB σ j) (g := voidB σ) (n := 4800) (x := ixl o y s) hix (by simp) (by simp [voidB, e1, e3, z_0le (show p < 2147483648 by omega)]) (fun j hj => by simp [hj])
        omega
      obtain ⟨c, hc⟩ : ∃ c, cntN (voidB σ) 4800 = c + 1 := ⟨cntN (voidB σ) 4800 - 1, by omega⟩
      rw [hc, nI_pred]; rfl)
    refine ⟨nI p, xvac S (g_up σ 6 0 7 (σ 6 0 7 - 1)) p o y s, _, ?_, ?_, nO, nP, nL, S, hj⟩
    · unfold f_X8_empty f_X6_vacate; rw [hx]
      simp only [Option.bind_some, if_true, if_false, reduceIte, i10, i00, i0l, im1, iml, iml', ib0, ib1, if_pos po, z_clamp (show o < 2147483648 by omega), e25, v2, z_eqm1 (show p < 2147483648 by omega), v1, e3, g_let, hv (g_up σ 6 0 7 (σ 6 0 7 - 1)) (K_ref rfl rfl rfl rfl h2) (K_off rfl rfl rfl h3)]
    · exact hmm _ e1 (hseat _ (by simp [xvac, up_K, g_up]) rfl)
theorem ok_annul : sim_annul gI := by
  intro L ad σ ⟨nO, nP, nL, S, hJ⟩ a1 a2 a3 a4 hb4
  obtain ⟨h1, h2, h3, h4, h5, h6, h7, h8, h9, h10, h11, h12, h13, h14, h15⟩ := id hJ
  obtain ⟨⟨hO, hP, hL⟩, ⟨m1, m2, m3⟩, ⟨x1, x2, x3⟩⟩ := id h1
  rcases x_seat hJ a1 a2 a3 with ⟨hx, hm⟩ | ⟨o, y, s, ho, hy, hs, rfl, rfl, rfl, hx, hm⟩
  · refine ⟨-1, σ, σ, ?_, ?_, nO, nP, nL, S, hJ⟩
    · unfold f_X8_annul; rw [hx]; rfl
    · unfold f_X9_annul; rw [hm]; rfl
  have hS := (h3 o ho).1
  have e25 := h2.1 o ho
  have hix := ix_lt (o := o) (y := y) (s := s) (by omega) hy (by omega)
  have po := (z_ix (n := 8) (show o < 2147483648 by omega)).mpr (by omega)
  have py := (z_ix (n := 200) (show y < 2147483648 by omega)).mpr (by omega)
  have pq := (z_ix (n := 4800) (show ixl o y s < 2147483648 by omega)).mpr (by omega)
  rcases x_seatv hO hP h3 h8 h10 ho hy hs with ⟨e1, e2, e3⟩ | ⟨p, hp, e1, e2, e3⟩
  · refine ⟨-3, σ, σ, ?_, ?_, nO, nP, nL, S, hJ⟩
    · unfold f_X8_annul f_X3_holder; rw [hx]
      simp only [Option.bind_some, if_true, if_false, reduceIte, i10, i00, i0l, im1, iml, iml', ib0, ib1, if_pos po, z_clamp (show o < 2147483648 by omega), e25, e3]
    · unfold f_X9_annul; rw [hm, m_at]
      simp only [Option.bind_some, if_true, if_false, reduceIte, i10, i00, i0l, im1, iml, iml', ib0, ib1, if_pos pq, z_clamp (show ixl o y s < 2147483648 by omega), e1]
  obtain ⟨v1, v2⟩ := x_isvoid hP hp e3
  have e26 := h2.2.1 p hp
  have pp := (z_ix (n := 24) (show p < 2147483648 by omega)).mpr (by omega)
  have hseat : ∀ τ : gS, τ 9 = σ 9 → τ 44 = σ 44 → f_X9_isSeat ad τ (nI o) (nI y) (nI s) = some 1 := by
    intro τ t1 t2
    rw [← hm]
    unfold f_X9_isSeat f_X9_isOffice f_X9_isYear f_X9_in
    rw [t1, t2]
  have hmm : ∀ τ : gS, τ 58 0 (ixl o y s) = nI p → f_X9_isSeat ad τ (nI o) (nI y) (nI s) = some 1 → f_X9_annul ad τ (nI o) (nI y) (nI s) a4 = some (if τ 59 0 (ixl o y s) = a4 then 0 else 1, mmark τ o y s a4) := by
    intro τ t1 t2
    unfold f_X9_annul; rw [t2, m_at]
    simp only [Option.bind_some, if_true, if_false, reduceIte, i10, i00, i0l, im1, iml, iml', ib0, ib1, if_pos pq, z_clamp (show ixl o y s < 2147483648 by omega), t1, z_0le (show p < 2147483648 by omega), g_let, z_bo hb4]
    by_cases q : τ 59 0 (ixl o y s) = a4
    · simp only [if_pos q]; rfl
    · simp only [if_neg q]; rfl
  by_cases hq : σ 59 0 (ixl o y s) = a4
  · have hself : mmark σ o y s a4 = σ := by
      funext K i j
      unfold mmark g_up
      by_cases q : K = 59 ∧ i = 0 ∧ j = ixl o y s
      · rw [if_pos q, q.1, q.2.1, q.2.2, hq]
      · rw [if_neg q]
    refine ⟨0, σ, σ, ?_, ?_, nO, nP, nL, S, hJ⟩
    · unfold f_X8_annul; rw [hx]
      simp only [Option.bind_some, if_true, if_false, reduceIte, i10, i00, i0l, im1, iml, iml', ib0, ib1, if_pos po, z_clamp (show o < 2147483648 by omega), e25, v2, z_eqm1 (show p < 2147483648 by omega), v1, if_pos hq]
    · rw [hmm σ e1 hm, if_pos hq, hself]
  · have hk : ∀ (c : Nat) (d : Int32), c ≤ 100 → (a4 = 0 → d = -1) → (¬ a4 = 0 → d = 1) → f_X6_mark_P11 ad (nI p) (nI o) (nI y) (nI s) a4 σ (nI c) = some (xmark S σ p o y s c d) := by
      intro c d hc hd0 hd1
      unfold f_X6_mark_P11
      simp only [if_pos po, z_clamp (show o < 2147483648 by omega), e25, if_true, if_false, reduceIte, i10, i00, i0l, im1, iml, iml', ib0, ib1, x_setCode h3 ho hy hs, Option.bind_some, if_pos pp, z_clamp (show p < 2147483648 by omega), if_pos py, z_clamp (show y < 2147483648 by omega), g_let, nI_add, z_b (p + c) (by omega), z_b (o + c) (by omega)]
      rw [show g_up σ 23 o (y * S o + s) (nI (p + c)) 26 0 p = 0 from e26, i0l]
      by_cases q : a4 = 0
      · rw [if_pos q, hd0 q]; rfl
      · rw [if_neg q, hd1 q]; rfl
    rcases hb4 with h0 | h0
    · have e59 : σ 59 0 (ixl o y s) = 1 := by
        rcases e3 with ⟨e3, -⟩ | ⟨e3, -⟩
        · rw [e3, h0] at hq; exact absurd rfl hq
        · exact e3
      have hj := J_mark hJ hp ho hy hs e1 e2 (c := 0) (v := a4) (d := -1) (Or.inl ⟨h0, rfl, rfl, e59⟩)
      refine ⟨1, xmark S σ p o y s 0 (-1), _, ?_, ?_, nO, nP, nL, S, hj⟩
      · unfold f_X8_annul f_X6_mark; rw [hx]
        simp only [Option.bind_some, if_true, if_false, reduceIte, i10, i00, i0l, im1, iml, iml', ib0, ib1, if_pos po, z_clamp (show o < 2147483648 by omega), e25, v2, z_eqm1 (show p < 2147483648 by omega), v1, if_neg hq, if_pos h0]
        rw [show (0 : Int32) = nI 0 from rfl, hk 0 (-1) (by omega) (fun _ => rfl) (fun h => absurd h0 h)]; rfl
      · rw [hmm _ (show xmark S σ p o y s 0 (-1) 58 0 (ixl o y s) = nI p from e1) (hseat _ rfl rfl), if_neg (show ¬ xmark S σ p o y s 0 (-1) 59 0 (ixl o y s) = a4 from hq)]
    · have e59 : σ 59 0 (ixl o y s) = 0 := by
        rcases e3 with ⟨e3, -⟩ | ⟨e3, -⟩
        · exact e3
        · rw [e3, h0] at hq; exact absurd rfl hq
      have hj := J_mark hJ hp ho hy hs e1 e2 (c := 100) (v := a4) (d := 1) (Or.inr ⟨h0, rfl, rfl, e59⟩)
      refine ⟨1, xmark S σ p o y s 100 1, _, ?_, ?_, nO, nP, nL, S, hj⟩
      · unfold f_X8_annul f_X6_mark; rw [hx]
        simp only [Option.bind_some, if_true, if_false, reduceIte, i10, i00, i0l, im1, iml, iml', ib0, ib1, if_pos po, z_clamp (show o < 2147483648 by omega), e25, v2, z_eqm1 (show p < 2147483648 by omega), v1, if_neg hq, if_neg (show ¬ a4 = 0 by rw [h0]; decide), z_100]
        rw [hk 100 1 (by omega) (fun h => absurd (h0.symm.trans h) (by decide)) (fun _ => rfl)]; rfl
      · rw [hmm _ (show xmark S σ p o y s 100 1 58 0 (ixl o y s) = nI p from e1) (hseat _ rfl rfl), if_neg (show ¬ xmark S σ p o y s 100 1 59 0 (ixl o y s) = a4 from hq)]
