/-! PURE: keep -/
section
variable {nO nP nL : Nat} {S : Nat → Nat} {L : gL} {ad : gA} {σ : gS}
theorem kp_J0 (hJ : gJ nO nP nL S L ad σ) {d : Nat} (hd : d < 8) (k s : Int32) : gJ nO nP nL S L ad (kpM (bec σ d 0 0) d 0 k s) := by
  have h14 := hJ.2.2.2.2.2.2.2.2.2.2.2.2.2.1
  refine sh_new hJ (d := d) (fun K hK => by rw [kp_K (by omega), bec_K (by omega)]) (fun x hx => ⟨?_, ?_, ?_, ?_, ?_, ?_⟩) (fun x hx => ?_) ?_ (fun q hq => ?_)
  · rw [kp_K (by omega), bec_o hx]
  · rw [kp_K (by omega), bec_K (by omega)]
  · rw [kp_K (by omega), bec_K (by omega)]
  · rw [kp_80, if_neg hx, bec_K (by omega)]
  · rw [kp_81, if_neg hx, bec_K (by omega)]
  · rw [kp_82, if_neg hx, bec_K (by omega)]
  · rw [kp_83, if_neg (by omega), bec_K (by omega)]
  · unfold J_sh1
    rw [kp_K (show 7 < 80 by omega), bec_0, bec_1, kp_80, if_pos rfl]
    exact ⟨rfl, Or.inl ⟨rfl, rfl⟩⟩
  · rw [kp_K (by omega), bec_K (by omega)]
    exact h14.2 d q hd hq
theorem kp_J1 (hJ : gJ nO nP nL S L ad σ) {d l : Nat} (hd : d < 8) (hl : l < nL) : gJ nO nP nL S L ad (kpM (g_up (bec σ d 1 0) 7 d 1 (nI l)) d 1 (nI l) 5) := by
  have h14 := hJ.2.2.2.2.2.2.2.2.2.2.2.2.2.1
  refine sh_new hJ (d := d) (fun K hK => by rw [kp_K (by omega), up_K (by omega), bec_K (by omega)]) (fun x hx => ⟨?_, ?_, ?_, ?_, ?_, ?_⟩) (fun x hx => ?_) ?_ (fun q hq => ?_)
  · rw [kp_K (by omega)]
    funext j
    rw [up_i hx, bec_o hx]
  · rw [kp_K (by omega), up_K (by omega), bec_K (by omega)]
  · rw [kp_K (by omega), up_K (by omega), bec_K (by omega)]
  · rw [kp_80, if_neg hx, up_K (by omega), bec_K (by omega)]
  · rw [kp_81, if_neg hx, up_K (by omega), bec_K (by omega)]
  · rw [kp_82, if_neg hx, up_K (by omega), bec_K (by omega)]
  · rw [kp_83, if_neg (by omega), up_K (by omega), bec_K (by omega)]
  · unfold J_sh1
    rw [kp_K (show 7 < 80 by omega), up_s, up_j (by decide), bec_0, kp_80, if_pos rfl, kp_81, if_pos rfl]
    exact ⟨rfl, Or.inr (Or.inl ⟨rfl, l, hl, rfl, rfl⟩)⟩
  · rw [kp_K (by omega), up_K (by omega), bec_K (by omega)]
    exact h14.2 d q hd hq
theorem kp_J3 (hJ : gJ nO nP nL S L ad σ) {d o : Nat} (hd : d < 8) (ho : o < 8) : gJ nO nP nL S L ad (kp3 (khX σ d o) d o) := by
  obtain ⟨⟨hO, hP, hL⟩, -, -⟩ := hJ.1
  have h8 := hJ.2.2.2.2.2.2.2.1
  have tK : ∀ K, K < 80 → K ≠ 7 → K ≠ 28 → kp3 (khX σ d o) d o K = σ K := by
    intro K n1 n2 n3
    unfold kp3
    rw [row_K (by omega), kp_K n1]
    unfold khX
    rw [row_K n3, bec_K n2]
  have t7 : kp3 (khX σ d o) d o 7 = bec σ d 3 200 7 := by
    unfold kp3
    rw [row_K (by omega), kp_K (by omega)]
    unfold khX
    rw [row_K (by omega)]
  have t28 : kp3 (khX σ d o) d o 28 = khX σ d o 28 := by
    unfold kp3
    rw [row_K (by omega), kp_K (by omega)]
  have t28d : ∀ x, x < 200 → kp3 (khX σ d o) d o 28 d x = σ 58 0 (ixl o x 0) := by
    intro x hx
    rw [t28]
    unfold khX
    rw [row_s, if_pos (by omega)]
  have t80 : ∀ x, kp3 (khX σ d o) d o 80 0 x = if x = d then 3 else σ 80 0 x := by
    intro x
    unfold kp3
    rw [row_K (by omega), kp_80]
    unfold khX
    rw [row_K (by omega), bec_K (by omega)]
  have t81 : ∀ x, kp3 (khX σ d o) d o 81 0 x = if x = d then nI o else σ 81 0 x := by
    intro x
    unfold kp3
    rw [row_K (by omega), kp_81]
    unfold khX
    rw [row_K (by omega), bec_K (by omega)]
  have t82 : ∀ x, kp3 (khX σ d o) d o 82 0 x = if x = d then 200 else σ 82 0 x := by
    intro x
    unfold kp3
    rw [row_K (by omega), kp_82]
    unfold khX
    rw [row_K (by omega), bec_K (by omega)]
  have t83 : ∀ x, kp3 (khX σ d o) d o 83 0 x = if 200 * d ≤ x ∧ x < 200 * d + 200 then σ 58 0 (ixl o (x - 200 * d) 0) else σ 83 0 x := by
    intro x
    unfold kp3
    rw [row_s]
    by_cases q : 200 * d ≤ x ∧ x < 200 * d + 200
    · rw [if_pos (by omega), if_pos q, kp_K (by omega)]
      unfold khX
      rw [row_K (by omega), bec_K (by omega)]
    · rw [if_neg (by omega), if_neg q, kp_83, if_neg q]
      unfold khX
      rw [row_K (by omega), bec_K (by omega)]
  refine sh_new hJ (d := d) (fun K hK => tK K (by omega) (by omega) (by omega)) (fun x hx => ⟨?_, ?_, ?_, ?_, ?_, ?_⟩) (fun x hx => ?_) ?_ (fun q hq => ?_)
  · rw [t7, bec_o hx]
  · rw [t28]
    unfold khX
    rw [row_i hx, bec_K (by omega)]
  · rw [tK 29 (by omega) (by omega) (by omega)]
  · rw [t80, if_neg hx]
  · rw [t81, if_neg hx]
  · rw [t82, if_neg hx]
  · rw [t83, if_neg (by omega)]
  · unfold J_sh1
    rw [t7, bec_0, bec_1, bec_2, t80, if_pos rfl, t82, if_pos rfl]
    refine ⟨rfl, Or.inr (Or.inr (Or.inl ⟨rfl, rfl, 200, by omega, rfl, rfl, fun i hi => ?_⟩))⟩
    rw [t28d i hi, t83, if_pos (by omega), show 200 * d + i - 200 * d = i by omega]
  · rw [t28d q hq]
    exact fit_seat hP h8 ho hq
theorem kp_J4 (hJ : gJ nO nP nL S L ad σ) {d p : Nat} (hd : d < 8) (hp : p < nP) : gJ nO nP nL S L ad (kp4 (kpM (lfX (bec σ d 4 5) d p) d 4 (nI p) 5) d p) := by
  have h14 := hJ.2.2.2.2.2.2.2.2.2.2.2.2.2.1
  obtain ⟨p0, p1, p3, p4, p5, p6, p7⟩ := hJ.2.2.2.1 p hp
  have tK : ∀ K, K < 80 → K ≠ 7 → K ≠ 29 → kp4 (kpM (lfX (bec σ d 4 5) d p) d 4 (nI p) 5) d p K = σ K := by
    intro K n1 n2 n3
    rw [kp4_K (by omega), kp_K n1, lf_K n3, bec_K n2]
  have t7 : kp4 (kpM (lfX (bec σ d 4 5) d p) d 4 (nI p) 5) d p 7 = bec σ d 4 5 7 := by
    rw [kp4_K (by omega), kp_K (by omega), lf_K (by omega)]
  refine sh_new hJ (d := d) (fun K hK => tK K (by omega) (by omega) (by omega)) (fun x hx => ⟨?_, ?_, ?_, ?_, ?_, ?_⟩) (fun x hx => ?_) ?_ (fun q hq => ?_)
  · rw [t7, bec_o hx]
  · rw [tK 28 (by omega) (by omega) (by omega)]
  · rw [kp4_K (by omega), kp_K (by omega), lf_i hx, bec_K (by omega)]
  · rw [kp4_K (by omega), kp_80, if_neg hx, lf_K (by omega), bec_K (by omega)]
  · rw [kp4_K (by omega), kp_81, if_neg hx, lf_K (by omega), bec_K (by omega)]
  · rw [kp4_K (by omega), kp_82, if_neg hx, lf_K (by omega), bec_K (by omega)]
  · rw [kp4_o (by omega), kp_83, if_neg (by omega), lf_K (by omega), bec_K (by omega)]
  · unfold J_sh1
    rw [t7, bec_0, bec_1, bec_2, kp4_K (show 80 ≠ 83 by omega), kp_80, if_pos rfl, kp4_K (show 82 ≠ 83 by omega), kp_82, if_pos rfl]
    refine ⟨rfl, Or.inr (Or.inr (Or.inr ⟨rfl, rfl, 5, by omega, rfl, rfl, fun i hi => ?_⟩))⟩
    rw [kp4_K (show 29 ≠ 83 by omega), kp_K (by omega)]
    unfold kp4
    simp only [kp_K (show 47 < 80 by omega), kp_K (show 48 < 80 by omega), kp_K (show 50 < 80 by omega), kp_K (show 51 < 80 by omega), kp_K (show 52 < 80 by omega), lf_K (show 47 ≠ 29 by omega), lf_K (show 48 ≠ 29 by omega), lf_K (show 50 ≠ 29 by omega), lf_K (show 51 ≠ 29 by omega), lf_K (show 52 ≠ 29 by omega), bec_K (show 47 ≠ 7 by omega), bec_K (show 48 ≠ 7 by omega), bec_K (show 50 ≠ 7 by omega), bec_K (show 51 ≠ 7 by omega), bec_K (show 52 ≠ 7 by omega)]
    unfold lfX
    simp only [bec_K (show 5 ≠ 7 by omega), p3, p4, p5, p6, p7]
    rcases (show i = 0 ∨ i = 1 ∨ i = 2 ∨ i = 3 ∨ i = 4 by omega) with e | e | e | e | e <;> subst e <;> simp [g_up]
  · rw [tK 28 (by omega) (by omega) (by omega)]
    exact h14.2 d q hd hq
end
theorem ok_keep : sim_keep gI := by
  intro L ad σ ⟨nO, nP, nL, S, hJ⟩ a1 a2 a3
  obtain ⟨h1, h2, h3, h4, h5, h6, h7, h8, h9, h10, h11, h12, h13, h14, h15⟩ := id hJ
  obtain ⟨⟨hO, hP, hL⟩, ⟨m1, m2, m3⟩, ⟨x1, x2, x3⟩⟩ := id h1
  have no : ∀ r, f_X8_keep ad σ a1 a2 a3 = some (r, σ) → f_X9_keep ad σ a1 a2 a3 = some (r, σ) → ∃ (r : Int32) (σ1 : gS) (σ2 : gS), f_X8_keep ad σ a1 a2 a3 = some (r, σ1) ∧ f_X9_keep ad σ1 a1 a2 a3 = some (r, σ2) ∧ gI L ad σ2 := fun r t1 t2 => ⟨r, σ, σ, t1, t2, nO, nP, nL, S, hJ⟩
  have m62 : f_X9_keep_P62 ad a1 a2 a3 σ = some (-1, σ) := rfl
  rcases z_cases a1 (n := 8) (by omega) with h | ⟨d, hd, rfl⟩
  · refine no (-1) ?_ ?_
    · unfold f_X8_keep; rw [x_sh0 h]; rfl
    · unfold f_X9_keep; rw [m_sh0 h, Option.bind_some, i00, m62]
  have pd := (z_ix (n := 8) (show d < 2147483648 by omega)).mpr hd
  have kx : f_X8_keep ad σ (nI d) a2 a3 = if a2 = 0 then some (0, bec σ d 0 0) else if a2 = 1 then ((f_X6_hasLaw ad σ a3).bind fun q7 => (if q7 = 0 then (f_X8_keep_P62 ad a2 a3 σ d) else (if g_ix a3 20 then (if σ 27 0 a3.toNatClampNeg < 0 then none else ((f_X7_keepLaw ad σ d a3.toNatClampNeg).bind fun σ13 => (some ((0 : Int32), σ13)))) else none))) else f_X8_keep_P62 ad a2 a3 σ d := by
    unfold f_X8_keep
    rw [x_sh1 hd, Option.bind_some, i10]
    simp only [if_pos pd, z_clamp (show d < 2147483648 by omega), h2.2.2.2 d hd, i0l]
    rfl
  have km : ∀ τ : gS, τ 9 = σ 9 → f_X9_keep ad τ (nI d) a2 a3 = if a2 = 0 then f_X9_keep_P58 ad (nI d) a2 a3 τ else if a2 = 1 then ((f_X9_in ad τ a3 (0 : Int32) (nI nL - (1 : Int32))).bind fun q2 => (if q2 = 0 then (f_X9_keep_P32 ad (nI d) a2 a3 τ) else (f_X9_keep_P58 ad (nI d) a2 a3 τ))) else f_X9_keep_P32 ad (nI d) a2 a3 τ := by
    intro τ t
    unfold f_X9_keep
    rw [m_sh1 hd, Option.bind_some, i10, t, m3]
  by_cases c0 : a2 = 0
  · subst c0
    refine ⟨0, bec σ d 0 0, kpM (bec σ d 0 0) d 0 a3 5, ?_, ?_, nO, nP, nL, S, kp_J0 hJ hd a3 5⟩
    · rw [kx, if_pos rfl]
    · rw [km _ (bec_K (by decide)), if_pos rfl, m_kp hd (by decide)]
      unfold f_X9_keep_P157
      rw [if_neg (by decide)]
  by_cases c1 : a2 = 1
  · subst c1
    rw [if_neg c0, if_pos rfl] at kx
    simp only [if_neg c0, if_true] at km
    rcases z_cases a3 (n := nL) (by omega) with h | ⟨l, hl, rfl⟩
    · refine no (-1) ?_ ?_
      · rw [kx, x_law0 x3 h]; rfl
      · rw [km σ rfl, m_in0 (by omega) h]; rfl
    · have pl := (z_ix (n := 20) (show l < 2147483648 by omega)).mpr (by omega)
      refine ⟨0, g_up (bec σ d 1 0) 7 d 1 (nI l), kpM (g_up (bec σ d 1 0) 7 d 1 (nI l)) d 1 (nI l) 5, ?_, ?_, nO, nP, nL, S, kp_J1 hJ hd hl⟩
      · rw [kx, x_law1 (by omega) x3 hl, Option.bind_some, i10, if_pos pl, z_clamp (show l < 2147483648 by omega), h2.2.2.1 l hl, i0l]
        unfold f_X7_keepLaw
        rw [x_bec, Option.bind_some, if_pos (by omega)]
        rfl
      · rw [km _ (by rw [up_K (by decide), bec_K (by decide)]), m_in1 (by omega) hl, Option.bind_some, i10, m_kp hd (by decide)]
        unfold f_X9_keep_P157
        rw [if_neg (by decide)]
  rw [if_neg c0, if_neg c1] at kx
  simp only [if_neg c0, if_neg c1] at km
  unfold f_X8_keep_P62 at kx
  unfold f_X9_keep_P32 f_X9_keep_P45 at km
  by_cases c3 : a2 = 3
  · subst c3
    rw [if_pos rfl] at kx
    simp only [if_true, if_neg (show ¬ (3 : Int32) = 4 by decide)] at kx km
    rcases z_cases a3 (n := nO) (by omega) with h | ⟨o, ho, rfl⟩
    · refine no (-1) ?_ ?_
      · rw [kx, x_off0 x1 h]; rfl
      · rw [km σ rfl, m_off0 (by omega) m1 h]; rfl
    · have po := (z_ix (n := 8) (show o < 2147483648 by omega)).mpr (by omega)
      refine ⟨0, khX σ d o, kp3 (khX σ d o) d o, ?_, ?_, nO, nP, nL, S, kp_J3 hJ hd (by omega)⟩
      · rw [kx, x_off1 (by omega) x1 ho, Option.bind_some, i10, if_pos po, z_clamp (show o < 2147483648 by omega), h2.1 o ho, i0l, x_kh hJ ho]
        rfl
      · have t9 : khX σ d o 9 = σ 9 := by
          unfold khX
          rw [row_K (by decide), bec_K (by decide)]
        rw [km _ t9, m_off1 (by omega) (by rw [t9]; exact m1) ho, Option.bind_some, i10, m_kp3 hd (by omega)]
  rw [if_neg c3] at kx
  simp only [if_neg c3] at km
  by_cases c4 : a2 = 4
  · subst c4
    rw [if_pos rfl] at kx
    simp only [if_true] at km
    rcases z_cases a3 (n := nP) (by omega) with h | ⟨p, hp, rfl⟩
    · refine no (-1) ?_ ?_
      · rw [kx, x_per0 x2 h]; rfl
      · rw [km σ rfl, m_per0 (by omega) m2 h]; rfl
    · have pp := (z_ix (n := 24) (show p < 2147483648 by omega)).mpr (by omega)
      refine ⟨0, lfX (bec σ d 4 5) d p, kp4 (kpM (lfX (bec σ d 4 5) d p) d 4 (nI p) 5) d p, ?_, ?_, nO, nP, nL, S, kp_J4 hJ hd hp⟩
      · rw [kx, x_per1 (by omega) x2 hp, Option.bind_some, i10, if_pos pp, z_clamp (show p < 2147483648 by omega), h2.2.1 p hp, i0l, x_lf]
        rfl
      · have t9 : lfX (bec σ d 4 5) d p 9 = σ 9 := by rw [lf_K (by decide), bec_K (by decide)]
        rw [km _ t9, m_per1 (by omega) (by rw [t9]; exact m2) hp, Option.bind_some, i10, m_kp hd (by decide), m_kp4 hd (by omega)]
  · refine no (-1) ?_ ?_
    · rw [kx, if_neg c4]
    · rw [km σ rfl, if_neg c4]; rfl
