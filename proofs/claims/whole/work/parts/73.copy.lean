/-! PURE: shelves: copy -/
theorem sh_other {nL : Nat} {σ σ' : gS} {d : Nat} (h : J_sh1 nL σ d) (e7 : σ' 7 d = σ 7 d) (e28 : σ' 28 d = σ 28 d) (e29 : σ' 29 d = σ 29 d) (e80 : σ' 80 0 d = σ 80 0 d) (e81 : σ' 81 0 d = σ 81 0 d) (e82 : σ' 82 0 d = σ 82 0 d) (e83 : ∀ q, q < 200 → σ' 83 0 (200 * d + q) = σ 83 0 (200 * d + q)) : J_sh1 nL σ' d := by
  unfold J_sh1
  rw [e7, e28, e29, e80, e81, e82]
  obtain ⟨k0, k⟩ := h
  refine ⟨k0, ?_⟩
  rcases k with k | k | ⟨k1, k2, n, hn, k3, k4, k5⟩ | ⟨k1, k2, n, hn, k3, k4, k5⟩
  · exact Or.inl k
  · exact Or.inr (Or.inl k)
  · exact Or.inr (Or.inr (Or.inl ⟨k1, k2, n, hn, k3, k4, fun i hi => by rw [e83 i (by omega)]; exact k5 i hi⟩))
  · exact Or.inr (Or.inr (Or.inr ⟨k1, k2, n, hn, k3, k4, fun i hi => by rw [e83 i (by omega)]; exact k5 i hi⟩))
theorem sh_gJ {nO nP nL : Nat} {S : Nat → Nat} {L : gL} {ad : gA} {σ σ' : gS} (hJ : gJ nO nP nL S L ad σ) (hK : ∀ K, (K < 7 ∨ (7 < K ∧ K < 28) ∨ (29 < K ∧ K < 80)) → σ' K = σ K) (h : J_sh nL σ') : gJ nO nP nL S L ad σ' := by
  obtain ⟨h1, h2, h3, h4, h5, h6, h7, h8, h9, h10, h11, h12, h13, h14, h15⟩ := id hJ
  have e0 := hK 0 (by omega)
  have e2 := hK 2 (by omega)
  have e3 := hK 3 (by omega)
  have e5 := hK 5 (by omega)
  have e6 := hK 6 (by omega)
  have e9 := hK 9 (by omega)
  exact ⟨K_cnt (by rw [e9]) (by rw [e9]) (by rw [e9]) (by rw [e6]) (by rw [e6]) (by rw [e6]) h1, K_ref (hK 25 (by omega)) (hK 26 (by omega)) (hK 27 (by omega)) (hK 30 (by omega)) h2, K_off (hK 44 (by omega)) (hK 45 (by omega)) e3 h3, K_per e5 (hK 46 (by omega)) (hK 47 (by omega)) (hK 48 (by omega)) (hK 49 (by omega)) (hK 50 (by omega)) (hK 51 (by omega)) (hK 52 (by omega)) h4, K_kin (fun q => by rw [e5]) (hK 49 (by omega)) h5, K_lawM (hK 53 (by omega)) (hK 54 (by omega)) (hK 55 (by omega)) (hK 56 (by omega)) h6, K_lawX e2 (hK 53 (by omega)) (hK 54 (by omega)) (hK 55 (by omega)) (hK 56 (by omega)) (hK 57 (by omega)) h7, K_seat (hK 58 (by omega)) (hK 59 (by omega)) (hK 60 (by omega)) h8, K_place (hK 58 (by omega)) (hK 60 (by omega)) h9, K_code (hK 23 (by omega)) (hK 58 (by omega)) (hK 59 (by omega)) h10, K_post (hK 24 (by omega)) (hK 59 (by omega)) (hK 60 (by omega)) h11, K_num (by rw [e6]) (by rw [e6]) (hK 58 (by omega)) (hK 59 (by omega)) h12, K_el (by rw [e0]) (by rw [e0]) (by rw [e0]) (by rw [e9]) (by rw [e9]) (hK 12 (by omega)) (hK 71 (by omega)) h13, h, h15⟩
theorem m_cp1 {d i n : Nat} (hn : n ≤ 200) (hb : 200 * d + i + n ≤ 1600) (K : gS → Option (Int32 × gS)) :
    ∀ (r fuel k : Nat) (σ : gS), r < fuel → k + r = n → f_X9_copy_L114 (nI d) (nI i) (nI n) K fuel σ (nI k) = K (g_row σ 84 0 (fun j => if k ≤ j ∧ j < n then σ 83 0 (200 * d + i + j) else σ 84 0 j)) := by
  intro r
  induction r with
  | zero =>
    intro fuel k σ hf hk
    obtain ⟨m, rfl⟩ : ∃ m, fuel = m + 1 := ⟨fuel - 1, by omega⟩
    unfold f_X9_copy_L114
    rw [if_pos (nI_le (by omega) (by omega)), row_self]
    intro j
    rw [if_neg (by omega)]
  | succ r ih =>
    intro fuel k σ hf hk
    obtain ⟨m, rfl⟩ : ∃ m, fuel = m + 1 := ⟨fuel - 1, by omega⟩
    have p1 := (z_ix (n := 1600) (show 200 * d + i + k < 2147483648 by omega)).mpr (by omega)
    have p2 := (z_ix (n := 200) (show k < 2147483648 by omega)).mpr (by omega)
    unfold f_X9_copy_L114
    rw [if_neg (nI_ge (by omega) (by omega)), z_200, pk_mul, nI_add, nI_add, if_pos p1, if_pos p2, z_clamp (show k < 2147483648 by omega), z_clamp (show 200 * d + i + k < 2147483648 by omega), nI_1, g_let_e, ih m (k + 1) _ (by omega) (by omega), up_row]
    congr 2
    funext j
    rw [up_K (by decide)]
    by_cases q1 : k + 1 ≤ j ∧ j < n
    · rw [if_pos q1, if_pos (by omega)]
    · rw [if_neg q1]
      by_cases q2 : j = k
      · subst q2
        rw [if_pos (by omega), up_s]
      · rw [if_neg (by omega), up_j q2]
theorem m_cp2 {e j n : Nat} (hn : n ≤ 200) (hb : 200 * e + j + n ≤ 1600) (K : gS → Option (Int32 × gS)) :
    ∀ (r fuel k : Nat) (σ : gS), r < fuel → k + r = n → f_X9_copy_L152 (nI e) (nI j) (nI n) K fuel σ (nI k) = K (g_row σ 83 0 (fun x => if 200 * e + j + k ≤ x ∧ x < 200 * e + j + n then σ 84 0 (x - (200 * e + j)) else σ 83 0 x)) := by
  intro r
  induction r with
  | zero =>
    intro fuel k σ hf hk
    obtain ⟨m, rfl⟩ : ∃ m, fuel = m + 1 := ⟨fuel - 1, by omega⟩
    unfold f_X9_copy_L152
    rw [if_pos (nI_le (by omega) (by omega)), row_self]
    intro x
    rw [if_neg (by omega)]
  | succ r ih =>
    intro fuel k σ hf hk
    obtain ⟨m, rfl⟩ : ∃ m, fuel = m + 1 := ⟨fuel - 1, by omega⟩
    have p1 := (z_ix (n := 1600) (show 200 * e + j + k < 2147483648 by omega)).mpr (by omega)
    have p2 := (z_ix (n := 200) (show k < 2147483648 by omega)).mpr (by omega)
    unfold f_X9_copy_L152
    rw [if_neg (nI_ge (by omega) (by omega)), z_200, pk_mul, nI_add, nI_add, if_pos p2, if_pos p1, z_clamp (show k < 2147483648 by omega), z_clamp (show 200 * e + j + k < 2147483648 by omega), nI_1, g_let_e, ih m (k + 1) _ (by omega) (by omega), up_row]
    congr 2
    funext x
    rw [up_K (by decide)]
    by_cases q1 : 200 * e + j + (k + 1) ≤ x ∧ x < 200 * e + j + n
    · rw [if_pos q1, if_pos (by omega)]
    · rw [if_neg q1]
      by_cases q2 : x = 200 * e + j + k
      · subst q2
        rw [if_pos (by omega), up_s, show 200 * e + j + k - (200 * e + j) = k by omega]
      · rw [if_neg (by omega), up_j q2]
/-- the reference's state after a copy -/
def cpM (τ : gS) (d i e j n : Nat) : gS := g_row (g_row τ 84 0 (fun k => if 0 ≤ k ∧ k < n then τ 83 0 (200 * d + i + k) else τ 84 0 k)) 83 0 (fun x => if 200 * e + j + 0 ≤ x ∧ x < 200 * e + j + n then g_row τ 84 0 (fun k => if 0 ≤ k ∧ k < n then τ 83 0 (200 * d + i + k) else τ 84 0 k) 84 0 (x - (200 * e + j)) else g_row τ 84 0 (fun k => if 0 ≤ k ∧ k < n then τ 83 0 (200 * d + i + k) else τ 84 0 k) 83 0 x)
theorem cpM_83 {τ : gS} {d i e j n x : Nat} : cpM τ d i e j n 83 0 x = if 200 * e + j ≤ x ∧ x < 200 * e + j + n then τ 83 0 (200 * d + i + (x - (200 * e + j))) else τ 83 0 x := by
  unfold cpM
  rw [row_s]
  by_cases q : 200 * e + j ≤ x ∧ x < 200 * e + j + n
  · rw [if_pos (by omega), if_pos q, row_s, if_pos (by omega)]
  · rw [if_neg (by omega), if_neg q, row_K (by decide)]
theorem cpM_K {τ : gS} {d i e j n K : Nat} (h : K < 83) : cpM τ d i e j n K = τ K := by
  unfold cpM
  rw [row_K (by omega), row_K (by omega)]
theorem z_sub {a b : Nat} (ha : a < 2147483648) (hb : b < 2147483648) : (nI a - nI b).toInt = (a : Int) - b := by
  rw [Int32.toInt_sub, nI_toInt (by omega), nI_toInt (by omega)]
  exact Int.bmod_eq_of_le (by omega) (by omega)
theorem z_sub_lt {a b c : Nat} (ha : a < 2147483648) (hb : b < 2147483648) (hc : c < 2147483648) : nI a - nI b < nI c ↔ a < b + c := by
  rw [Int32.lt_iff_toInt_lt, z_sub ha hb, nI_toInt (by omega)]
  omega
theorem z_le_sub {a b c : Nat} (ha : a < 2147483648) (hb : b < 2147483648) (hc : c < 2147483648) : nI c ≤ nI a - nI b ↔ b + c ≤ a := by
  rw [Int32.le_iff_toInt_le, z_sub ha hb, nI_toInt (by omega)]
  omega
section
variable {ad : gA} {σ : gS} {x nx n : Nat} {a b : Int32}
theorem x_spann (h : b < 0) : f_X7_hasSpan ad σ x a b = some 0 := by
  unfold f_X7_hasSpan
  by_cases q : a < 0
  · rw [if_pos q]
  · rw [if_neg q, if_pos h]
theorem x_span0 (e : σ 7 x 2 = nI nx) (hx : nx < 2147483648) (hn : n < 2147483648) (h : a < 0 ∨ ∃ i : Nat, i < 2147483648 ∧ a = nI i ∧ ¬ i + n ≤ nx) : f_X7_hasSpan ad σ x a (nI n) = some 0 := by
  unfold f_X7_hasSpan
  rcases h with h | ⟨i, hi, rfl, h⟩
  · rw [if_pos h]
  · rw [if_neg (nI_pos hi), if_neg (nI_pos hn), e]
    by_cases q : nx < n
    · rw [if_pos (nI_lt q hn)]
    · rw [if_neg (nI_nlt (by omega) hx), if_pos ((z_sub_lt hx hn hi).mpr (by omega))]
theorem x_span1 {i : Nat} (e : σ 7 x 2 = nI nx) (hx : nx < 2147483648) (h : i + n ≤ nx) : f_X7_hasSpan ad σ x (nI i) (nI n) = some 1 := by
  unfold f_X7_hasSpan
  rw [if_neg (nI_pos (by omega)), if_neg (nI_pos (by omega)), e, if_neg (nI_nlt (by omega) hx), if_neg]
  rw [z_sub_lt hx (by omega) (by omega)]
  omega
end
theorem m_cp {τ : gS} {d i e j n : Nat} (hn : n ≤ 200) (hb : 200 * d + i + n ≤ 1600) (hb' : 200 * e + j + n ≤ 1600) : f_X9_copy_L114 (nI d) (nI i) (nI n) (f_X9_copy_P149 (nI e) (nI j) (nI n)) g_fuel τ 0 = some (nI n, cpM τ d i e j n) := by
  have t1 := m_cp1 hn hb (f_X9_copy_P149 (nI e) (nI j) (nI n)) n g_fuel 0 τ (by unfold g_fuel; omega) (by omega)
  rw [nI_0] at t1
  rw [t1]
  unfold f_X9_copy_P149
  have t2 := m_cp2 hn hb' (f_X9_copy_P188 (nI n)) n g_fuel 0 (g_row τ 84 0 (fun k => if 0 ≤ k ∧ k < n then τ 83 0 (200 * d + i + k) else τ 84 0 k)) (by unfold g_fuel; omega) (by omega)
  rw [nI_0] at t2
  rw [t2]
  rfl
theorem ok_copy : sim_copy gI := by
  intro L ad σ ⟨nO, nP, nL, S, hJ⟩ a1 a2 a3 a4 a5
  obtain ⟨h1, h2, h3, h4, h5, h6, h7, h8, h9, h10, h11, h12, h13, h14, h15⟩ := id hJ
  have no : ∀ r, f_X8_copy ad σ a1 a2 a3 a4 a5 = some (r, σ) → f_X9_copy ad σ a1 a2 a3 a4 a5 = some (r, σ) → ∃ (r : Int32) (σ1 : gS) (σ2 : gS), f_X8_copy ad σ a1 a2 a3 a4 a5 = some (r, σ1) ∧ f_X9_copy ad σ1 a1 a2 a3 a4 a5 = some (r, σ2) ∧ gI L ad σ2 := fun r t1 t2 => ⟨r, σ, σ, t1, t2, nO, nP, nL, S, hJ⟩
  rcases z_cases a1 (n := 8) (by omega) with h | ⟨d, hd, rfl⟩
  · refine no (-1) ?_ ?_
    · unfold f_X8_copy; rw [x_sh0 h]; rfl
    · unfold f_X9_copy; rw [m_sh0 h]; rfl
  rcases z_cases a3 (n := 8) (by omega) with h | ⟨e, he, rfl⟩
  · refine no (-1) ?_ ?_
    · unfold f_X8_copy; rw [x_sh1 hd, x_sh0 h]; rfl
    · unfold f_X9_copy; rw [m_sh1 hd, m_sh0 h]; rfl
  have pd := (z_ix (n := 8) (show d < 2147483648 by omega)).mpr hd
  have pe := (z_ix (n := 8) (show e < 2147483648 by omega)).mpr he
  obtain ⟨d0, kd⟩ := h14.1 d hd
  obtain ⟨e0, ke⟩ := h14.1 e he
  have kx : f_X8_copy ad σ (nI d) a2 (nI e) a4 a5 = if σ 80 0 d = 0 then some (-11, σ) else if σ 80 0 e = 0 then some (-11, σ) else (f_X7_isRow ad σ d).bind fun q11 => (if q11 = 0 then some (-12, σ) else (if σ 80 0 d = σ 80 0 e then ((f_X7_hasSpan ad σ d a2 a5).bind fun q12 => (if q12 = 0 then some (-13, σ) else ((f_X7_hasSpan ad σ e a4 a5).bind fun q13 => (if q13 = 0 then some (-13, σ) else ((f_X7_copyTo ad σ d e a2 a4 a5).bind fun σ14 => some (a5, σ14)))))) else some (-12, σ))) := by
    unfold f_X8_copy
    rw [x_sh1 hd, Option.bind_some, i10, x_sh1 he, Option.bind_some, i10]
    simp only [if_pos pd, if_pos pe, z_clamp (show d < 2147483648 by omega), z_clamp (show e < 2147483648 by omega), h2.2.2.2 d hd, h2.2.2.2 e he, i0l, d0, e0]
  have km : ∀ τ : gS, τ 80 = σ 80 → τ 82 = σ 82 → f_X9_copy ad τ (nI d) a2 (nI e) a4 a5 = if σ 80 0 d = 0 then some (-11, τ) else if σ 80 0 e = 0 then some (-11, τ) else if σ 80 0 d < 3 then some (-12, τ) else if σ 80 0 d = σ 80 0 e then (if a5 < 0 then some (-13, τ) else if a2 < 0 then some (-13, τ) else if a4 < 0 then some (-13, τ) else if σ 82 0 d - a5 < a2 then some (-13, τ) else if a4 ≤ σ 82 0 e - a5 then f_X9_copy_L114 (nI d) a2 a5 (f_X9_copy_P149 (nI e) a4 a5) g_fuel τ 0 else some (-13, τ)) else some (-12, τ) := by
    intro τ t1 t2
    unfold f_X9_copy
    rw [m_sh1 hd, Option.bind_some, i10, m_sh1 he, Option.bind_some, i10]
    simp only [if_pos pd, if_pos pe, z_clamp (show d < 2147483648 by omega), z_clamp (show e < 2147483648 by omega), t1, t2]
  have go : ∀ (nd ne : Nat) (c : Int32), (c = 3 ∨ c = 4) → nd ≤ 200 → ne ≤ 200 → σ 80 0 d = c → σ 80 0 e = c → σ 82 0 d = nI nd → σ 7 d 2 = nI nd → σ 82 0 e = nI ne → σ 7 e 2 = nI ne → (∀ i j n, i + n ≤ nd → j + n ≤ ne → ∃ τ, f_X7_copyTo ad σ d e (nI i) (nI j) (nI n) = some τ ∧ (∀ K, (K < 28 ∨ 29 < K) → τ K = σ K) ∧ gJ nO nP nL S L ad (cpM τ d i e j n)) → ∃ (r : Int32) (σ1 : gS) (σ2 : gS), f_X8_copy ad σ (nI d) a2 (nI e) a4 a5 = some (r, σ1) ∧ f_X9_copy ad σ1 (nI d) a2 (nI e) a4 a5 = some (r, σ2) ∧ gI L ad σ2 := by
    intro nd ne c hc hnd hne g1 g2 g3 g4 g5 g6 g7
    have hr : f_X7_isRow ad σ d = some 1 := by
      unfold f_X7_isRow
      rw [d0, g1]
      rcases hc with rfl | rfl
      · rfl
      · rfl
    have hc0 : ¬ c = 0 := by rcases hc with rfl | rfl <;> decide
    have hc3 : ¬ c < 3 := by rcases hc with rfl | rfl <;> decide
    rw [g1, g2, if_neg hc0, if_neg hc0, hr, Option.bind_some, i10, if_pos rfl] at kx
    simp only [g1, g2, if_neg hc0, if_neg hc3, if_true, g3, g5] at km
    by_cases c2 : a5 < 0
    · refine no (-13) ?_ ?_
      · rw [kx, x_spann c2]; rfl
      · rw [km σ rfl rfl, if_pos c2]
    obtain ⟨n, hn, rfl⟩ := z_nn c2
    by_cases c1 : a2 < 0
    · refine no (-13) ?_ ?_
      · rw [kx, x_span0 g4 (by omega) hn (Or.inl c1)]; rfl
      · rw [km σ rfl rfl, if_neg c2, if_pos c1]
    obtain ⟨i, hi, rfl⟩ := z_nn c1
    by_cases c3 : i + n ≤ nd
    · rw [x_span1 g4 (by omega) c3, Option.bind_some, i10] at kx
      have s1 : ¬ nI nd - nI n < nI i := by
        rw [z_sub_lt (by omega) hn hi]
        omega
      by_cases c4 : a4 < 0
      · refine no (-13) ?_ ?_
        · rw [kx, x_span0 g6 (by omega) hn (Or.inl c4)]; rfl
        · rw [km σ rfl rfl, if_neg c2, if_neg c1, if_pos c4]
      obtain ⟨j, hj, rfl⟩ := z_nn c4
      by_cases c5 : j + n ≤ ne
      · rw [x_span1 g6 (by omega) c5, Option.bind_some, i10] at kx
        obtain ⟨τ, t1, t2, t3⟩ := g7 i j n c3 c5
        rw [t1, Option.bind_some] at kx
        refine ⟨nI n, τ, cpM τ d i e j n, kx, ?_, nO, nP, nL, S, t3⟩
        rw [km τ (t2 80 (by omega)) (t2 82 (by omega)), if_neg c2, if_neg c1, if_neg c4, if_neg s1, if_pos ((z_le_sub (by omega) hn hj).mpr (by omega))]
        exact m_cp (by omega) (by omega) (by omega)
      · refine no (-13) ?_ ?_
        · rw [kx, x_span0 g6 (by omega) hn (Or.inr ⟨j, hj, rfl, c5⟩)]; rfl
        · rw [km σ rfl rfl, if_neg c2, if_neg c1, if_neg c4, if_neg s1, if_neg]
          rw [z_le_sub (by omega) hn hj]
          omega
    · refine no (-13) ?_ ?_
      · rw [kx, x_span0 g4 (by omega) hn (Or.inr ⟨i, hi, rfl, c3⟩)]; rfl
      · rw [km σ rfl rfl, if_neg c2, if_neg c1]
        by_cases c4 : a4 < 0
        · rw [if_pos c4]
        · rw [if_neg c4, if_pos ((z_sub_lt (by omega) hn hi).mpr (by omega))]
  have no12 : ∀ c c' : Int32, σ 80 0 d = c → σ 80 0 e = c' → ¬ c = 0 → ¬ c' = 0 → (c = 1 ∨ ((c = 3 ∨ c = 4) ∧ c ≠ c')) → ∃ (r : Int32) (σ1 : gS) (σ2 : gS), f_X8_copy ad σ (nI d) a2 (nI e) a4 a5 = some (r, σ1) ∧ f_X9_copy ad σ1 (nI d) a2 (nI e) a4 a5 = some (r, σ2) ∧ gI L ad σ2 := by
    intro c c' g1 g2 n1 n2 hc
    refine no (-12) ?_ ?_
    · rw [kx, g1, g2, if_neg n1, if_neg n2]
      unfold f_X7_isRow
      rw [d0, g1]
      rcases hc with rfl | ⟨rfl | rfl, hc⟩
      · rfl
      · rw [if_pos rfl, Option.bind_some, i10, if_neg hc]
      · rw [if_neg (by decide), if_pos rfl, Option.bind_some, i10, if_neg hc]
    · rw [km σ rfl rfl, g1, g2, if_neg n1, if_neg n2]
      rcases hc with rfl | ⟨rfl | rfl, hc⟩
      · rw [if_pos (by decide)]
      · rw [if_neg (by decide), if_neg hc]
      · rw [if_neg (by decide), if_neg hc]
  have no11 : (σ 80 0 d = 0 ∨ σ 80 0 e = 0) → ∃ (r : Int32) (σ1 : gS) (σ2 : gS), f_X8_copy ad σ (nI d) a2 (nI e) a4 a5 = some (r, σ1) ∧ f_X9_copy ad σ1 (nI d) a2 (nI e) a4 a5 = some (r, σ2) ∧ gI L ad σ2 := by
    intro h
    refine no (-11) ?_ ?_
    · rw [kx]
      by_cases q : σ 80 0 d = 0
      · rw [if_pos q]
      · rw [if_neg q, if_pos (h.resolve_left q)]
    · rw [km σ rfl rfl]
      by_cases q : σ 80 0 d = 0
      · rw [if_pos q]
      · rw [if_neg q, if_pos (h.resolve_left q)]
  rcases kd with ⟨kd1, kd2⟩ | ⟨kd1, l, hl, kd2, kd3⟩ | ⟨kd1, kd2, nd, hnd, kd3, kd4, kd5⟩ | ⟨kd1, kd2, nd, hnd, kd3, kd4, kd5⟩
  · exact no11 (Or.inl kd1)
  · rcases ke with ⟨ke1, ke2⟩ | ⟨ke1, -⟩ | ⟨ke1, -⟩ | ⟨ke1, -⟩
    · exact no11 (Or.inr ke1)
    · exact no12 _ _ kd1 ke1 (by decide) (by decide) (Or.inl rfl)
    · exact no12 _ _ kd1 ke1 (by decide) (by decide) (Or.inl rfl)
    · exact no12 _ _ kd1 ke1 (by decide) (by decide) (Or.inl rfl)
  · rcases ke with ⟨ke1, ke2⟩ | ⟨ke1, -⟩ | ⟨ke1, ke2, ne, hne, ke3, ke4, ke5⟩ | ⟨ke1, -⟩
    · exact no11 (Or.inr ke1)
    · exact no12 _ _ kd1 ke1 (by decide) (by decide) (Or.inr ⟨Or.inl rfl, by decide⟩)
    · refine go nd ne 3 (Or.inl rfl) hnd hne kd1 ke1 kd3 kd4 ke3 ke4 ?_
      intro i j n hi hj
      refine ⟨g_row σ 28 e (va_cpy (σ 28 d) (σ 28 e) i j n), ?_, fun K hK => row_K (by omega), ?_⟩
      · unfold f_X7_copyTo
        rw [d0, kd1, if_pos rfl, z_clamp (show i < 2147483648 by omega), z_clamp (show j < 2147483648 by omega), z_clamp (show n < 2147483648 by omega), if_pos ⟨nI_pos (by omega), nI_pos (by omega), nI_pos (by omega), by omega, by omega, fun q hq => h14.2 d (i + q) hd (by omega)⟩, g_let_e]
      · have t : ∀ K, K < 83 → K ≠ 28 → cpM (g_row σ 28 e (va_cpy (σ 28 d) (σ 28 e) i j n)) d i e j n K = σ K := fun K hK hK' => by rw [cpM_K hK, row_K hK']
        refine sh_gJ hJ (fun K hK => t K (by omega) (by omega)) ⟨fun x hx => ?_, fun x q hx hq => ?_⟩
        · by_cases qx : x = e
          · subst qx
            unfold J_sh1
            rw [t 7 (by omega) (by omega), t 80 (by omega) (by omega), t 82 (by omega) (by omega)]
            refine ⟨e0, Or.inr (Or.inr (Or.inl ⟨ke1, ke2, ne, hne, ke3, ke4, fun q hq => ?_⟩))⟩
            rw [cpM_83, cpM_K (by omega), row_s, row_K (by decide)]
            by_cases qq : j ≤ q ∧ q < j + n
            · rw [if_pos (by omega), pk_cpy_in qq.1 qq.2, kd5 _ (by omega)]
              congr 1
              omega
            · rw [if_neg (by omega), pk_cpy_out (by omega), ke5 q hq]
          · refine sh_other (h14.1 x hx) (by rw [t 7 (by omega) (by omega)]) ?_ (by rw [t 29 (by omega) (by omega)]) (by rw [t 80 (by omega) (by omega)]) (by rw [t 81 (by omega) (by omega)]) (by rw [t 82 (by omega) (by omega)]) ?_
            · rw [cpM_K (by omega), row_i qx]
            · intro q hq
              rw [cpM_83, if_neg (by omega), row_K (by decide)]
        · rw [cpM_K (by omega)]
          by_cases qx : x = e
          · subst qx
            rw [row_s]
            by_cases qq : j ≤ q ∧ q < j + n
            · rw [pk_cpy_in qq.1 qq.2]
              exact h14.2 d _ hd (by omega)
            · rw [pk_cpy_out (by omega)]
              exact h14.2 x q hx hq
          · rw [row_i qx]
            exact h14.2 x q hx hq
    · exact no12 _ _ kd1 ke1 (by decide) (by decide) (Or.inr ⟨Or.inl rfl, by decide⟩)
  · rcases ke with ⟨ke1, ke2⟩ | ⟨ke1, -⟩ | ⟨ke1, -⟩ | ⟨ke1, ke2, ne, hne, ke3, ke4, ke5⟩
    · exact no11 (Or.inr ke1)
    · exact no12 _ _ kd1 ke1 (by decide) (by decide) (Or.inr ⟨Or.inr rfl, by decide⟩)
    · exact no12 _ _ kd1 ke1 (by decide) (by decide) (Or.inr ⟨Or.inr rfl, by decide⟩)
    · refine go nd ne 4 (Or.inr rfl) (by omega) (by omega) kd1 ke1 kd3 kd4 ke3 ke4 ?_
      intro i j n hi hj
      refine ⟨g_row σ 29 e (va_cpy (σ 29 d) (σ 29 e) i j n), ?_, fun K hK => row_K (by omega), ?_⟩
      · unfold f_X7_copyTo
        rw [d0, kd1, if_neg (by decide), z_clamp (show i < 2147483648 by omega), z_clamp (show j < 2147483648 by omega), z_clamp (show n < 2147483648 by omega), if_pos ⟨nI_pos (by omega), nI_pos (by omega), nI_pos (by omega), by omega, by omega⟩, g_let_e]
      · have t : ∀ K, K < 83 → K ≠ 29 → cpM (g_row σ 29 e (va_cpy (σ 29 d) (σ 29 e) i j n)) d i e j n K = σ K := fun K hK hK' => by rw [cpM_K hK, row_K hK']
        refine sh_gJ hJ (fun K hK => t K (by omega) (by omega)) ⟨fun x hx => ?_, fun x q hx hq => ?_⟩
        · by_cases qx : x = e
          · subst qx
            unfold J_sh1
            rw [t 7 (by omega) (by omega), t 80 (by omega) (by omega), t 82 (by omega) (by omega)]
            refine ⟨e0, Or.inr (Or.inr (Or.inr ⟨ke1, ke2, ne, hne, ke3, ke4, fun q hq => ?_⟩))⟩
            rw [cpM_83, cpM_K (by omega), row_s, row_K (by decide)]
            by_cases qq : j ≤ q ∧ q < j + n
            · rw [if_pos (by omega), pk_cpy_in qq.1 qq.2, kd5 _ (by omega)]
              congr 1
              omega
            · rw [if_neg (by omega), pk_cpy_out (by omega), ke5 q hq]
          · refine sh_other (h14.1 x hx) (by rw [t 7 (by omega) (by omega)]) (by rw [t 28 (by omega) (by omega)]) ?_ (by rw [t 80 (by omega) (by omega)]) (by rw [t 81 (by omega) (by omega)]) (by rw [t 82 (by omega) (by omega)]) ?_
            · rw [cpM_K (by omega), row_i qx]
            · intro q hq
              rw [cpM_83, if_neg (by omega), row_K (by decide)]
        · rw [t 28 (by omega) (by omega)]
          exact h14.2 x q hx hq
