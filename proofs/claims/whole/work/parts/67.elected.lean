/-! PURE: elected, sure -/
theorem m_beg0 (K : gS → Option gS) :
    ∀ (d fuel k : Nat) (σ : gS), d < fuel → k + d = 4 → f_X9_beginVotes_L7 K fuel σ (nI k) = K (g_row (g_row (g_row σ 74 0 (fun j => if k ≤ j ∧ j < 4 then 0 else σ 74 0 j)) 75 0 (fun j => if k ≤ j ∧ j < 4 then 0 else σ 75 0 j)) 79 0 (fun j => if k ≤ j ∧ j < 4 then 0 else σ 79 0 j)) := by
  intro d
  induction d with
  | zero =>
    intro fuel k σ hf hk
    obtain ⟨m, rfl⟩ : ∃ m, fuel = m + 1 := ⟨fuel - 1, by omega⟩
    unfold f_X9_beginVotes_L7
    rw [z_4, if_pos (nI_le (by omega) (by omega))]
    congr 1
    funext K' i' j'
    unfold g_row
    have : ¬ (k ≤ j' ∧ j' < 4) := by omega
    simp only [this, if_false]
    by_cases q1 : K' = 79 ∧ i' = 0
    · simp [q1]
    · by_cases q2 : K' = 75 ∧ i' = 0
      · simp [q2]
      · by_cases q3 : K' = 74 ∧ i' = 0
        · simp [q3]
        · simp [q1, q2, q3]
  | succ d ih =>
    intro fuel k σ hf hk
    obtain ⟨m, rfl⟩ : ∃ m, fuel = m + 1 := ⟨fuel - 1, by omega⟩
    have pk := (z_ix (n := 4) (show k < 2147483648 by omega)).mpr (by omega)
    unfold f_X9_beginVotes_L7
    rw [z_4, if_neg (nI_ge (by omega) (by omega))]
    simp only [if_pos pk, z_clamp (show k < 2147483648 by omega)]
    rw [g_let_e, g_let_e, g_let_e, nI_1, z_bo m_bo0, ih m (k + 1) _ (by omega) (by omega)]
    congr 1
    funext K' i' j'
    unfold g_row
    by_cases q1 : K' = 79 ∧ i' = 0
    · by_cases q : k + 1 ≤ j' ∧ j' < 4
      · have : k ≤ j' ∧ j' < 4 := by omega
        simp [q1, q, this]
      · by_cases qk : j' = k
        · simp [q1, q, g_up, qk]; omega
        · have : ¬ (k ≤ j' ∧ j' < 4) := by omega
          simp only [q1, q, this, g_up, qk]; simp
    · by_cases q2 : K' = 75 ∧ i' = 0
      · by_cases q : k + 1 ≤ j' ∧ j' < 4
        · have : k ≤ j' ∧ j' < 4 := by omega
          simp [q2, q, this]
        · by_cases qk : j' = k
          · simp [q2, q, g_up, qk]; omega
          · have : ¬ (k ≤ j' ∧ j' < 4) := by omega
            simp only [q2, q, this, g_up, qk]; simp
      · by_cases q3 : K' = 74 ∧ i' = 0
        · by_cases q : k + 1 ≤ j' ∧ j' < 4
          · have : k ≤ j' ∧ j' < 4 := by omega
            simp [q3, q, this]
          · by_cases qk : j' = k
            · simp [q3, q, g_up, qk]; omega
            · have : ¬ (k ≤ j' ∧ j' < 4) := by omega
              simp only [q3, q, this, g_up, qk]; simp
        · simp only [q1, q2, q3, if_false, g_up]
          rw [if_neg (fun h => q1 ⟨h.1, h.2.1⟩), if_neg (fun h => q2 ⟨h.1, h.2.1⟩), if_neg (fun h => q3 ⟨h.1, h.2.1⟩)]
def bgX1 (a : gS) (t : Nat → Int32) : gS := g_up (g_row a 13 0 t) 0 0 5 0
def bgX2 (a : gS) : gS := g_row a 14 0 (fun j => if j < 4 then 0 else a 14 0 j)
def bgX3 (a : gS) : gS := g_row a 15 0 (fun j => if j < 4 then 0 else a 15 0 j)
def bgM1 (b : gS) (v v' : Nat → Int32) : gS := g_up (g_row (g_row b 72 0 v) 73 0 v') 9 0 38 0
def bgM2 (b : gS) : gS := g_row (g_row (g_row b 74 0 (fun j => if 0 ≤ j ∧ j < 4 then 0 else b 74 0 j)) 75 0 (fun j => if 0 ≤ j ∧ j < 4 then 0 else b 75 0 j)) 79 0 (fun j => if 0 ≤ j ∧ j < 4 then 0 else b 79 0 j)
section
variable {ad : gA} {σ : gS} {c k : Nat}
/-- both begin -/
theorem e_begin {R : Nat} (hR : R < 2 ^ 63) {a b : gS} (ha : eqv σ a) (hb : eqv σ b) : ∃ τ u, f_X0_begin ad a (lN R) = some τ ∧ ((f_X9_draw ad b 35 (lN R)).bind fun σ1 => f_X9_beginVotes ad σ1) = some u ∧ eR σ c (fun _ => 0) 0 τ u := by
  obtain ⟨t, t1, t2⟩ := x_draw (ad := ad) (σ := a) (K0 := 13) (n := 35) (by omega) hR
  obtain ⟨v, v', v1, v2⟩ := m_draw (ad := ad) (σ := b) (n := 35) (by omega) hR
  have hbv := fun τ => m_beg0 f_X9_beginVotes_P39 4 g_fuel 0 τ (by unfold g_fuel; omega) (by omega)
  rw [nI_0] at hbv
  refine ⟨bgX3 (bgX2 (bgX1 a t)), bgM2 (bgM1 b v v'), ?_, ?_, ?_⟩
  · unfold f_X0_begin
    rw [show (35 : Int32) = nI 35 from rfl, t2, Option.bind_some, g_let_e, x_fillI (by omega), Option.bind_some, x_fillI (by omega), Option.bind_some]
    rfl
  · rw [show (35 : Int32) = nI 35 from rfl, v2, Option.bind_some]
    unfold f_X9_beginVotes
    rw [g_let_e, hbv]
    rfl
  · refine ⟨⟨eqv_row (eqv_row (eqv_up (eqv_row ha (fun _ => rfl)) rfl) (fun _ => rfl)) (fun _ => rfl), eqv_row (eqv_row (eqv_row (eqv_up (eqv_row (eqv_row hb (fun _ => rfl)) (fun _ => rfl)) rfl) (fun _ => rfl)) (fun _ => rfl)) (fun _ => rfl)⟩, ?_, ?_, ?_, ⟨?_, ?_⟩, ?_, ?_, ?_⟩
    · intro j hj
      refine ⟨dv 35 R j, dv_lt hj, ?_, ?_⟩
      · rw [← t1 j hj]
        simp [bgX3, bgX2, bgX1, g_row, g_up]
      · rw [← v1 j hj]
        simp [bgM2, bgM1, g_row, g_up]
    · intro i hi
      refine ⟨0, Nat.le_refl _, ?_, ?_⟩
      · simp [bgX3, bgX2, bgX1, g_row, hi, nI_0]
      · simp [bgM2, bgM1, g_row, hi, nI_0]
    · intro i hi
      simp [bgX3, bgX2, bgX1, bgM2, bgM1, g_row, hi]
    · simp [bgX3, bgX2, bgX1, g_row, g_up, nI_0]
    · simp [bgM2, bgM1, g_row, g_up, nI_0]
    · intro i hi; omega
    · intro i hi; omega
    · intro i hi
      exact Or.inr ⟨by simp [bgM2, bgM1, g_row, hi], fun j hj => by omega⟩
theorem e_run (hc : c ≤ 4) (hk : k ≤ 2) (hkc : k < c) (e00 : σ 0 0 0 = nI c) (e01 : σ 0 0 1 = nI k) (e29 : σ 9 0 29 = nI c) (e30 : σ 9 0 30 = nI k) (hbal : ∀ u, u < 35 → σ 12 0 u = σ 71 0 u) :
    ∀ (d fuel m e : Nat) (τ u : gS), d < fuel → m + d = 35 → e ≤ k → eR σ c (fun _ => m) e τ u → ∃ τ' u', eR σ c (fun _ => 35) k τ' u' ∧ f_X0_run_L7 ad (f_X0_run_P24 ad) fuel τ (nI (m + 1)) = some τ' ∧ f_X9_elect_L13 ad fuel u (nI m) = some u' := by
  intro d
  induction d with
  | zero =>
    intro fuel m e τ u hf hm he h
    obtain ⟨n, rfl⟩ : ∃ n, fuel = n + 1 := ⟨fuel - 1, by omega⟩
    have : m = 35 := by omega
    subst this
    obtain ⟨τ', u', t1, t2, t3⟩ := e_rest (ad := ad) hc hk hkc e00 e01 e29 e30 (k - e) g_fuel e τ u (by unfold g_fuel; omega) (by omega) h
    refine ⟨τ', u', t1, ?_, ?_⟩
    · unfold f_X0_run_L7
      rw [show (35 : Int32) = nI 35 from rfl, if_pos (nI_lt (by omega) (by omega))]
      unfold f_X0_run_P24 f_X0_electRest
      rw [h.2.2.2.2.1.1, t2]; rfl
    · unfold f_X9_elect_L13
      rw [show (35 : Int32) = nI 35 from rfl, if_pos (nI_le (by omega) (by omega))]
      exact t3
  | succ d ih =>
    intro fuel m e τ u hf hm he h
    obtain ⟨n, rfl⟩ : ∃ n, fuel = n + 1 := ⟨fuel - 1, by omega⟩
    obtain ⟨e', τ', u', t1, t2, t3, t4⟩ := e_unit (ad := ad) hc hk e00 e01 e29 e30 hbal (show m < 35 by omega) (show m < 1000 by omega) he h
    obtain ⟨τ2, u2, r1, r2, r3⟩ := ih n (m + 1) e' τ' u' (by omega) (by omega) t1 t2
    refine ⟨τ2, u2, r1, ?_, ?_⟩
    · unfold f_X0_run_L7
      rw [show (35 : Int32) = nI 35 from rfl, if_neg (nI_nlt (by omega) (by omega)), t3, Option.bind_some, nI_1]
      exact r2
    · unfold f_X9_elect_L13
      rw [show (35 : Int32) = nI 35 from rfl, if_neg (nI_ge (by omega) (by omega)), t4, Option.bind_some, nI_1]
      exact r3
end
theorem ok_elected : sim_elected gI := by
  intro L ad σ ⟨nO, nP, nL, S, hJ⟩ a1 a2 a3
  obtain ⟨h1, h2, h3, h4, h5, h6, h7, h8, h9, h10, h11, h12, h13, h14, h15⟩ := id hJ
  obtain ⟨⟨hO, hP, hL⟩, ⟨m1, m2, m3⟩, ⟨x1, x2, x3⟩⟩ := id h1
  obtain ⟨⟨c, k, hck, e29, e30, e00, e01⟩, hbal, hvoted⟩ := id h13
  have wr : ∀ (_ : f_X8_elected ad σ a1 a2 a3 = some (-1, σ)) (_ : f_X9_elected ad σ a1 a2 a3 = some (-1, σ)), ∃ (r : Int32) (σ1 : gS) (σ2 : gS), f_X8_elected ad σ a1 a2 a3 = some (r, σ1) ∧ f_X9_elected ad σ1 a1 a2 a3 = some (r, σ2) ∧ gI L ad σ2 := fun h1 h2 => ⟨-1, σ, σ, h1, h2, nO, nP, nL, S, hJ⟩
  rcases lg_cases a1 with ⟨-, l1, l2⟩ | ⟨R, hR, rfl, l1, l2⟩
  · refine wr ?_ ?_
    · unfold f_X8_elected; rw [if_pos l1]
    · unfold f_X9_elected; rw [if_pos l1]
  rcases z_cases a2 (n := k) (by omega) with h | ⟨i, hi, rfl⟩
  · refine wr ?_ ?_
    · unfold f_X8_elected; rw [if_neg l1, e01]
      rcases h with h | h
      · rw [if_pos h]
      · rw [if_neg (z_nI_le (by omega) h), if_pos h]
    · unfold f_X9_elected; rw [if_neg l1, e30, m_in0 (by omega) h]; rfl
  have x5 : ¬ nI k ≤ nI i := nI_ge hi (by omega)
  rcases z_cases a3 (n := 2) (by omega) with h | ⟨w, hw, rfl⟩
  · refine wr ?_ ?_
    · unfold f_X8_elected; rw [if_neg l1, e01, if_neg (nI_pos (by omega)), if_neg x5]
      rcases h with h | h
      · rw [if_pos h]
      · rw [if_neg (z_nI_le (by omega) h), if_neg]
        rw [z_not_le]
        exact Int32.lt_of_lt_of_le (by decide : (1 : Int32) < nI 2) h
    · unfold f_X9_elected; rw [if_neg l1, e30, m_in1 (by omega) hi, Option.bind_some, i10, show (1 : Int32) = nI 2 - 1 from rfl, m_in0 (by omega) h]; rfl
  have pi := (z_ix (n := 2) (show i < 2147483648 by omega)).mpr (by omega)
  have hx6 : nI w ≤ 1 := by rw [z_1]; exact nI_le (by omega) (by omega)
  -- the class first, then the reference on what it left
  have both : ∀ b, eqv σ b → ∃ τ u, eR σ c (fun _ => 35) k τ u ∧ f_X0_run ad σ (lN R) = some τ ∧ f_X9_elect ad b (lN R) = some u := by
    intro b hb
    obtain ⟨τ0, u0, s1, s2, s3⟩ := e_begin (ad := ad) (c := c) hR (eqv_rfl σ) hb
    obtain ⟨τ, u, t1, t2, t3⟩ := e_run (ad := ad) (show c ≤ 4 by omega) (show k ≤ 2 by omega) (show k < c by omega) e00 e01 e29 e30 hbal 35 g_fuel 0 0 τ0 u0 (by unfold g_fuel; omega) (by omega) (by omega) s3
    refine ⟨τ, u, t1, ?_, ?_⟩
    · unfold f_X0_run
      rw [s1, Option.bind_some]
      exact t2
    · unfold f_X9_elect
      rw [nI_0] at t3
      cases hd : f_X9_draw ad b 35 (lN R) with
      | none => rw [hd] at s2; cases s2
      | some d =>
        rw [hd, Option.bind_some] at s2
        rw [Option.bind_some, s2, Option.bind_some]
        exact t3
  obtain ⟨τ, -, -, hx, -⟩ := both σ (eqv_rfl σ)
  have hτ : eqv σ τ := by
    obtain ⟨τ', u', q1, q2, -⟩ := both σ (eqv_rfl σ)
    rw [hx] at q2
    cases q2
    exact q1.1.1
  obtain ⟨τ', u, q1, q2, hm⟩ := both τ hτ
  rw [hx] at q2
  cases q2
  obtain ⟨w', -, b1, b2⟩ := q1.2.2.2.2.2.1 i hi
  have b3 := q1.2.2.2.2.2.2.1 i hi
  have hX : f_X8_elected ad σ (lN R) (nI i) (nI w) = some (if nI w = 0 then τ 10 0 i else τ 11 0 i, τ) := by
    unfold f_X8_elected
    rw [if_neg l1, e01, if_neg (nI_pos (by omega)), if_neg x5, if_neg (nI_pos (by omega)), if_pos hx6, hx, Option.bind_some]
    simp only [if_pos pi, z_clamp (show i < 2147483648 by omega)]
    by_cases q : nI w = 0
    · rw [if_pos q, if_pos q]
    · rw [if_neg q, if_neg q]
  have hM : f_X9_elected ad τ (lN R) (nI i) (nI w) = some (if nI w = 0 then τ 10 0 i else τ 11 0 i, u) := by
    unfold f_X9_elected
    rw [if_neg l1, hτ 9 0 30 rfl, e30, m_in1 (by omega) hi, Option.bind_some, i10, show f_X9_in ad τ (nI w) 0 1 = some 1 from m_in1 (n := 2) (by omega) hw, Option.bind_some, i10, hm, Option.bind_some]
    simp only [if_pos pi, z_clamp (show i < 2147483648 by omega)]
    rw [b2, ← b3, b1]
    by_cases q : nI w = 0
    · rw [if_pos q, if_pos q]
    · rw [if_neg q, if_neg q]
  exact ⟨_, τ, u, hX, hM, nO, nP, nL, S, gJ_eqv q1.1.2 hJ⟩
