/-! PURE: election, vote -/
theorem m_el0 (K : gS → Int32 → Option (Int32 × gS)) (v3 : Int32) :
    ∀ (d fuel k : Nat) (σ : gS), d < fuel → k + d = 35 → f_X9_election_L45 K fuel σ v3 (nI k) = K (g_row σ 71 0 (fun j => if k ≤ j ∧ j < 35 then 0 else σ 71 0 j)) v3 := by
  intro d
  induction d with
  | zero =>
    intro fuel k σ hf hk
    obtain ⟨m, rfl⟩ : ∃ m, fuel = m + 1 := ⟨fuel - 1, by omega⟩
    unfold f_X9_election_L45
    rw [z_35, if_pos (nI_le (by omega) (by omega)), row_self]
    intro j
    rw [if_neg (by omega)]
  | succ d ih =>
    intro fuel k σ hf hk
    obtain ⟨m, rfl⟩ : ∃ m, fuel = m + 1 := ⟨fuel - 1, by omega⟩
    have pk := (z_ix (n := 35) (show k < 2147483648 by omega)).mpr (by omega)
    unfold f_X9_election_L45
    rw [z_35, if_neg (nI_ge (by omega) (by omega)), if_pos pk, z_clamp (by omega), nI_1]
    simp only [g_let]
    rw [ih m (k + 1) _ (by omega) (by omega), up_row]
    congr 2
    funext j
    by_cases q1 : k + 1 ≤ j ∧ j < 35
    · rw [if_pos q1, if_pos (by omega)]
    · rw [if_neg q1]
      by_cases q2 : j = k
      · subst q2
        rw [if_pos (by omega), up_s]
      · rw [if_neg (by omega), up_j q2]
theorem cnt_zero {f : Nat → Bool} {n : Nat} (h : ∀ j, j < n → f j = false) : cntN f n = 0 := by
  induction n with
  | zero => rfl
  | succ n ih => simp [cntN, ih (fun j hj => h j (by omega)), h n (by omega)]
def el1 (σ : gS) (c k : Nat) : gS := g_row (g_up (g_up (g_up σ 0 0 0 (nI c)) 0 0 1 (nI k)) 0 0 2 0) 12 0 (fun j => if j < 35 then 0 else g_up (g_up (g_up σ 0 0 0 (nI c)) 0 0 1 (nI k)) 0 0 2 0 12 0 j)
def el2 (τ : gS) (c k : Nat) : gS := g_row (g_up (g_up τ 9 0 29 (nI c)) 9 0 30 (nI k)) 71 0 (fun j => if 0 ≤ j ∧ j < 35 then 0 else g_up (g_up τ 9 0 29 (nI c)) 9 0 30 (nI k) 71 0 j)
theorem el_X {ad : gA} {σ : gS} {c k : Nat} (x4 : ¬ nI c < 2) (x5 : nI c ≤ 4) (x6 : ¬ nI k < 1) (x7 : ¬ 2 < nI k) (x8 : nI k < nI c) : f_X8_election ad σ (nI c) (nI k) = some (σ 0 0 2, el1 σ c k) := by
  unfold f_X8_election f_X0_open
  rw [if_neg x4, if_pos x5, if_neg x6, if_neg x7, if_pos x8]
  simp only [g_let, x_fillI (show 35 ≤ 4800 by omega), Option.bind_some]
  rfl
theorem el_M1 {τ : gS} : f_X9_voted_L4 τ f_X9_voted_P33 g_fuel 0 0 = some (nI (cntN (balB τ) 35)) := by
  have hbal := m_voted (σ := τ) 35 g_fuel 0 (by unfold g_fuel; omega) (by omega)
  rw [show cntN (balB τ) 0 = 0 from rfl, nI_0] at hbal
  exact hbal
theorem el_M2 {τ : gS} {c k : Nat} : f_X9_election_L45 f_X9_election_P66 g_fuel (g_up (g_up τ 9 0 29 (nI c)) 9 0 30 (nI k)) (nI (cntN (balB τ) 35)) 0 = f_X9_election_P66 (el2 τ c k) (nI (cntN (balB τ) 35)) := by
  have hel := m_el0 f_X9_election_P66 (nI (cntN (balB τ) 35)) 35 g_fuel 0 (g_up (g_up τ 9 0 29 (nI c)) 9 0 30 (nI k)) (by unfold g_fuel; omega) (by omega)
  rw [nI_0] at hel
  exact hel
theorem g_let_e {α β : Type} (x : β) (k : β → Option α) : g_let x k = k x := rfl
theorem el_M {ad : gA} {τ : gS} {c k : Nat} (in4' : f_X9_in ad τ (nI c) 2 4 = some 1) (in2' : f_X9_in ad τ (nI k) 1 2 = some 1) (x8 : nI k < nI c) : f_X9_election ad τ (nI c) (nI k) = some (nI (cntN (balB τ) 35), el2 τ c k) := by
  have hbal := el_M1 (τ := τ)
  have hel := el_M2 (τ := τ) (c := c) (k := k)
  have hv : f_X9_voted ad τ = some (nI (cntN (balB τ) 35)) := hbal
  unfold f_X9_election
  rw [in4', Option.bind_some, i10, in2', Option.bind_some, i10, if_pos x8, hv, Option.bind_some, g_let_e, g_let_e]
  exact hel
theorem el_J {nO nP nL : Nat} {S : Nat → Nat} {L : gL} {ad : gA} {σ : gS} (hJ : gJ nO nP nL S L ad σ) {c k : Nat} (hck : 2 ≤ c ∧ c ≤ 4 ∧ 1 ≤ k ∧ k ≤ 2 ∧ k < c) : gJ nO nP nL S L ad (el2 (el1 σ c k) c k) := by
  obtain ⟨h1, h2, h3, h4, h5, h6, h7, h8, h9, h10, h11, h12, h13, h14, h15⟩ := id hJ
  obtain ⟨⟨hO, hP, hL⟩, ⟨m1, m2, m3⟩, ⟨x1, x2, x3⟩⟩ := id h1
  refine ⟨K_cnt rfl rfl rfl rfl rfl rfl h1, K_ref rfl rfl rfl rfl h2, K_off rfl rfl rfl h3, K_per rfl rfl rfl rfl rfl rfl rfl rfl h4, K_kin (σ := σ) (fun q => rfl) rfl h5, K_lawM rfl rfl rfl rfl h6, K_lawX rfl rfl rfl rfl rfl rfl h7, K_seat rfl rfl rfl h8, K_place rfl rfl h9, K_code rfl rfl rfl h10, K_post rfl rfl rfl h11, K_num rfl rfl rfl rfl h12, ?_, K_sh rfl rfl rfl rfl rfl rfl rfl h14, h15⟩
  refine ⟨⟨c, k, hck, ?_, ?_, ?_, ?_⟩, ?_, ?_⟩
  · simp [el2, el1, g_row, g_up]
  · simp [el2, el1, g_row, g_up]
  · simp [el2, el1, g_row, g_up]
  · simp [el2, el1, g_row, g_up]
  · intro u hu
    simp [el2, el1, g_row, g_up, hu]
  · rw [cnt_zero]
    · simp [el2, el1, g_row, g_up, nI_0]
    · intro u hu
      simp [balB, el2, g_row, hu]
theorem ok_election : sim_election gI := by
  intro L ad σ ⟨nO, nP, nL, S, hJ⟩ a1 a2
  obtain ⟨h1, h2, h3, h4, h5, h6, h7, h8, h9, h10, h11, h12, h13, h14, h15⟩ := id hJ
  obtain ⟨⟨hO, hP, hL⟩, ⟨m1, m2, m3⟩, ⟨x1, x2, x3⟩⟩ := id h1
  have hc : (a1 < 2 ∨ 4 < a1) ∨ ∃ c : Nat, 2 ≤ c ∧ c ≤ 4 ∧ a1 = nI c := by
    rcases z_cases a1 (n := 5) (by omega) with (h | h) | ⟨j, hj, e⟩
    · exact Or.inl (Or.inl (Int32.lt_trans h (by decide)))
    · exact Or.inl (Or.inr (Int32.lt_of_lt_of_le (by decide : (4 : Int32) < nI 5) h))
    · by_cases q : j < 2
      · refine Or.inl (Or.inl ?_)
        rw [e, z_2]; exact nI_lt q (by omega)
      · exact Or.inr ⟨j, by omega, by omega, e⟩
  have hk : (a2 < 1 ∨ 2 < a2) ∨ ∃ k : Nat, 1 ≤ k ∧ k ≤ 2 ∧ a2 = nI k := by
    rcases z_cases a2 (n := 3) (by omega) with (h | h) | ⟨j, hj, e⟩
    · exact Or.inl (Or.inl (Int32.lt_trans h (by decide)))
    · exact Or.inl (Or.inr (Int32.lt_of_lt_of_le (by decide : (2 : Int32) < nI 3) h))
    · by_cases q : j < 1
      · refine Or.inl (Or.inl ?_)
        rw [e, z_1]; exact nI_lt q (by omega)
      · exact Or.inr ⟨j, by omega, by omega, e⟩
  have in4 : ∀ τ : gS, (a1 < 2 ∨ 4 < a1) → f_X9_in ad τ a1 2 4 = some 0 := by
    intro τ h
    unfold f_X9_in
    by_cases q : a1 < 2
    · rw [if_pos q]
    · rcases h with h | h
      · exact absurd h q
      · rw [if_neg q, if_pos h]
  have in2 : ∀ τ : gS, (a2 < 1 ∨ 2 < a2) → f_X9_in ad τ a2 1 2 = some 0 := by
    intro τ h
    unfold f_X9_in
    by_cases q : a2 < 1
    · rw [if_pos q]
    · rcases h with h | h
      · exact absurd h q
      · rw [if_neg q, if_pos h]
  rcases hc with hc | ⟨c, hc1, hc2, rfl⟩
  · refine ⟨-1, σ, σ, ?_, ?_, nO, nP, nL, S, hJ⟩
    · unfold f_X8_election
      rcases hc with hc | hc
      · rw [if_pos hc]
      · by_cases q : a1 < 2
        · rw [if_pos q]
        · rw [if_neg q, if_neg (z_not_le.mpr hc)]
    · unfold f_X9_election; rw [in4 σ hc]; rfl
  have x4 : ¬ nI c < 2 := by rw [z_2]; exact nI_nlt (by omega) (by omega)
  have x5 : nI c ≤ 4 := by rw [z_4]; exact nI_le (by omega) (by omega)
  have in4' : ∀ τ : gS, f_X9_in ad τ (nI c) 2 4 = some 1 := by
    intro τ
    unfold f_X9_in
    rw [if_neg x4, if_neg (z_not_lt.mpr x5)]
  rcases hk with hk | ⟨k, hk1, hk2, rfl⟩
  · refine ⟨-1, σ, σ, ?_, ?_, nO, nP, nL, S, hJ⟩
    · unfold f_X8_election; rw [if_neg x4, if_pos x5]
      rcases hk with hk | hk
      · rw [if_pos hk]
      · by_cases q : a2 < 1
        · rw [if_pos q]
        · rw [if_neg q, if_pos hk]
    · unfold f_X9_election; rw [in4', in2 σ hk]; rfl
  have x6 : ¬ nI k < 1 := by rw [z_1]; exact nI_nlt (by omega) (by omega)
  have x7 : ¬ 2 < nI k := by rw [z_2]; exact nI_nlt (by omega) (by omega)
  have in2' : ∀ τ : gS, f_X9_in ad τ (nI k) 1 2 = some 1 := by
    intro τ
    unfold f_X9_in
    rw [if_neg x6, if_neg x7]
  by_cases hkc : k < c
  · refine ⟨nI (cntN (balB σ) 35), el1 σ c k, el2 (el1 σ c k) c k, ?_, ?_, nO, nP, nL, S, el_J hJ ⟨hc1, hc2, hk1, hk2, hkc⟩⟩
    · rw [el_X x4 x5 x6 x7 (nI_lt hkc (by omega)), h13.2.2]
    · rw [el_M (in4' _) (in2' _) (nI_lt hkc (by omega)), show balB (el1 σ c k) = balB σ by funext u; simp [balB, el1, g_row, g_up]]
  · refine ⟨-1, σ, σ, ?_, ?_, nO, nP, nL, S, hJ⟩
    · unfold f_X8_election; rw [if_neg x4, if_pos x5, if_neg x6, if_neg x7, if_neg (nI_nlt (by omega) (by omega))]
    · unfold f_X9_election; rw [in4', in2', Option.bind_some, i10, Option.bind_some, i10, if_neg (nI_nlt (by omega) (by omega))]
theorem v_sh : ∀ c : Nat, c < 5 → (1 : Int32) <<< (nI c &&& 31) = nI (2 ^ c) := by decide +kernel
theorem v_ones : ∀ b : Nat, b < 16 → ∀ (ad : gA) (σ : gS), f_J6_bitCount_0f7a4 ad σ (nI b) = f_X9_ones ad σ (nI b) := by
  intro b hb ad σ
  unfold f_J6_bitCount_0f7a4 f_X9_ones
  revert b
  decide +kernel
theorem ok_vote : sim_vote gI := by
  intro L ad σ ⟨nO, nP, nL, S, hJ⟩ a1 a2
  obtain ⟨h1, h2, h3, h4, h5, h6, h7, h8, h9, h10, h11, h12, h13, h14, h15⟩ := id hJ
  obtain ⟨⟨hO, hP, hL⟩, ⟨m1, m2, m3⟩, ⟨x1, x2, x3⟩⟩ := id h1
  obtain ⟨⟨c, k, hck, e29, e30, e00, e01⟩, hbal, hvoted⟩ := id h13
  rcases z_cases a1 (n := 35) (by omega) with h | ⟨u, hu, rfl⟩
  · refine ⟨-1, σ, σ, ?_, ?_, nO, nP, nL, S, hJ⟩
    · unfold f_X8_vote
      rcases h with h | h
      · rw [if_pos h]
      · rw [if_neg (z_nI_le (by omega) h), z_35, if_pos h]
    · unfold f_X9_vote; rw [show (34 : Int32) = nI 35 - 1 from rfl, m_in0 (by omega) h]; rfl
  have pu := (z_ix (n := 35) (show u < 2147483648 by omega)).mpr (by omega)
  have xu : ∀ (α : Type) (x y z : α), (if nI u < 0 then x else if (35 : Int32) ≤ nI u then y else z) = z := by
    intro α x y z
    rw [if_neg (nI_pos (by omega)), z_35, if_neg (nI_ge (by omega) (by omega))]
  have hm1 : ∀ τ : gS, f_X9_in ad τ (nI u) 0 34 = some 1 := fun τ => m_in1 (n := 35) (by omega) hu
  have h2c : 2 ^ c ≤ 16 := by
    rcases (show c = 2 ∨ c = 3 ∨ c = 4 by omega) with e | e | e <;> subst e <;> decide
  rcases z_cases a2 (n := 2 ^ c) (by omega) with h | ⟨b, hb, rfl⟩
  · refine ⟨-1, σ, σ, ?_, ?_, nO, nP, nL, S, hJ⟩
    · unfold f_X8_vote f_X0_isBallot; rw [xu, e00, v_sh c (by omega)]
      rcases h with h | h
      · rw [if_pos h]; rfl
      · rw [if_neg (z_nI_le (by omega) h), if_pos h]; rfl
    · unfold f_X9_vote; rw [hm1, Option.bind_some, i10, e29, v_sh c (by omega), m_in0 (by omega) h]; rfl
  have hx1 : f_X0_isBallot ad σ (nI b) = (f_X9_ones ad σ (nI b)).bind fun q1 => if q1 = nI k then some 1 else some 0 := by
    unfold f_X0_isBallot
    rw [if_neg (nI_pos (by omega)), e00, v_sh c (by omega), if_neg (nI_ge hb (by omega)), v_ones b (by omega), e01]
  obtain ⟨q, hq⟩ : ∃ q, ∀ τ : gS, f_X9_ones ad τ (nI b) = some q := ⟨_, fun _ => rfl⟩
  rw [hq, Option.bind_some] at hx1
  by_cases qk : q = nI k
  · rw [if_pos qk] at hx1
    have fin : ∀ x : Int32, (σ 71 0 u = 0 → x = σ 0 0 2 + 1) → (¬ σ 71 0 u = 0 → x = σ 0 0 2) → nI b ≠ 0 → gI L ad (g_up (g_up (g_up σ 0 0 2 x) 12 0 u (nI b)) 71 0 u (nI b)) := by
      intro x hx0 hx1 hb0
      refine ⟨nO, nP, nL, S, K_cnt rfl rfl rfl rfl rfl rfl h1, K_ref rfl rfl rfl rfl h2, K_off rfl rfl rfl h3, K_per rfl rfl rfl rfl rfl rfl rfl rfl h4, K_kin (σ := σ) (fun q => rfl) rfl h5, K_lawM rfl rfl rfl rfl h6, K_lawX rfl rfl rfl rfl rfl rfl h7, K_seat rfl rfl rfl h8, K_place rfl rfl h9, K_code rfl rfl rfl h10, K_post rfl rfl rfl h11, K_num rfl rfl rfl rfl h12, ?_, K_sh rfl rfl rfl rfl rfl rfl rfl h14, h15⟩
      refine ⟨⟨c, k, hck, e29, e30, e00, e01⟩, ?_, ?_⟩
      · intro u' hu'
        by_cases e : u' = u
        · simp [g_up, e]
        · simp [g_up, e, hbal u' hu']
      · show x = nI (cntN (balB (g_up (g_up (g_up σ 0 0 2 x) 12 0 u (nI b)) 71 0 u (nI b))) 35)
        have ho : ∀ j, j ≠ u → balB (g_up (g_up (g_up σ 0 0 2 x) 12 0 u (nI b)) 71 0 u (nI b)) j = balB σ j := by
          intro j hj
          simp [balB, g_up, hj]
        have hu1 : balB (g_up (g_up (g_up σ 0 0 2 x) 12 0 u (nI b)) 71 0 u (nI b)) u = true := by simp [balB, g_up, hb0]
        by_cases q0 : σ 71 0 u = 0
        · rw [cnt_flip (f := balB σ) hu (by simp [balB, q0]) hu1 ho, hx0 q0, hvoted, nI_1]
        · have hcn : cntN (balB (g_up (g_up (g_up σ 0 0 2 x) 12 0 u (nI b)) 71 0 u (nI b))) 35 = cntN (balB σ) 35 := by
            refine cnt_eq fun j _ => ?_
            by_cases e : j = u
            · rw [e, hu1]
              simp [balB, q0]
            · exact ho j e
          rw [hcn, hx1 q0, hvoted]
    have hb0 : nI b ≠ 0 := by
      intro e
      rw [e] at hq
      have h0 := hq σ
      unfold f_X9_ones at h0
      have : q = 0 := by
        have h1 : some q = some (0 : Int32) := h0.symm.trans (by decide +kernel)
        exact Option.some.inj h1
      rw [this] at qk
      have := (z_eq0 (show k < 2147483648 by omega)).mp qk.symm
      omega
    have hself : ∀ τ : gS, g_up τ 0 0 2 (τ 0 0 2) = τ := by
      intro τ
      funext K i j
      unfold g_up
      by_cases q : K = 0 ∧ i = 0 ∧ j = 2
      · rw [if_pos q, q.1, q.2.1, q.2.2]
      · rw [if_neg q]
    have hM : ∀ τ : gS, τ 9 = σ 9 → τ 71 = σ 71 → f_X9_vote ad τ (nI u) (nI b) = some (if σ 71 0 u = nI b then 0 else 1, g_up τ 71 0 u (nI b)) := by
      intro τ t1 t2
      unfold f_X9_vote
      rw [hm1, Option.bind_some, i10, t1, e29, v_sh c (by omega), m_in1 (by omega) hb, Option.bind_some, i10, hq, Option.bind_some, e30, if_pos qk]
      simp only [if_pos pu, g_let, z_clamp (show u < 2147483648 by omega), t2]
      by_cases q1 : σ 71 0 u = nI b
      · rw [if_pos q1, if_pos q1]
      · rw [if_neg q1, if_neg q1]
    by_cases q0 : σ 71 0 u = 0
    · have q0' : σ 12 0 u = 0 := (hbal u hu).trans q0
      have f1 := fin (σ 0 0 2 + 1) (fun _ => rfl) (fun h => absurd q0 h) hb0
      refine ⟨_, g_up (g_up σ 0 0 2 (σ 0 0 2 + 1)) 12 0 u (nI b), _, ?_, hM _ rfl rfl, f1⟩
      unfold f_X8_vote f_X0_take
      rw [xu, hx1, Option.bind_some, i10]
      simp only [g_let, if_pos pu, z_clamp (show u < 2147483648 by omega), if_pos q0']
      rw [hbal u hu]
      by_cases q1 : σ 71 0 u = nI b
      · rw [if_pos q1, if_pos q1]; rfl
      · rw [if_neg q1, if_neg q1]; rfl
    · have q0' : ¬ σ 12 0 u = 0 := fun h => q0 ((hbal u hu).symm.trans h)
      have f1 := fin (σ 0 0 2) (fun h => absurd h q0) (fun _ => rfl) hb0
      rw [hself] at f1
      refine ⟨_, g_up σ 12 0 u (nI b), _, ?_, hM _ rfl rfl, f1⟩
      unfold f_X8_vote f_X0_take
      rw [xu, hx1, Option.bind_some, i10]
      simp only [g_let, if_pos pu, z_clamp (show u < 2147483648 by omega), if_neg q0']
      rw [hbal u hu]
      by_cases q1 : σ 71 0 u = nI b
      · rw [if_pos q1, if_pos q1]; rfl
      · rw [if_neg q1, if_neg q1]; rfl
  · rw [if_neg qk] at hx1
    refine ⟨-1, σ, σ, ?_, ?_, nO, nP, nL, S, hJ⟩
    · unfold f_X8_vote; rw [xu, hx1]; rfl
    · unfold f_X9_vote; rw [hm1, Option.bind_some, i10, e29, v_sh c (by omega), m_in1 (by omega) hb, Option.bind_some, i10, hq, Option.bind_some, e30, if_neg qk]
