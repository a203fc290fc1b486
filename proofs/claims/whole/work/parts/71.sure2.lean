/-! PURE: sure -/
theorem e_sure {ad : gA} {σ : gS} {c k : Nat} (h2 : 2 ≤ c) (hc : c ≤ 4) (hk : k + 1 ≤ 2) (hkc : k + 1 < c) (e00 : σ 0 0 0 = nI c) (e01 : σ 0 0 1 = nI (k + 1)) (e29 : σ 9 0 29 = nI c) (e30 : σ 9 0 30 = nI (k + 1)) (hbal : ∀ u, u < 35 → σ 12 0 u = σ 71 0 u) :
    ∀ (d fuel m e : Nat) (τ u : gS), d < fuel → m + d = 34 → e ≤ k + 1 → eR σ c (fun _ => m) e τ u → ∃ (r : Int32) (τ' u' : gS), (if τ 0 0 1 ≤ τ 0 0 5 then some (nI m, τ) else (f_X0_lead ad τ).bind fun q2 => if q2.1 < (35 : Int32) - nI m then f_X0_sureAfter_L7 ad f_X0_sureAfter_P52 fuel q2.2 (nI m + 1) else some (nI m, q2.2)) = some (r, τ') ∧ f_X9_sure_L21 ad f_X9_sure_P62 (fuel + 1) u (nI m) = some (r, u') ∧ eqv σ τ' ∧ eqv σ u' := by
  intro d
  induction d with
  | zero =>
    intro fuel m e τ u hf hm he h
    obtain ⟨n, rfl⟩ : ∃ n, fuel = n + 1 := ⟨fuel - 1, by omega⟩
    obtain ⟨⟨a1, a2⟩, a3, a4, a5, ⟨a6, a7⟩, a8, a9, a10⟩ := id h
    have hm : m = 34 := by omega
    unfold f_X9_sure_L21
    rw [a1 0 0 1 rfl, e01, a6, a7, a2 9 0 30 rfl, e30, z_35, if_neg (show ¬ nI 35 ≤ nI m from nI_ge (by omega) (by omega))]
    by_cases q : e = k + 1
    · rw [if_pos (show nI (k + 1) ≤ nI e from nI_le (by omega) (by omega)), if_pos (show nI e = nI (k + 1) by rw [q])]
      exact ⟨nI m, τ, u, rfl, rfl, a1, a2⟩
    · rw [if_neg (show ¬ nI (k + 1) ≤ nI e from nI_ge (by omega) (by omega)), if_neg (show ¬ nI e = nI (k + 1) from fun hh => q ((z_eq (by omega) (by omega)).mp hh))]
      obtain ⟨x, w', s1, s2⟩ := e_lead (ad := ad) h2 hc hk hkc (v := fun i => (τ 14 0 i).toNatClampNeg) ((a1 0 0 0 rfl).trans e00) ((a1 0 0 1 rfl).trans e01) ((a2 9 0 29 rfl).trans e29) ((a2 9 0 30 rfl).trans e30) (fun i hi => by
        obtain ⟨v, v0, v1, v2⟩ := a4 i hi
        dsimp only at v0 ⊢
        rw [v1, z_clamp (by omega)]; omega) (fun i hi => by
        obtain ⟨v, v0, v1, v2⟩ := a4 i hi
        dsimp only at v0 ⊢
        rw [v1, z_clamp (by omega)]) (fun i hi => by
        obtain ⟨v, v0, v1, v2⟩ := a4 i hi
        dsimp only at v0 ⊢
        rw [v1, z_clamp (by omega), v2])
      rw [s1, s2, Option.bind_some, Option.bind_some]
      have a1' : eqv σ (g_row τ 16 0 w') := eqv_row a1 (fun _ => rfl)
      have h1 : eR σ c (fun _ => m) e (g_row τ 16 0 w') u := ⟨⟨a1', a2⟩, a3, a4, a5, ⟨a6, a7⟩, a8, a9, a10⟩
      by_cases q2 : x < nI 35 - nI m
      · rw [if_pos q2, if_pos q2]
        obtain ⟨e', τ', u', t1, t2, t3, t4⟩ := e_unit (ad := ad) hc hk e00 e01 e29 e30 hbal (show m < 35 by omega) (show m < 1000 by omega) he h1
        rw [t4, Option.bind_some, nI_1]
        refine ⟨nI 35, g_row τ 16 0 w', u', ?_, ?_, a1', t2.1.2⟩
        · unfold f_X0_sureAfter_L7
          rw [z_35, if_pos (nI_le (by omega) (by omega))]
          rfl
        · unfold f_X9_sure_L21
          rw [z_35, if_pos (nI_le (by omega) (by omega))]
          rfl
      · rw [if_neg q2, if_neg q2]
        exact ⟨nI m, _, u, rfl, rfl, a1', a2⟩
  | succ d ih =>
    intro fuel m e τ u hf hm he h
    obtain ⟨n, rfl⟩ : ∃ n, fuel = n + 1 := ⟨fuel - 1, by omega⟩
    obtain ⟨⟨a1, a2⟩, a3, a4, a5, ⟨a6, a7⟩, a8, a9, a10⟩ := id h
    unfold f_X9_sure_L21
    rw [a1 0 0 1 rfl, e01, a6, a7, a2 9 0 30 rfl, e30, z_35, if_neg (show ¬ nI 35 ≤ nI m from nI_ge (by omega) (by omega))]
    by_cases q : e = k + 1
    · rw [if_pos (show nI (k + 1) ≤ nI e from nI_le (by omega) (by omega)), if_pos (show nI e = nI (k + 1) by rw [q])]
      exact ⟨nI m, τ, u, rfl, rfl, a1, a2⟩
    · rw [if_neg (show ¬ nI (k + 1) ≤ nI e from nI_ge (by omega) (by omega)), if_neg (show ¬ nI e = nI (k + 1) from fun hh => q ((z_eq (by omega) (by omega)).mp hh))]
      obtain ⟨x, w', s1, s2⟩ := e_lead (ad := ad) h2 hc hk hkc (v := fun i => (τ 14 0 i).toNatClampNeg) ((a1 0 0 0 rfl).trans e00) ((a1 0 0 1 rfl).trans e01) ((a2 9 0 29 rfl).trans e29) ((a2 9 0 30 rfl).trans e30) (fun i hi => by
        obtain ⟨v, v0, v1, v2⟩ := a4 i hi
        dsimp only at v0 ⊢
        rw [v1, z_clamp (by omega)]; omega) (fun i hi => by
        obtain ⟨v, v0, v1, v2⟩ := a4 i hi
        dsimp only at v0 ⊢
        rw [v1, z_clamp (by omega)]) (fun i hi => by
        obtain ⟨v, v0, v1, v2⟩ := a4 i hi
        dsimp only at v0 ⊢
        rw [v1, z_clamp (by omega), v2])
      rw [s1, s2, Option.bind_some, Option.bind_some]
      have a1' : eqv σ (g_row τ 16 0 w') := eqv_row a1 (fun _ => rfl)
      have h1 : eR σ c (fun _ => m) e (g_row τ 16 0 w') u := ⟨⟨a1', a2⟩, a3, a4, a5, ⟨a6, a7⟩, a8, a9, a10⟩
      by_cases q2 : x < nI 35 - nI m
      · rw [if_pos q2, if_pos q2]
        obtain ⟨e', τ', u', t1, t2, t3, t4⟩ := e_unit (ad := ad) hc hk e00 e01 e29 e30 hbal (show m < 35 by omega) (show m < 1000 by omega) he h1
        obtain ⟨r, τ2, u2, r1, r2, r3, r4⟩ := ih n (m + 1) e' τ' u' (by omega) (by omega) t1 t2
        rw [t4, Option.bind_some, nI_1]
        refine ⟨r, τ2, u2, ?_, r2, r3, r4⟩
        unfold f_X0_sureAfter_L7
        rw [if_neg (show ¬ (35 : Int32) ≤ nI (m + 1) by rw [z_35]; exact nI_ge (by omega) (by omega)), if_neg (nI_nle (by omega) (by omega)), t3, Option.bind_some]
        exact r1
      · rw [if_neg q2, if_neg q2]
        exact ⟨nI m, _, u, rfl, rfl, a1', a2⟩
theorem ok_sure : sim_sure gI := by
  intro L ad σ ⟨nO, nP, nL, S, hJ⟩ a1
  obtain ⟨⟨c, k, hck, e29, e30, e00, e01⟩, hbal, hvoted⟩ := hJ.2.2.2.2.2.2.2.2.2.2.2.2.1
  obtain ⟨k, rfl⟩ : ∃ k', k = k' + 1 := ⟨k - 1, by omega⟩
  rcases lg_cases a1 with ⟨-, l1, l2⟩ | ⟨R, hR, rfl, l1, l2⟩
  · refine ⟨-1, σ, σ, ?_, ?_, nO, nP, nL, S, hJ⟩
    · unfold f_X8_sure; rw [if_neg l2]
    · unfold f_X9_sure; rw [if_neg l2]
  have both : ∀ b, eqv σ b → ∃ r τ u, f_X8_sure ad σ (lN R) = some (r, τ) ∧ f_X9_sure ad b (lN R) = some (r, u) ∧ eqv σ τ ∧ eqv σ u := by
    intro b hb
    obtain ⟨τ0, u0, s1, s2, s3⟩ := e_begin (ad := ad) (c := c) hR (eqv_rfl σ) hb
    obtain ⟨r, τ, u, t1, t2, t3, t4⟩ := e_sure (ad := ad) (show 2 ≤ c by omega) (show c ≤ 4 by omega) (show k + 1 ≤ 2 by omega) (show k + 1 < c by omega) e00 e01 e29 e30 hbal 34 999999 0 0 τ0 u0 (by omega) (by omega) (by omega) s3
    rw [nI_0] at t1 t2
    refine ⟨r, τ, u, ?_, ?_, t3, t4⟩
    · unfold f_X8_sure f_X0_sureAfter
      rw [if_pos l2, s1, Option.bind_some, show g_fuel = 999999 + 1 from rfl]
      unfold f_X0_sureAfter_L7
      rw [if_neg (show ¬ (35 : Int32) ≤ 0 by decide), if_pos (show (0 : Int32) ≤ 0 by decide), t1]
      rfl
    · unfold f_X9_sure
      rw [if_pos l2]
      cases hd : f_X9_draw ad b 35 (lN R) with
      | none => rw [hd] at s2; cases s2
      | some d =>
        rw [hd, Option.bind_some] at s2
        rw [Option.bind_some, s2, Option.bind_some]
        exact t2
  obtain ⟨r, τ, -, hx, -, hτ, -⟩ := both σ (eqv_rfl σ)
  obtain ⟨r', τ', u, q2, hm, -, hu⟩ := both τ hτ
  rw [hx] at q2
  cases q2
  exact ⟨r, τ, u, hx, hm, nO, nP, nL, S, gJ_eqv hu hJ⟩
