/-! PURE: the counting, both sides in step -/
def eR (σ : gS) (c : Nat) (Bd : Nat → Nat) (e : Nat) (τ u : gS) : Prop :=
  (eqv σ τ ∧ eqv σ u) ∧ (∀ j, j < 35 → ∃ w, w < 35 ∧ τ 13 0 j = nI w ∧ u 72 0 j = nI w) ∧ (∀ i, i < 4 → ∃ v, v ≤ Bd i ∧ τ 14 0 i = nI v ∧ u 74 0 i = nI v) ∧ (∀ i, i < 4 → τ 15 0 i = u 75 0 i) ∧ (τ 0 0 5 = nI e ∧ u 9 0 38 = nI e) ∧ (∀ i, i < e → ∃ w, w < c ∧ τ 10 0 i = nI w ∧ u 76 0 i = nI w) ∧ (∀ i, i < e → τ 11 0 i = u 77 0 i) ∧ (∀ i, i < 4 → (u 79 0 i = 1 ∧ ∃ j, j < e ∧ τ 10 0 j = nI i) ∨ (u 79 0 i = 0 ∧ ∀ j, j < e → τ 10 0 j ≠ nI i))
section
variable {ad : gA} {σ : gS} {c k : Nat}
theorem e_elect {Bd : Nat → Nat} {e : Nat} {τ u : gS} (h : eR σ c Bd e τ u) (hc : c ≤ 4) (he : e < 2) {w : Nat} (hw : w < c) (t : Int32) : ∃ τ' u', f_X0_elect ad τ (nI w) t = some τ' ∧ f_X9_choose ad u (nI w) t = some u' ∧ eR σ c Bd (e + 1) τ' u' ∧ τ' 14 = τ 14 ∧ u' 74 = u 74 := by
  obtain ⟨⟨a1, a2⟩, a3, a4, a5, ⟨a6, a7⟩, a8, a9, a10⟩ := h
  have pe := (z_ix (n := 2) (show e < 2147483648 by omega)).mpr (by omega)
  have pw := (z_ix (n := 4) (show w < 2147483648 by omega)).mpr (by omega)
  refine ⟨g_up (g_up (g_up τ 10 0 e (nI w)) 11 0 e t) 0 0 5 (nI (e + 1)), g_up (g_up (g_up (g_up u 76 0 e (nI w)) 77 0 e t) 79 0 w 1) 9 0 38 (nI (e + 1)), ?_, ?_, ?_, rfl, rfl⟩
  · unfold f_X0_elect
    rw [a6, if_pos pe, z_clamp (by omega), g_let_e, show g_up τ 10 0 e (nI w) 0 0 5 = nI e from a6, if_pos pe, z_clamp (by omega), g_let_e, show g_up (g_up τ 10 0 e (nI w)) 11 0 e t 0 0 5 = nI e from a6, nI_1, g_let_e]
  · unfold f_X9_choose
    rw [a7, if_pos pe, z_clamp (by omega), g_let_e, show g_up u 76 0 e (nI w) 9 0 38 = nI e from a7, if_pos pe, z_clamp (by omega), g_let_e, if_pos pw, z_clamp (by omega), g_let_e, z_bo m_bo1, show g_up (g_up (g_up u 76 0 e (nI w)) 77 0 e t) 79 0 w 1 9 0 38 = nI e from a7, nI_1, g_let_e]
  · refine ⟨⟨eqv_up (eqv_up (eqv_up a1 rfl) rfl) rfl, eqv_up (eqv_up (eqv_up (eqv_up a2 rfl) rfl) rfl) rfl⟩, a3, a4, a5, ⟨up_s, up_s⟩, ?_, ?_, ?_⟩
    · intro i hi
      by_cases q : i = e
      · exact ⟨w, hw, by simp [g_up, q], by simp [g_up, q]⟩
      · obtain ⟨w', hw', q1, q2⟩ := a8 i (by omega)
        exact ⟨w', hw', by simp [g_up, q, q1], by simp [g_up, q, q2]⟩
    · intro i hi
      by_cases q : i = e
      · simp [g_up, q]
      · have := a9 i (by omega)
        simp [g_up, q, this]
    · intro i hi
      by_cases q : i = w
      · exact Or.inl ⟨by simp [g_up, q], e, by omega, by simp [g_up, q]⟩
      · rcases a10 i hi with ⟨q1, j, hj, q2⟩ | ⟨q1, q2⟩
        · refine Or.inl ⟨by simp [g_up, q, q1], j, by omega, ?_⟩
          have : ¬ j = e := by omega
          simp [g_up, this, q2]
        · refine Or.inr ⟨by simp [g_up, q, q1], fun j hj => ?_⟩
          by_cases qj : j = e
          · have : ¬ nI w = nI i := fun hh => q ((z_eq (by omega) (by omega)).mp hh).symm
            simp [g_up, qj, this]
          · have := q2 j (by omega)
            simp [g_up, qj, this]
theorem e_unitL (hc : c ≤ 4) (hk : k ≤ 2) (e00 : σ 0 0 0 = nI c) (e01 : σ 0 0 1 = nI k) (e29 : σ 9 0 29 = nI c) (e30 : σ 9 0 30 = nI k) {m B w : Nat} (hm : m < 35) (hw : w < 35) (hB : B < 1000) {b : Int32} (hb : σ 71 0 w = b) :
    ∀ (d fuel j e : Nat) (τ u : gS), d < fuel → j + d = c → e ≤ k → u 72 0 m = nI w → eR σ c (fun i => if i < j then B + 1 else B) e τ u → ∃ e' τ' u', e' ≤ k ∧ eR σ c (fun i => if i < c then B + 1 else B) e' τ' u' ∧ f_X0_countUnit_L16 ad (nI (m + 1)) f_X0_countUnit_P83 fuel τ b (nI j) = some τ' ∧ f_X9_unitVotes_L2 ad (nI m) f_X9_unitVotes_P86 fuel u (nI j) = some u' := by
  have pm := (z_ix (n := 35) (show m < 2147483648 by omega)).mpr (by omega)
  have pw := (z_ix (n := 35) (show w < 2147483648 by omega)).mpr (by omega)
  intro d
  induction d with
  | zero =>
    intro fuel j e τ u hf hj he hu h
    obtain ⟨n, rfl⟩ : ∃ n, fuel = n + 1 := ⟨fuel - 1, by omega⟩
    have : j = c := by omega
    subst this
    refine ⟨e, τ, u, he, h, ?_, ?_⟩
    · unfold f_X0_countUnit_L16
      rw [h.1.1 0 0 0 rfl, e00, if_pos (nI_le (by omega) (by omega))]; rfl
    · unfold f_X9_unitVotes_L2
      rw [h.1.2 9 0 29 rfl, e29, if_pos (nI_le (by omega) (by omega))]; rfl
  | succ d ih =>
    intro fuel j e τ u hf hj he hu h
    obtain ⟨n, rfl⟩ : ∃ n, fuel = n + 1 := ⟨fuel - 1, by omega⟩
    obtain ⟨⟨a1, a2⟩, a3, a4, a5, ⟨a6, a7⟩, a8, a9, a10⟩ := id h
    have pj := (z_ix (n := 4) (show j < 2147483648 by omega)).mpr (by omega)
    unfold f_X0_countUnit_L16 f_X9_unitVotes_L2
    rw [a1 0 0 0 rfl, e00, if_neg (nI_ge (by omega) (by omega)), a2 9 0 29 rfl, e29, if_neg (nI_ge (by omega) (by omega)), if_pos pm, z_clamp (show m < 2147483648 by omega), hu, if_pos pw, z_clamp (show w < 2147483648 by omega), a2 71 0 w rfl, hb]
    by_cases q : ((b >>> (nI j &&& 31)) &&& (1 : Int32)) = 0
    · rw [if_pos q, if_pos q, nI_1]
      refine ih n (j + 1) e τ u (by omega) (by omega) he hu ⟨⟨a1, a2⟩, a3, ?_, a5, ⟨a6, a7⟩, a8, a9, a10⟩
      intro i hi
      obtain ⟨v, hv, v1, v2⟩ := a4 i hi
      refine ⟨v, ?_, v1, v2⟩
      dsimp only at hv ⊢
      by_cases qi : i < j
      · rw [if_pos qi] at hv
        rw [if_pos (by omega)]; exact hv
      · rw [if_neg qi] at hv
        split <;> omega
    · rw [if_neg q, if_neg q]
      obtain ⟨v, hv, v1, v2⟩ := a4 j (by omega)
      dsimp only at hv
      rw [if_neg (Nat.lt_irrefl j)] at hv
      simp only [if_pos pj, z_clamp (show j < 2147483648 by omega), v1, v2, nI_1]
      rw [g_let_e, g_let_e, g_let_e, g_let_e]
      have h1 : eR σ c (fun i => if i < j + 1 then B + 1 else B) e (g_up (g_up τ 14 0 j (nI (v + 1))) 15 0 j (nI (m + 1))) (g_up (g_up u 74 0 j (nI (v + 1))) 75 0 j (nI (m + 1))) := by
        refine ⟨⟨eqv_up (eqv_up a1 rfl) rfl, eqv_up (eqv_up a2 rfl) rfl⟩, a3, ?_, ?_, ⟨a6, a7⟩, a8, a9, a10⟩
        · intro i hi
          by_cases qi : i = j
          · refine ⟨v + 1, ?_, by simp [g_up, qi], by simp [g_up, qi]⟩
            dsimp only
            rw [if_pos (by omega)]; omega
          · obtain ⟨v', hv', w1, w2⟩ := a4 i hi
            refine ⟨v', ?_, by simp [g_up, qi, w1], by simp [g_up, qi, w2]⟩
            dsimp only at hv' ⊢
            by_cases qi' : i < j
            · rw [if_pos qi'] at hv'
              rw [if_pos (by omega)]; exact hv'
            · rw [if_neg qi'] at hv'
              rw [if_neg (by omega)]; exact hv'
        · intro i hi
          by_cases qi : i = j
          · simp [g_up, qi]
          · have := a5 i hi
            simp [g_up, qi, this]
      have hu1 : g_up (g_up u 74 0 j (nI (v + 1))) 75 0 j (nI (m + 1)) 72 0 m = nI w := hu
      have r1 : g_up (g_up τ 14 0 j (nI (v + 1))) 15 0 j (nI (m + 1)) 14 0 j = nI (v + 1) := by simp [g_up]
      have r2 : g_up (g_up u 74 0 j (nI (v + 1))) 75 0 j (nI (m + 1)) 74 0 j = nI (v + 1) := by simp [g_up]
      have r3 : g_up (g_up τ 14 0 j (nI (v + 1))) 15 0 j (nI (m + 1)) 0 0 1 = nI k := (a1 0 0 1 rfl).trans e01
      have r4 : g_up (g_up τ 14 0 j (nI (v + 1))) 15 0 j (nI (m + 1)) 0 0 5 = nI e := a6
      have r5 : g_up (g_up u 74 0 j (nI (v + 1))) 75 0 j (nI (m + 1)) 9 0 30 = nI k := (a2 9 0 30 rfl).trans e30
      have r6 : g_up (g_up u 74 0 j (nI (v + 1))) 75 0 j (nI (m + 1)) 9 0 38 = nI e := a7
      rw [r1, r2, r3, r4, r5, r6]
      by_cases q18 : nI (v + 1) = (18 : Int32)
      · rw [if_pos q18, if_pos q18]
        by_cases qe : nI k ≤ nI e
        · rw [if_pos qe, if_pos qe]
          exact ih n (j + 1) e _ _ (by omega) (by omega) he hu1 h1
        · rw [if_neg qe, if_neg qe]
          have hek : e < k := by
            rw [z_le (by omega) (by omega)] at qe
            omega
          obtain ⟨τ', u', t1, t2, t3, t4, t5⟩ := e_elect (ad := ad) h1 hc (show e < 2 by omega) (show j < c by omega) (nI (m + 1))
          rw [t1, t2, Option.bind_some, Option.bind_some]
          refine ih n (j + 1) (e + 1) τ' u' (by omega) (by omega) (by omega) ?_ t3
          unfold f_X9_choose at t2
          rw [r6, if_pos ((z_ix (n := 2) (show e < 2147483648 by omega)).mpr (by omega)), g_let_e] at t2
          rw [show g_up (g_up (g_up u 74 0 j (nI (v + 1))) 75 0 j (nI (m + 1))) 76 0 (nI e).toNatClampNeg (nI j) 9 0 38 = nI e from a7, if_pos ((z_ix (n := 2) (show e < 2147483648 by omega)).mpr (by omega)), g_let_e, if_pos pj, g_let_e, g_let_e] at t2
          have := Option.some.inj t2
          rw [← this]
          exact hu
      · rw [if_neg q18, if_neg q18]
        exact ih n (j + 1) e _ _ (by omega) (by omega) he hu1 h1
theorem e_unit (hc : c ≤ 4) (hk : k ≤ 2) (e00 : σ 0 0 0 = nI c) (e01 : σ 0 0 1 = nI k) (e29 : σ 9 0 29 = nI c) (e30 : σ 9 0 30 = nI k) (hbal : ∀ u, u < 35 → σ 12 0 u = σ 71 0 u) {m B e : Nat} (hm : m < 35) (hB : B < 1000) (he : e ≤ k) {τ u : gS} (h : eR σ c (fun _ => B) e τ u) : ∃ e' τ' u', e' ≤ k ∧ eR σ c (fun _ => B + 1) e' τ' u' ∧ f_X0_countUnit ad τ (nI (m + 1)) = some τ' ∧ f_X9_unitVotes ad u (nI m) = some u' := by
  obtain ⟨w, hw, w1, w2⟩ := h.2.1 m hm
  have pm := (z_ix (n := 35) (show m < 2147483648 by omega)).mpr (by omega)
  have pw := (z_ix (n := 35) (show w < 2147483648 by omega)).mpr (by omega)
  have h0 : eR σ c (fun i => if i < 0 then B + 1 else B) e τ u := by
    have : (fun i : Nat => if i < 0 then B + 1 else B) = fun _ => B := by
      funext i
      rw [if_neg (by omega)]
    rw [this]; exact h
  obtain ⟨e', τ', u', t1, t2, t3, t4⟩ := e_unitL (ad := ad) hc hk e00 e01 e29 e30 hm hw hB (b := σ 71 0 w) rfl c g_fuel 0 e τ u (by unfold g_fuel; omega) (by omega) he w2 h0
  rw [nI_0] at t3 t4
  refine ⟨e', τ', u', t1, ?_, ?_, t4⟩
  · obtain ⟨b1, b2, b3, b4⟩ := t2
    refine ⟨b1, b2, fun i hi => ?_, b4⟩
    obtain ⟨v, hv, v1, v2⟩ := b3 i hi
    refine ⟨v, ?_, v1, v2⟩
    dsimp only at hv ⊢
    by_cases q : i < c
    · rw [if_pos q] at hv; exact hv
    · rw [if_neg q] at hv; omega
  · unfold f_X0_countUnit
    rw [nI_pred, if_pos pm, z_clamp (show m < 2147483648 by omega), w1, if_pos pw, z_clamp (show w < 2147483648 by omega), h.1.1 12 0 w rfl, hbal w hw]
    exact t3
/-- the best of those left -/
theorem e_isEl {e : Nat} {τ : gS} (he : e ≤ 2) (a6 : τ 0 0 5 = nI e) {i : Nat} :
    ∀ (d fuel j : Nat), d < fuel → j + d = e → ((∀ x, j ≤ x → x < e → τ 10 0 x ≠ nI i) → f_X0_isElected_L2 τ (nI i) f_X0_isElected_P28 fuel (nI j) = some 0) ∧ ((∃ x, j ≤ x ∧ x < e ∧ τ 10 0 x = nI i) → f_X0_isElected_L2 τ (nI i) f_X0_isElected_P28 fuel (nI j) = some 1) := by
  intro d
  induction d with
  | zero =>
    intro fuel j hf hj
    obtain ⟨n, rfl⟩ : ∃ n, fuel = n + 1 := ⟨fuel - 1, by omega⟩
    unfold f_X0_isElected_L2
    rw [a6, if_pos (nI_le (by omega) (by omega))]
    exact ⟨fun _ => rfl, fun ⟨x, h1, h2, _⟩ => by omega⟩
  | succ d ih =>
    intro fuel j hf hj
    obtain ⟨n, rfl⟩ : ∃ n, fuel = n + 1 := ⟨fuel - 1, by omega⟩
    have pj := (z_ix (n := 2) (show j < 2147483648 by omega)).mpr (by omega)
    obtain ⟨i1, i2⟩ := ih n (j + 1) (by omega) (by omega)
    unfold f_X0_isElected_L2
    rw [a6, if_neg (nI_ge (by omega) (by omega)), if_pos pj, z_clamp (by omega), nI_1]
    by_cases q : τ 10 0 j = nI i
    · rw [if_pos q]
      exact ⟨fun h => absurd q (h j (by omega) (by omega)), fun _ => rfl⟩
    · rw [if_neg q]
      refine ⟨fun h => i1 fun x h1 h2 => h x (by omega) h2, fun ⟨x, h1, h2, h3⟩ => i2 ⟨x, ?_, h2, h3⟩⟩
      by_cases qx : x = j
      · rw [qx] at h3; exact absurd h3 q
      · omega
theorem e_best (hc : c ≤ 4) (e00 : σ 0 0 0 = nI c) (e29 : σ 9 0 29 = nI c) {Bd : Nat → Nat} {e : Nat} (he : e ≤ 2) {τ u : gS} (h : eR σ c Bd e τ u) (K : gS → Int32 → Option gS) :
    ∀ (d fuel j : Nat) (v : Int32), d < fuel → j + d = c → (v = -1 ∨ ∃ b, b < j ∧ v = nI b) → ∃ v', f_X0_bestOfRest_L4 ad τ f_X0_bestOfRest_P42 fuel v (nI j) = some v' ∧ f_X9_elect_L46 K fuel u v (nI j) = K u v' ∧ (v' = -1 ∨ ∃ b, b < c ∧ v' = nI b) ∧ (v ≠ -1 → v' ≠ -1) ∧ ((∃ i, j ≤ i ∧ i < c ∧ u 79 0 i = 0) → v' ≠ -1) := by
  obtain ⟨⟨a1, a2⟩, a3, a4, a5, ⟨a6, a7⟩, a8, a9, a10⟩ := id h
  have nm : ∀ b : Nat, b < 4 → nI b ≠ -1 := fun b hb => by
    intro hh
    have := z_eqm1 (show b < 2147483648 by omega)
    rw [hh] at this
    simp at this
  intro d
  induction d with
  | zero =>
    intro fuel j v hf hj hv
    obtain ⟨n, rfl⟩ : ∃ n, fuel = n + 1 := ⟨fuel - 1, by omega⟩
    have : j = c := by omega
    subst this
    refine ⟨v, ?_, ?_, hv, id, fun ⟨i, h1, h2, _⟩ => by omega⟩
    · unfold f_X0_bestOfRest_L4
      rw [a1 0 0 0 rfl, e00, if_pos (nI_le (by omega) (by omega))]; rfl
    · unfold f_X9_elect_L46
      rw [a2 9 0 29 rfl, e29, if_pos (nI_le (by omega) (by omega))]
  | succ d ih =>
    intro fuel j v hf hj hv
    obtain ⟨n, rfl⟩ : ∃ n, fuel = n + 1 := ⟨fuel - 1, by omega⟩
    have pj := (z_ix (n := 4) (show j < 2147483648 by omega)).mpr (by omega)
    obtain ⟨s1, s2⟩ := e_isEl (τ := τ) (i := j) he a6 e g_fuel 0 (by unfold g_fuel; omega) (by omega)
    rw [nI_0] at s1 s2
    unfold f_X0_bestOfRest_L4 f_X9_elect_L46
    rw [a1 0 0 0 rfl, e00, if_neg (nI_ge (by omega) (by omega)), a2 9 0 29 rfl, e29, if_neg (nI_ge (by omega) (by omega))]
    simp only [if_pos pj, z_clamp (show j < 2147483648 by omega)]
    rcases a10 j (by omega) with ⟨q1, x, hx, q2⟩ | ⟨q1, q2⟩
    · rw [show f_X0_isElected ad τ (nI j) = some 1 from s2 ⟨x, by omega, hx, q2⟩, Option.bind_some, i10, q1, i10, nI_1]
      obtain ⟨v', t1, t2, t3, t4, t5⟩ := ih n (j + 1) v (by omega) (by omega) (by
        rcases hv with hv | ⟨b, hb, hv⟩
        · exact Or.inl hv
        · exact Or.inr ⟨b, by omega, hv⟩)
      refine ⟨v', t1, t2, t3, t4, fun ⟨i, h1, h2, h3⟩ => t5 ⟨i, ?_, h2, h3⟩⟩
      by_cases qi : i = j
      · rw [qi, q1] at h3; exact absurd h3 (by decide)
      · omega
    · rw [show f_X0_isElected ad τ (nI j) = some 0 from s1 (fun x _ hx => q2 x hx), Option.bind_some, i00, q1, i00, nI_1]
      obtain ⟨w', r1, r2, r3, r4, r5⟩ := ih n (j + 1) (nI j) (by omega) (by omega) (Or.inr ⟨j, by omega, rfl⟩)
      rcases hv with hv | ⟨b, hb, hv⟩
      · rw [hv, im1, iml]
        exact ⟨w', r1, r2, r3, fun hh => absurd rfl hh, fun _ => r4 (nm j (by omega))⟩
      · have pb := (z_ix (n := 4) (show b < 2147483648 by omega)).mpr (by omega)
        obtain ⟨v1, _, b1, b2⟩ := a4 j (by omega)
        obtain ⟨v2, _, b3, b4⟩ := a4 b (by omega)
        have b5 := a5 j (by omega)
        have b6 := a5 b (by omega)
        obtain ⟨v', t1, t2, t3, t4, t5⟩ := ih n (j + 1) v (by omega) (by omega) (Or.inr ⟨b, by omega, hv⟩)
        have hvm : v ≠ -1 := by rw [hv]; exact nm b (by omega)
        rw [if_neg hvm]
        unfold f_X0_isAhead
        rw [if_neg (show ¬ v < 0 by rw [hv]; exact nI_pos (by omega))]
        rw [hv] at t1 t2 ⊢
        simp only [if_pos pj, if_pos pb, z_clamp (show j < 2147483648 by omega), z_clamp (show b < 2147483648 by omega)]
        rw [← b5, ← b6, b2, b4, b1, b3]
        by_cases c1 : nI v1 = nI v2
        · rw [if_pos c1, if_pos c1]
          have : ¬ nI v2 < nI v1 := by rw [c1]; exact Int32.lt_irrefl
          rw [if_neg this]
          by_cases c2 : τ 15 0 b ≤ τ 15 0 j
          · rw [if_pos c2, if_pos c2, Option.bind_some, i00]
            exact ⟨v', t1, t2, t3, fun _ => t4 hvm, fun _ => t4 hvm⟩
          · rw [if_neg c2, if_neg c2, Option.bind_some, i10]
            exact ⟨w', r1, r2, r3, fun _ => r4 (nm j (by omega)), fun _ => r4 (nm j (by omega))⟩
        · rw [if_neg c1, if_neg c1]
          by_cases c2 : nI v1 ≤ nI v2
          · rw [if_pos c2, if_neg (z_not_lt.mpr c2), Option.bind_some, i00]
            exact ⟨v', t1, t2, t3, fun _ => t4 hvm, fun _ => t4 hvm⟩
          · rw [if_neg c2, if_pos (z_not_le.mp c2), Option.bind_some, i10]
            exact ⟨w', r1, r2, r3, fun _ => r4 (nm j (by omega)), fun _ => r4 (nm j (by omega))⟩
/-- the rest are elected -/
theorem e_rest (hc : c ≤ 4) (hk : k ≤ 2) (hkc : k < c) (e00 : σ 0 0 0 = nI c) (e01 : σ 0 0 1 = nI k) (e29 : σ 9 0 29 = nI c) (e30 : σ 9 0 30 = nI k) {Bd : Nat → Nat} :
    ∀ (d fuel e : Nat) (τ u : gS), d < fuel → e + d = k → eR σ c Bd e τ u → ∃ τ' u', eR σ c Bd k τ' u' ∧ f_X0_electRest_L5 ad f_X0_electRest_P29 fuel τ (nI e) = some τ' ∧ f_X9_elect_L30 ad f_X9_elect_P139 fuel u = some u' := by
  intro d
  induction d with
  | zero =>
    intro fuel e τ u hf hj h
    obtain ⟨n, rfl⟩ : ∃ n, fuel = n + 1 := ⟨fuel - 1, by omega⟩
    have : e = k := by omega
    subst this
    refine ⟨τ, u, h, ?_, ?_⟩
    · unfold f_X0_electRest_L5
      rw [h.1.1 0 0 1 rfl, e01, if_pos (nI_le (by omega) (by omega))]; rfl
    · unfold f_X9_elect_L30
      rw [h.1.2 9 0 30 rfl, e30, h.2.2.2.2.1.2, if_pos (nI_le (by omega) (by omega))]; rfl
  | succ d ih =>
    intro fuel e τ u hf hj h
    obtain ⟨n, rfl⟩ : ∃ n, fuel = n + 1 := ⟨fuel - 1, by omega⟩
    obtain ⟨v, t1, t2, t3, t4, t5⟩ := e_best (ad := ad) hc e00 e29 (show e ≤ 2 by omega) h (f_X9_elect_P129 ad (f_X9_elect_L30 ad f_X9_elect_P139 n)) c g_fuel 0 (-1) (by unfold g_fuel; omega) (by omega) (Or.inl rfl)
    rw [nI_0] at t1 t2
    have hv : v ≠ -1 := by
      apply t5
      -- one who was not elected
      have hex : ∃ i, i < c ∧ ∀ x, x < e → τ 10 0 x ≠ nI i := by
        rcases (show e = 0 ∨ e = 1 by omega) with he | he
        · exact ⟨0, by omega, fun x hx => by omega⟩
        · by_cases q : τ 10 0 0 = nI 0
          · refine ⟨1, by omega, fun x hx => ?_⟩
            rw [show x = 0 by omega, q]
            intro hh
            have := (z_eq (by omega) (by omega)).mp hh
            omega
          · refine ⟨0, by omega, fun x hx => ?_⟩
            rw [show x = 0 by omega]; exact q
      obtain ⟨i, hi, hx⟩ := hex
      refine ⟨i, by omega, hi, ?_⟩
      rcases h.2.2.2.2.2.2.2 i (by omega) with ⟨-, x, hx', q⟩ | ⟨q, -⟩
      · exact absurd q (hx x hx')
      · exact q
    rcases t3 with t3 | ⟨b, hb, t3⟩
    · exact absurd t3 hv
    subst t3
    obtain ⟨τ', u', s1, s2, s3, -, -⟩ := e_elect (ad := ad) h hc (show e < 2 by omega) hb 35
    obtain ⟨τ2, u2, r1, r2, r3⟩ := ih n (e + 1) τ' u' (by omega) (by omega) s3
    refine ⟨τ2, u2, r1, ?_, ?_⟩
    · unfold f_X0_electRest_L5
      rw [h.1.1 0 0 1 rfl, e01, if_neg (nI_ge (by omega) (by omega)), show f_X0_bestOfRest ad τ = some (nI b) from t1, Option.bind_some, s1, Option.bind_some, nI_1]
      exact r2
    · unfold f_X9_elect_L30
      rw [h.1.2 9 0 30 rfl, e30, h.2.2.2.2.1.2, if_neg (nI_ge (by omega) (by omega)), t2]
      unfold f_X9_elect_P129
      rw [s2, Option.bind_some]
      exact r3
end
