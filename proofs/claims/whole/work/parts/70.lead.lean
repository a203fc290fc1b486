/-! PURE: the lead, by both -/
theorem rw_up {σ : gS} {K i j : Nat} {w : Nat → Int32} {x : Int32} : g_up (g_row σ K i w) K i j x = g_row σ K i (upd w j x) := by
  funext K' i' j'
  unfold g_row g_up upd
  by_cases h : K' = K ∧ i' = i
  · by_cases q : j' = j
    · simp [h, q]
    · simp [h, q]
  · rw [if_neg (fun hh => h ⟨hh.1, hh.2.1⟩), if_neg h]
    exact if_neg h
theorem x_leadL {v : Nat → Nat} (hv : ∀ i, i < 4 → v i < 1000) {K : gS → Int32 → Int32 → Option (Int32 × gS)} {j : Nat} (hj : j < 4) {r : Nat → Nat} {τ : gS} (h14 : ∀ i, i < 4 → τ 14 0 i = nI (v i)) (hr : ∀ i, i < j → r i < 1000) :
    ∀ (p fuel : Nat) (w : Nat → Int32), p < fuel → p ≤ j → (∀ i, i < p → w i = nI (r i)) → (∀ i, p < i → i ≤ j → w i = nI (r (i - 1))) → (∀ q, p ≤ q → q < j → r q < v j) → ∃ (t : Nat) (w' : Nat → Int32), t ≤ j ∧ (∀ q, t ≤ q → q < j → r q < v j) ∧ (t = 0 ∨ v j ≤ r (t - 1)) ∧ (∀ i, i < t → w' i = nI (r i)) ∧ (∀ i, t < i → i ≤ j → w' i = nI (r (i - 1))) ∧ f_X0_lead_L14 K fuel (g_row τ 16 0 w) (nI j) (nI p) (nI p) = K (g_row τ 16 0 w') (nI j) (nI t) := by
  intro p
  have pj := (z_ix (n := 4) (show j < 2147483648 by omega)).mpr (by omega)
  have bj := hv j hj
  induction p with
  | zero =>
    intro fuel w hf hp h1 h2 h3
    obtain ⟨n, rfl⟩ : ∃ n, fuel = n + 1 := ⟨fuel - 1, by omega⟩
    refine ⟨0, w, by omega, h3, Or.inl rfl, h1, h2, ?_⟩
    unfold f_X0_lead_L14
    rw [if_pos (show nI 0 ≤ 0 by decide)]
  | succ p ih =>
    intro fuel w hf hp h1 h2 h3
    obtain ⟨n, rfl⟩ : ∃ n, fuel = n + 1 := ⟨fuel - 1, by omega⟩
    have pp := (z_ix (n := 4) (show p < 2147483648 by omega)).mpr (by omega)
    have pp1 := (z_ix (n := 4) (show p + 1 < 2147483648 by omega)).mpr (by omega)
    have bp := hr p (by omega)
    have e14 : g_row τ 16 0 w 14 0 j = nI (v j) := by rw [row_K (by decide)]; exact h14 j hj
    have e16 : g_row τ 16 0 w 16 0 p = nI (r p) := by rw [row_s]; exact h1 p (by omega)
    unfold f_X0_lead_L14
    rw [if_neg (nI_nle (by omega) (by omega))]
    simp only [nI_pred, pk_m1, if_pos pp, if_pos pj, if_pos pp1, z_clamp (show j < 2147483648 by omega), z_clamp (show p < 2147483648 by omega), z_clamp (show p + 1 < 2147483648 by omega), e14, e16]
    by_cases q : v j ≤ r p
    · rw [if_pos (nI_le q (by omega))]
      exact ⟨p + 1, w, hp, h3, Or.inr q, h1, h2, rfl⟩
    · rw [if_neg (nI_ge (by omega) (by omega)), g_let_e, rw_up]
      refine ih n _ (by omega) (by omega) ?_ ?_ ?_
      · intro i hi
        rw [pk_un (by omega)]; exact h1 i (by omega)
      · intro i hi hij
        by_cases qi : i = p + 1
        · subst qi; rw [pk_us]; rfl
        · rw [pk_un qi]; exact h2 i (by omega) hij
      · intro x hx hxj
        by_cases qx : x = p
        · subst qx; omega
        · exact h3 x (by omega) hxj
theorem x_leadO {c : Nat} (hc : c ≤ 4) {v : Nat → Nat} {τ : gS} (e00 : τ 0 0 0 = nI c) (hv : ∀ i, i < 4 → v i < 1000) (h14 : ∀ i, i < 4 → τ 14 0 i = nI (v i)) (K : gS → Option (Int32 × gS)) :
    ∀ (d fuel j : Nat) (w : Nat → Int32) (r : Nat → Nat), d < fuel → j + d = c → Srt v j r → (∀ i, i < j → r i < 1000 ∧ w i = nI (r i)) → ∃ (w' : Nat → Int32) (r' : Nat → Nat), Srt v c r' ∧ (∀ i, i < c → r' i < 1000 ∧ w' i = nI (r' i)) ∧ f_X0_lead_L2 K fuel (g_row τ 16 0 w) (nI j) = K (g_row τ 16 0 w') := by
  intro d
  induction d with
  | zero =>
    intro fuel j w r hf hj hs hw
    obtain ⟨n, rfl⟩ : ∃ n, fuel = n + 1 := ⟨fuel - 1, by omega⟩
    have : j = c := by omega
    subst this
    refine ⟨w, r, hs, hw, ?_⟩
    unfold f_X0_lead_L2
    rw [show g_row τ 16 0 w 0 0 0 = nI j by rw [row_K (by decide)]; exact e00, if_pos (nI_le (by omega) (by omega))]
  | succ d ih =>
    intro fuel j w r hf hj hs hw
    obtain ⟨n, rfl⟩ : ∃ n, fuel = n + 1 := ⟨fuel - 1, by omega⟩
    have pj := (z_ix (n := 4) (show j < 2147483648 by omega)).mpr (by omega)
    obtain ⟨t, w', t1, t2, t3, t4, t5, t6⟩ := x_leadL hv (K := f_X0_lead_P59 (f_X0_lead_L2 K n)) (show j < 4 by omega) (r := r) h14 (fun i hi => (hw i hi).1) j g_fuel w (by unfold g_fuel; omega) (Nat.le_refl _) (fun i hi => (hw i hi).2) (fun i h1 h2 => by omega) (fun q h1 h2 => by omega)
    have pt := (z_ix (n := 4) (show t < 2147483648 by omega)).mpr (by omega)
    unfold f_X0_lead_L2
    rw [show g_row τ 16 0 w 0 0 0 = nI c by rw [row_K (by decide)]; exact e00, if_neg (nI_ge (by omega) (by omega)), t6]
    unfold f_X0_lead_P59
    rw [if_pos pj, if_pos pt, z_clamp (show t < 2147483648 by omega), z_clamp (show j < 2147483648 by omega), show g_row τ 16 0 w' 14 0 j = nI (v j) by rw [row_K (by decide)]; exact h14 j (by omega), g_let_e, rw_up, nI_1]
    refine ih n (j + 1) _ (fun i => if i < t then r i else if i = t then v j else r (i - 1)) (by omega) (by omega) ⟨r, t, hs, t1, t2, t3, fun i hi => rfl⟩ ?_
    intro i hi
    by_cases q1 : i < t
    · rw [if_pos q1, pk_un (by omega)]
      exact ⟨(hw i (by omega)).1, t4 i q1⟩
    · by_cases q2 : i = t
      · subst q2
        rw [if_neg q1, if_pos rfl, pk_us]
        exact ⟨hv j (by omega), rfl⟩
      · rw [if_neg q1, if_neg q2, pk_un q2]
        exact ⟨(hw (i - 1) (by omega)).1, t5 i (by omega) (by omega)⟩
theorem x_lead {ad : gA} {c k : Nat} (hc : c ≤ 4) (hkc : k + 1 < c) {v : Nat → Nat} {τ : gS} (e00 : τ 0 0 0 = nI c) (e01 : τ 0 0 1 = nI (k + 1)) (hv : ∀ i, i < 4 → v i < 1000) (h14 : ∀ i, i < 4 → τ 14 0 i = nI (v i)) : ∃ (w' : Nat → Int32) (r : Nat → Nat), Srt v c r ∧ f_X0_lead ad τ = some (nI (r k) - nI (r (k + 1)), g_row τ 16 0 w') := by
  obtain ⟨w', r, s1, s2, s3⟩ := x_leadO hc e00 hv h14 f_X0_lead_P77 c g_fuel 0 (τ 16 0) (fun _ => 0) (by unfold g_fuel; omega) (by omega) trivial (fun i hi => by omega)
  rw [row_self (fun _ => rfl), nI_0] at s3
  refine ⟨w', r, s1, ?_⟩
  unfold f_X0_lead
  rw [s3]
  unfold f_X0_lead_P77
  have pk := (z_ix (n := 4) (show k < 2147483648 by omega)).mpr (by omega)
  have pk1 := (z_ix (n := 4) (show k + 1 < 2147483648 by omega)).mpr (by omega)
  have e1 : g_row τ 16 0 w' 0 0 1 = nI (k + 1) := by rw [row_K (by decide)]; exact e01
  rw [e1, nI_pred, if_pos pk, if_pos pk1, z_clamp (by omega), z_clamp (by omega), row_s, (s2 k (by omega)).2, (s2 (k + 1) (by omega)).2]
theorem abvS_le (v : Nat → Nat) (i : Nat) : ∀ n, abvS v i n ≤ n := by
  intro n
  induction n with
  | zero => exact Nat.le_refl _
  | succ n ih =>
    unfold abvS
    split <;> omega
theorem m_abv {c : Nat} (hc : c ≤ 4) {v : Nat → Nat} {u : gS} (e29 : u 9 0 29 = nI c) (hv : ∀ i, i < 4 → v i < 1000) (h74 : ∀ i, i < 4 → u 74 0 i = nI (v i)) (K : Int32 → Int32 → Int32 → Int32 → Option Int32) (v1 v2 : Int32) {i : Nat} (hi : i < c) :
    ∀ (d fuel o : Nat), d < fuel → o + d = c → f_X9_ahead_L20 u K fuel v1 v2 (nI i) (nI (abvS v i o)) (nI o) = K v1 v2 (nI i) (nI (abvS v i c)) := by
  have pi := (z_ix (n := 4) (show i < 2147483648 by omega)).mpr (by omega)
  intro d
  induction d with
  | zero =>
    intro fuel o hf ho
    obtain ⟨n, rfl⟩ : ∃ n, fuel = n + 1 := ⟨fuel - 1, by omega⟩
    have : o = c := by omega
    subst this
    unfold f_X9_ahead_L20
    rw [e29, if_pos (nI_le (by omega) (by omega))]
  | succ d ih =>
    intro fuel o hf ho
    obtain ⟨n, rfl⟩ : ∃ n, fuel = n + 1 := ⟨fuel - 1, by omega⟩
    have po := (z_ix (n := 4) (show o < 2147483648 by omega)).mpr (by omega)
    have bi := hv i (by omega)
    have bo := hv o (by omega)
    unfold f_X9_ahead_L20
    rw [e29, if_neg (nI_ge (by omega) (by omega))]
    simp only [if_pos pi, if_pos po, z_clamp (show i < 2147483648 by omega), z_clamp (show o < 2147483648 by omega), h74 i (by omega), h74 o (by omega), nI_1, Int32.add_zero]
    have ih' := ih n (o + 1) (by omega) (by omega)
    rw [abvS] at ih'
    by_cases q1 : v i < v o
    · rw [if_pos (nI_lt q1 (by omega))]
      rw [if_pos (Or.inl q1)] at ih'
      exact ih'
    · rw [if_neg (nI_nlt (by omega) (by omega))]
      by_cases q2 : v o = v i
      · rw [if_pos (by rw [q2])]
        by_cases q3 : o < i
        · rw [if_neg (nI_ge q3 (by omega))]
          rw [if_pos (Or.inr ⟨q2, q3⟩)] at ih'
          exact ih'
        · rw [if_pos (nI_le (by omega) (by omega))]
          rw [if_neg (by omega)] at ih'
          exact ih'
      · rw [if_neg (fun h => q2 ((z_eq (by omega) (by omega)).mp h))]
        rw [if_neg (by omega)] at ih'
        exact ih'
theorem m_aheadO {c k : Nat} (hc : c ≤ 4) (hkc : k + 1 < c) {v : Nat → Nat} {u : gS} (e29 : u 9 0 29 = nI c) (e30 : u 9 0 30 = nI (k + 1)) (hv : ∀ i, i < 4 → v i < 1000) (h74 : ∀ i, i < 4 → u 74 0 i = nI (v i)) :
    ∀ (d fuel i : Nat), d < fuel → i + d = c → f_X9_ahead_L6 u f_X9_ahead_P123 fuel (nI (lastS v (fun i => abvS v i c) k i)) (nI (lastS v (fun i => abvS v i c) (k + 1) i)) (nI i) = some (nI (lastS v (fun i => abvS v i c) k c) - nI (lastS v (fun i => abvS v i c) (k + 1) c)) := by
  intro d
  induction d with
  | zero =>
    intro fuel i hf hi
    obtain ⟨n, rfl⟩ : ∃ n, fuel = n + 1 := ⟨fuel - 1, by omega⟩
    have : i = c := by omega
    subst this
    unfold f_X9_ahead_L6
    rw [e29, if_pos (nI_le (by omega) (by omega))]
    rfl
  | succ d ih =>
    intro fuel i hf hi
    obtain ⟨n, rfl⟩ : ∃ n, fuel = n + 1 := ⟨fuel - 1, by omega⟩
    have pi := (z_ix (n := 4) (show i < 2147483648 by omega)).mpr (by omega)
    have ih' := ih n (i + 1) (by omega) (by omega)
    have ha := m_abv hc e29 hv h74 (f_X9_ahead_P83 u (f_X9_ahead_L6 u f_X9_ahead_P123 n)) (nI (lastS v (fun i => abvS v i c) k i)) (nI (lastS v (fun i => abvS v i c) (k + 1) i)) (i := i) (by omega) c g_fuel 0 (by unfold g_fuel; omega) (by omega)
    rw [show abvS v i 0 = 0 from rfl, nI_0] at ha
    have hle := abvS_le v i c
    unfold f_X9_ahead_L6
    rw [e29, if_neg (nI_ge (by omega) (by omega)), ha]
    unfold f_X9_ahead_P83
    rw [e30, nI_pred, nI_1]
    simp only [if_pos pi, z_clamp (show i < 2147483648 by omega), h74 i (by omega)]
    simp only [lastS] at ih'
    by_cases q1 : abvS v i c = k
    · rw [if_pos (by rw [q1]), if_neg (by rw [q1]; intro h; have := (z_eq (by omega) (by omega)).mp h; omega)]
      rw [if_pos q1, if_neg (by omega)] at ih'
      exact ih'
    · rw [if_neg (fun h => q1 ((z_eq (by omega) (by omega)).mp h))]
      rw [if_neg q1] at ih'
      by_cases q2 : abvS v i c = k + 1
      · rw [if_pos (by rw [q2])]
        rw [if_pos q2] at ih'
        exact ih'
      · rw [if_neg (fun h => q2 ((z_eq (by omega) (by omega)).mp h))]
        rw [if_neg q2] at ih'
        exact ih'
theorem last_eq {c k : Nat} (h2 : 2 ≤ c) (hc : c ≤ 4) (hk : k + 1 ≤ 2) (hkc : k + 1 < c) {v r : Nat → Nat} (h : Srt v c r) : lastS v (fun i => abvS v i c) k c = r k ∧ lastS v (fun i => abvS v i c) (k + 1) c = r (k + 1) := by
  rcases (show c = 2 ∨ c = 3 ∨ c = 4 by omega) with e | e | e
  · subst e
    have : k = 0 := by omega
    subst this
    exact last2 h
  · subst e
    have h := last3 h
    rcases (show k = 0 ∨ k = 1 by omega) with e | e
    · subst e; exact ⟨h.1, h.2.1⟩
    · subst e; exact ⟨h.2.1, h.2.2⟩
  · subst e
    have h := last4 h
    rcases (show k = 0 ∨ k = 1 by omega) with e | e
    · subst e; exact ⟨h.1, h.2.1⟩
    · subst e; exact ⟨h.2.1, h.2.2⟩
/-- both leads are one -/
theorem e_lead {ad : gA} {c k : Nat} (h2 : 2 ≤ c) (hc : c ≤ 4) (hk : k + 1 ≤ 2) (hkc : k + 1 < c) {v : Nat → Nat} {τ u : gS} (e00 : τ 0 0 0 = nI c) (e01 : τ 0 0 1 = nI (k + 1)) (e29 : u 9 0 29 = nI c) (e30 : u 9 0 30 = nI (k + 1)) (hv : ∀ i, i < 4 → v i < 1000) (h14 : ∀ i, i < 4 → τ 14 0 i = nI (v i)) (h74 : ∀ i, i < 4 → u 74 0 i = nI (v i)) : ∃ (x : Int32) (w' : Nat → Int32), f_X0_lead ad τ = some (x, g_row τ 16 0 w') ∧ f_X9_ahead ad u = some x := by
  obtain ⟨w', r, s1, s2⟩ := x_lead (ad := ad) hc hkc e00 e01 hv h14
  refine ⟨_, w', s2, ?_⟩
  obtain ⟨q1, q2⟩ := last_eq h2 hc hk hkc s1
  have := m_aheadO hc hkc e29 e30 hv h74 c g_fuel 0 (by unfold g_fuel; omega) (by omega)
  rw [q1, q2] at this
  exact this
