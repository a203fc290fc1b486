/-! PURE: draw, drawn, province -/
def dR (n R : Nat) : Nat → Nat
  | 0 => R
  | k + 1 => dR n R k / (n - k)
def dF (n R : Nat) : Nat → Nat → Nat
  | 0, i => i
  | k + 1, i => if i < dR n R k % (n - k) then dF n R k i else dF n R k (i + 1)
def dv (n R k : Nat) : Nat := dF n R k (dR n R k % (n - k))
theorem dR_lt {n R : Nat} (hR : R < 2 ^ 63) (k : Nat) : dR n R k < 2 ^ 63 := by
  induction k with
  | zero => exact hR
  | succ k ih => exact Nat.lt_of_le_of_lt (Nat.div_le_self _ _) ih
theorem dF_lt {n R : Nat} : ∀ (k i : Nat), i + k < n → dF n R k i < n := by
  intro k
  induction k with
  | zero => intro i h; exact h
  | succ k ih =>
    intro i h
    unfold dF
    split
    · exact ih i (by omega)
    · exact ih (i + 1) (by omega)
theorem dv_lt {n R k : Nat} (hk : k < n) : dv n R k < n := by
  unfold dv
  apply dF_lt
  have := Nat.mod_lt (dR n R k) (show 0 < n - k by omega)
  omega
theorem lg_neg {x : Int64} (h : x < 0) : lg_cmp x 0 = -1 := by
  unfold lg_cmp
  rw [if_neg, if_neg]
  · intro e; rw [e] at h; exact absurd h (by decide)
  · intro e
    have e' : (0 : Int64) < x := e
    rw [Int64.lt_iff_toInt_lt] at h e'
    omega
theorem lg_nn {x : Int64} (h : ¬ x < 0) : lg_cmp x 0 = 1 ∨ lg_cmp x 0 = 0 := by
  unfold lg_cmp
  by_cases q : x > 0
  · rw [if_pos q]; exact Or.inl rfl
  · rw [if_neg q]
    by_cases q2 : x = 0
    · rw [if_pos q2]; exact Or.inr rfl
    · exfalso
      have h1 : ¬ x.toInt < (0 : Int64).toInt := fun hh => h (Int64.lt_iff_toInt_lt.mpr hh)
      have h2 : ¬ (0 : Int64).toInt < x.toInt := fun hh => q (Int64.lt_iff_toInt_lt.mpr hh)
      exact q2 (Int64.toInt_inj.mp (by omega))
/-- number below 0, or a Nat -/
theorem lg_cases (x : Int64) : (x < 0 ∧ lg_cmp x 0 < 0 ∧ ¬ 0 ≤ lg_cmp x 0) ∨ ∃ R : Nat, R < 2 ^ 63 ∧ x = lN R ∧ ¬ lg_cmp x 0 < 0 ∧ 0 ≤ lg_cmp x 0 := by
  by_cases h : x < 0
  · exact Or.inl ⟨h, by rw [lg_neg h]; decide, by rw [lg_neg h]; decide⟩
  · obtain ⟨R, hR, e⟩ := pk_lOf h
    refine Or.inr ⟨R, hR, e, ?_, ?_⟩
    · rcases lg_nn h with e | e <;> rw [e] <;> decide
    · rcases lg_nn h with e | e <;> rw [e] <;> decide
theorem d_div {R m : Nat} (hR : R < 2 ^ 63) (h0 : 0 < m) (hm : m < 2 ^ 31) : lN R / (nI m).toInt64 = lN (R / m) := by
  rw [nI_l hm, pk_lDiv hR h0 (by omega)]
theorem d_rem {R m : Nat} (hR : R < 2 ^ 63) (h0 : 0 < m) (hm : m < 2 ^ 31) : (lN R - lN R / (nI m).toInt64 * (nI m).toInt64).toInt32 = nI (R % m) := by
  rw [nI_l hm, pk_lRem hR h0 (by omega), lN_i]
theorem d_ne {m : Nat} (h0 : 0 < m) (hm : m < 2 ^ 31) : ¬ (nI m).toInt64 = 0 := by
  rw [nI_l hm]
  intro h
  have := (pk_lEQ (a := m) (b := 0) (by omega) (by omega)).mp h
  omega
theorem up_row {σ : gS} {K i j : Nat} {v : Int32} {τ : Nat → Int32} : g_row (g_up σ K i j v) K i τ = g_row σ K i τ := by
  funext K' i' j'
  unfold g_row g_up
  by_cases h : K' = K ∧ i' = i
  · rw [if_pos h, if_pos h]
  · rw [if_neg h, if_neg h, if_neg (fun hh => h ⟨hh.1, hh.2.1⟩)]
theorem row_self {σ : gS} {K i : Nat} {τ : Nat → Int32} (h : ∀ j, τ j = σ K i j) : g_row σ K i τ = σ := by
  funext K' i' j'
  unfold g_row
  by_cases q : K' = K ∧ i' = i
  · rw [if_pos q, h, q.1, q.2]
  · rw [if_neg q]
/-- class: those passed over move up -/
theorem x_shift {K0 : Nat} {k : Nat} (hk : k < 35) (K : gS → Int64 → Int32 → Int32 → Option gS) (v4 : Int64) (v9 : Int32) :
    ∀ (d fuel m : Nat) (σ : gS), d < fuel → m = k + d → m < 35 → f_X8_draw_L69 K0 0 35 K fuel σ v4 (nI k) v9 (nI m) = K (g_row σ K0 0 (fun j => if k < j ∧ j ≤ m then σ K0 0 (j - 1) else σ K0 0 j)) v4 (nI k) v9 := by
  intro d
  induction d with
  | zero =>
    intro fuel m σ hf hm hm'
    obtain ⟨n, rfl⟩ : ∃ n, fuel = n + 1 := ⟨fuel - 1, by omega⟩
    unfold f_X8_draw_L69
    rw [if_pos (nI_le (by omega) (by omega)), row_self]
    intro j
    rw [if_neg (by omega)]
  | succ d ih =>
    intro fuel m σ hf hm hm'
    obtain ⟨n, rfl⟩ : ∃ n, fuel = n + 1 := ⟨fuel - 1, by omega⟩
    obtain ⟨m1, rfl⟩ : ∃ m1, m = m1 + 1 := ⟨m - 1, by omega⟩
    have p1 := (z_ix (n := 35) (show m1 < 2147483648 by omega)).mpr (by omega)
    have p2 := (z_ix (n := 35) (show m1 + 1 < 2147483648 by omega)).mpr (by omega)
    unfold f_X8_draw_L69
    rw [if_neg (nI_ge (by omega) (by omega)), nI_pred, if_pos p1, if_pos p2, z_clamp (by omega), z_clamp (by omega), pk_m1]
    simp only [g_let]
    rw [ih n m1 _ (by omega) (by omega) (by omega)]
    congr 1
    rw [up_row]
    congr 1
    funext j
    by_cases q1 : k < j ∧ j ≤ m1
    · rw [if_pos q1, if_pos (by omega)]
      simp only [g_up]
      rw [if_neg (by omega)]
    · rw [if_neg q1]
      by_cases q2 : j = m1 + 1
      · subst q2
        rw [if_pos (by omega)]
        simp [g_up]
      · rw [if_neg (by omega)]
        simp only [g_up]
        rw [if_neg (by omega)]
theorem x_drawL {K0 n R : Nat} (hn : n ≤ 35) (hR : R < 2 ^ 63) (K : gS → Option gS) :
    ∀ (d fuel k : Nat) (σ : gS), d < fuel → k + d = n → (∀ j, j < k → σ K0 0 j = nI (dv n R j)) → (∀ i, i + k < n → σ K0 0 (k + i) = nI (dF n R k i)) → ∃ τ : Nat → Int32, (∀ j, j < n → τ j = nI (dv n R j)) ∧ f_X8_draw_L27 K0 0 35 (nI n) K fuel σ (lN (dR n R k)) (nI k) = K (g_row σ K0 0 τ) := by
  intro d
  induction d with
  | zero =>
    intro fuel k σ hf hk h1 h2
    obtain ⟨m, rfl⟩ : ∃ m, fuel = m + 1 := ⟨fuel - 1, by omega⟩
    have : k = n := by omega
    subst this
    refine ⟨σ K0 0, h1, ?_⟩
    unfold f_X8_draw_L27
    rw [if_pos (nI_le (by omega) (by omega)), row_self (fun _ => rfl)]
  | succ d ih =>
    intro fuel k σ hf hk h1 h2
    obtain ⟨m, rfl⟩ : ∃ m, fuel = m + 1 := ⟨fuel - 1, by omega⟩
    have hRk := dR_lt (n := n) hR k
    have ht := Nat.mod_lt (dR n R k) (show 0 < n - k by omega)
    have p1 := (z_ix (n := 35) (show k + dR n R k % (n - k) < 2147483648 by omega)).mpr (by omega)
    have pk := (z_ix (n := 35) (show k < 2147483648 by omega)).mpr (by omega)
    unfold f_X8_draw_L27
    rw [if_neg (nI_ge (by omega) (by omega)), pk_sub (by omega), if_neg (d_ne (by omega) (by omega)), if_neg (d_ne (by omega) (by omega))]
    simp only [d_rem hRk (show 0 < n - k by omega) (show n - k < 2 ^ 31 by omega)]
    simp only [d_div hRk (show 0 < n - k by omega) (show n - k < 2 ^ 31 by omega), nI_add, if_pos p1, z_clamp (show k + dR n R k % (n - k) < 2147483648 by omega)]
    rw [x_shift (by omega) _ _ _ (dR n R k % (n - k)) g_fuel (k + dR n R k % (n - k)) σ (by unfold g_fuel; omega) rfl (by omega)]
    unfold f_X8_draw_P92
    rw [if_pos pk, z_clamp (by omega), nI_1]
    simp only [g_let]
    rw [h2 _ (by omega)]
    obtain ⟨τ, t1, t2⟩ := ih m (k + 1) (g_up (g_row σ K0 0 (fun j => if k < j ∧ j ≤ k + dR n R k % (n - k) then σ K0 0 (j - 1) else σ K0 0 j)) K0 0 k (nI (dF n R k (dR n R k % (n - k))))) (by omega) (by omega) (by
      intro j hj
      by_cases q : j = k
      · subst q
        rw [up_s]; rfl
      · rw [up_j q, row_s, if_neg (by omega)]
        exact h1 j (by omega)) (by
      intro i hi
      rw [up_j (by omega), row_s]
      simp only [dF]
      by_cases q : i < dR n R k % (n - k)
      · rw [if_pos (by omega), if_pos q, show k + 1 + i - 1 = k + i by omega]
        exact h2 i (by omega)
      · rw [if_neg (by omega), if_neg q, show k + 1 + i = k + (i + 1) by omega]
        exact h2 (i + 1) (by omega))
    refine ⟨τ, t1, ?_⟩
    rw [show dR n R k / (n - k) = dR n R (k + 1) from rfl, t2, up_row]
    congr 1
    funext K' i' j'
    unfold g_row
    by_cases q : K' = K0 ∧ i' = 0
    · rw [if_pos q, if_pos q]
    · rw [if_neg q, if_neg q, if_neg q]
theorem x_draw0 {K0 n : Nat} (hn : n ≤ 35) (K : gS → Option gS) :
    ∀ (d fuel k : Nat) (σ : gS), d < fuel → k + d = n → f_X8_draw_L3 K0 0 35 (nI n) K fuel σ (nI k) = K (g_row σ K0 0 (fun j => if k ≤ j ∧ j < n then nI j else σ K0 0 j)) := by
  intro d
  induction d with
  | zero =>
    intro fuel k σ hf hk
    obtain ⟨m, rfl⟩ : ∃ m, fuel = m + 1 := ⟨fuel - 1, by omega⟩
    unfold f_X8_draw_L3
    rw [if_pos (nI_le (by omega) (by omega)), row_self]
    intro j
    rw [if_neg (by omega)]
  | succ d ih =>
    intro fuel k σ hf hk
    obtain ⟨m, rfl⟩ : ∃ m, fuel = m + 1 := ⟨fuel - 1, by omega⟩
    have pk := (z_ix (n := 35) (show k < 2147483648 by omega)).mpr (by omega)
    unfold f_X8_draw_L3
    rw [if_neg (nI_ge (by omega) (by omega)), if_pos pk, z_clamp (by omega), nI_1]
    simp only [g_let]
    rw [ih m (k + 1) _ (by omega) (by omega), up_row]
    congr 2
    funext j
    by_cases q1 : k + 1 ≤ j ∧ j < n
    · rw [if_pos q1, if_pos (by omega)]
    · rw [if_neg q1]
      by_cases q2 : j = k
      · subst q2
        rw [if_pos (by omega), up_s]
      · rw [if_neg (by omega), up_j q2]
theorem x_draw {ad : gA} {σ : gS} {K0 n R : Nat} (hn : n ≤ 35) (hR : R < 2 ^ 63) : ∃ τ : Nat → Int32, (∀ j, j < n → τ j = nI (dv n R j)) ∧ f_X8_draw ad σ K0 0 35 (nI n) (lN R) = some (g_row σ K0 0 τ) := by
  unfold f_X8_draw
  rw [← nI_0, x_draw0 hn _ n g_fuel 0 σ (by unfold g_fuel; omega) (by omega)]
  unfold f_X8_draw_P21
  obtain ⟨τ, t1, t2⟩ := x_drawL (K0 := K0) (n := n) (R := R) hn hR f_X8_draw_P104 n g_fuel 0 (g_row σ K0 0 (fun j => if 0 ≤ j ∧ j < n then nI j else σ K0 0 j)) (by unfold g_fuel; omega) (by omega) (fun j hj => by omega) (fun i hi => by
    rw [row_s, if_pos (by omega), Nat.zero_add]; rfl)
  refine ⟨τ, t1, ?_⟩
  rw [← nI_0]
  rw [show f_X8_draw_L27 K0 0 35 (nI n) f_X8_draw_P104 g_fuel _ (lN R) (nI 0) = _ from t2]
  unfold f_X8_draw_P104
  congr 1
  funext K' i' j'
  unfold g_row
  by_cases q : K' = K0 ∧ i' = 0
  · rw [if_pos q, if_pos q]
  · rw [if_neg q, if_neg q, if_neg q]
/-! the reference's draw -/
theorem m_shift {n k : Nat} (K : gS → Int64 → Int32 → Option gS) (v4 : Int64) (v6 : Int32) {M : Nat} (hM : 1 ≤ M) (hM' : M ≤ 35) :
    ∀ (d fuel t : Nat) (σ : gS), d < fuel → t + d + 1 = M → f_X9_draw_L77 K fuel σ v4 v6 (nI M) (nI t) = K (g_row σ 73 0 (fun j => if t ≤ j ∧ j < M - 1 then σ 73 0 (j + 1) else σ 73 0 j)) v4 v6 := by
  intro d
  induction d with
  | zero =>
    intro fuel t σ hf ht
    obtain ⟨m, rfl⟩ : ∃ m, fuel = m + 1 := ⟨fuel - 1, by omega⟩
    obtain ⟨M1, rfl⟩ : ∃ M1, M = M1 + 1 := ⟨M - 1, by omega⟩
    unfold f_X9_draw_L77
    rw [nI_pred, if_pos (nI_le (by omega) (by omega)), row_self]
    intro j
    rw [if_neg (by omega)]
  | succ d ih =>
    intro fuel t σ hf ht
    obtain ⟨m, rfl⟩ : ∃ m, fuel = m + 1 := ⟨fuel - 1, by omega⟩
    obtain ⟨M1, rfl⟩ : ∃ M1, M = M1 + 1 := ⟨M - 1, by omega⟩
    have p1 := (z_ix (n := 35) (show t < 2147483648 by omega)).mpr (by omega)
    have p2 := (z_ix (n := 35) (show t + 1 < 2147483648 by omega)).mpr (by omega)
    unfold f_X9_draw_L77
    rw [nI_pred, if_neg (nI_ge (by omega) (by omega)), nI_1, if_pos p2, if_pos p1, z_clamp (by omega), z_clamp (by omega)]
    simp only [g_let]
    rw [ih m (t + 1) _ (by omega) (by omega), up_row]
    congr 2
    funext j
    by_cases q1 : t + 1 ≤ j ∧ j < M1 + 1 - 1
    · rw [if_pos q1, if_pos (by omega), up_j (by omega)]
    · rw [if_neg q1]
      by_cases q2 : j = t
      · subst q2
        rw [if_pos (by omega), up_s]
      · rw [if_neg (by omega), up_j q2]
theorem m_drawL {n R : Nat} (hn : n ≤ 35) (hR : R < 2 ^ 63) (K : gS → Option gS) :
    ∀ (d fuel k : Nat) (σ : gS), d < fuel → k + d = n → (∀ j, j < k → σ 72 0 j = nI (dv n R j)) → (∀ i, i + k < n → σ 73 0 i = nI (dF n R k i)) → ∃ τ τ' : Nat → Int32, (∀ j, j < n → τ j = nI (dv n R j)) ∧ f_X9_draw_L30 (nI n) K fuel σ (lN (dR n R k)) (nI k) = K (g_row (g_row σ 72 0 τ) 73 0 τ') := by
  intro d
  induction d with
  | zero =>
    intro fuel k σ hf hk h1 h2
    obtain ⟨m, rfl⟩ : ∃ m, fuel = m + 1 := ⟨fuel - 1, by omega⟩
    have : k = n := by omega
    subst this
    refine ⟨σ 72 0, σ 73 0, h1, ?_⟩
    unfold f_X9_draw_L30
    rw [if_pos (nI_le (by omega) (by omega)), row_self (σ := σ) (K := 72) (i := 0) (τ := σ 72 0) (fun _ => rfl), row_self (fun _ => rfl)]
  | succ d ih =>
    intro fuel k σ hf hk h1 h2
    obtain ⟨m, rfl⟩ : ∃ m, fuel = m + 1 := ⟨fuel - 1, by omega⟩
    have hRk := dR_lt (n := n) hR k
    have ht := Nat.mod_lt (dR n R k) (show 0 < n - k by omega)
    have p1 := (z_ix (n := 35) (show dR n R k % (n - k) < 2147483648 by omega)).mpr (by omega)
    have pk := (z_ix (n := 35) (show k < 2147483648 by omega)).mpr (by omega)
    unfold f_X9_draw_L30
    rw [if_neg (nI_ge (by omega) (by omega)), pk_sub (by omega), if_neg (d_ne (by omega) (by omega)), if_neg (d_ne (by omega) (by omega))]
    simp only [d_rem hRk (show 0 < n - k by omega) (show n - k < 2 ^ 31 by omega)]
    simp only [d_div hRk (show 0 < n - k by omega) (show n - k < 2 ^ 31 by omega), if_pos p1, if_pos pk, z_clamp (show k < 2147483648 by omega), z_clamp (show dR n R k % (n - k) < 2147483648 by omega), g_let]
    rw [m_shift (n := n) (k := k) _ _ _ (show 1 ≤ n - k by omega) (by omega) (n - k - 1 - dR n R k % (n - k)) g_fuel (dR n R k % (n - k)) _ (by unfold g_fuel; omega) (by omega)]
    unfold f_X9_draw_P108
    rw [nI_1, h2 _ (by omega)]
    obtain ⟨τ, τ', t1, t2⟩ := ih m (k + 1) (g_row (g_up σ 72 0 k (nI (dF n R k (dR n R k % (n - k))))) 73 0 (fun j => if dR n R k % (n - k) ≤ j ∧ j < n - k - 1 then g_up σ 72 0 k (nI (dF n R k (dR n R k % (n - k)))) 73 0 (j + 1) else g_up σ 72 0 k (nI (dF n R k (dR n R k % (n - k)))) 73 0 j)) (by omega) (by omega) (by
      intro j hj
      rw [row_K (by decide)]
      by_cases q : j = k
      · subst q
        rw [up_s]; rfl
      · rw [up_j q]
        exact h1 j (by omega)) (by
      intro i hi
      rw [row_s]
      simp only [dF, up_K (show 73 ≠ 72 by decide)]
      by_cases q : i < dR n R k % (n - k)
      · rw [if_neg (by omega), if_pos q]
        exact h2 i (by omega)
      · rw [if_pos (by omega), if_neg q]
        exact h2 (i + 1) (by omega))
    refine ⟨τ, τ', t1, ?_⟩
    rw [show dR n R k / (n - k) = dR n R (k + 1) from rfl, t2]
    congr 1
    funext K' i' j'
    unfold g_row g_up
    by_cases q : K' = 73 ∧ i' = 0
    · rw [if_pos q, if_pos q]
    · rw [if_neg q, if_neg q]
      by_cases q' : K' = 72 ∧ i' = 0
      · rw [if_pos q', if_neg q, if_pos q']
      · rw [if_neg q', if_neg q, if_neg q', if_neg (fun h => q' ⟨h.1, h.2.1⟩)]
theorem m_draw0 {n : Nat} (hn : n ≤ 35) (K : gS → Int64 → Option gS) (v4 : Int64) :
    ∀ (d fuel k : Nat) (σ : gS), d < fuel → k + d = n → f_X9_draw_L6 (nI n) K fuel σ v4 (nI k) = K (g_row σ 73 0 (fun j => if k ≤ j ∧ j < n then nI j else σ 73 0 j)) v4 := by
  intro d
  induction d with
  | zero =>
    intro fuel k σ hf hk
    obtain ⟨m, rfl⟩ : ∃ m, fuel = m + 1 := ⟨fuel - 1, by omega⟩
    unfold f_X9_draw_L6
    rw [if_pos (nI_le (by omega) (by omega)), row_self]
    intro j
    rw [if_neg (by omega)]
  | succ d ih =>
    intro fuel k σ hf hk
    obtain ⟨m, rfl⟩ : ∃ m, fuel = m + 1 := ⟨fuel - 1, by omega⟩
    have pk := (z_ix (n := 35) (show k < 2147483648 by omega)).mpr (by omega)
    unfold f_X9_draw_L6
    rw [if_neg (nI_ge (by omega) (by omega)), if_pos pk, z_clamp (by omega), nI_1]
    simp only [g_let]
    rw [ih m (k + 1) _ (by omega) (by omega), up_row]
    congr 2
    funext j
    by_cases q1 : k + 1 ≤ j ∧ j < n
    · rw [if_pos q1, if_pos (by omega)]
    · rw [if_neg q1]
      by_cases q2 : j = k
      · subst q2
        rw [if_pos (by omega), up_s]
      · rw [if_neg (by omega), up_j q2]
theorem m_draw {ad : gA} {σ : gS} {n R : Nat} (hn : n ≤ 35) (hR : R < 2 ^ 63) : ∃ τ τ' : Nat → Int32, (∀ j, j < n → τ j = nI (dv n R j)) ∧ f_X9_draw ad σ (nI n) (lN R) = some (g_row (g_row σ 72 0 τ) 73 0 τ') := by
  unfold f_X9_draw
  rw [← nI_0, m_draw0 hn _ _ n g_fuel 0 σ (by unfold g_fuel; omega) (by omega)]
  unfold f_X9_draw_P27
  obtain ⟨τ, τ', t1, t2⟩ := m_drawL (n := n) (R := R) hn hR f_X9_draw_P114 n g_fuel 0 (g_row σ 73 0 (fun j => if 0 ≤ j ∧ j < n then nI j else σ 73 0 j)) (by unfold g_fuel; omega) (by omega) (fun j hj => by omega) (fun i hi => by
    rw [row_s, if_pos (by omega)]; rfl)
  refine ⟨τ, τ', t1, ?_⟩
  rw [← nI_0]
  rw [show f_X9_draw_L30 (nI n) f_X9_draw_P114 g_fuel _ (lN R) (nI 0) = _ from t2]
  unfold f_X9_draw_P114
  congr 1
  funext K' i' j'
  unfold g_row
  by_cases q : K' = 73 ∧ i' = 0
  · simp [q]
  · by_cases q' : K' = 72 ∧ i' = 0
    · simp [q']
    · simp [q, q']
theorem eqv_row {σ σ' : gS} (h : eqv σ σ') {K i : Nat} {τ : Nat → Int32} (hs : ∀ j, g_scr K j = true) : eqv σ (g_row σ' K i τ) := fun K' i' j' q => by
  unfold g_row
  rw [if_neg]
  · exact h K' i' j' q
  · intro ⟨h1, _⟩
    rw [h1, hs] at q
    cases q
