/-! PURE: shelves: make -/
def bec (σ : gS) (d : Nat) (k n : Int32) : gS := g_up (g_up (g_up σ 7 d 0 k) 7 d 2 n) 7 d 1 (-1)
def wpM (σ : gS) (d : Nat) : gS := g_row σ 83 0 (fun x => if 200 * d + 0 ≤ x ∧ x < 200 * d + 200 then 0 else σ 83 0 x)
theorem x_bec {ad : gA} {σ : gS} {d : Nat} {k n : Int32} : f_X7_become ad σ d k n = some (bec σ d k n) := rfl
theorem bec_K {σ : gS} {d K : Nat} {k n : Int32} (h : K ≠ 7) : bec σ d k n K = σ K := by
  unfold bec
  rw [up_K h, up_K h, up_K h]
theorem bec_o {σ : gS} {d x : Nat} {k n : Int32} (h : x ≠ d) : bec σ d k n 7 x = σ 7 x := by
  funext j
  unfold bec
  rw [up_i h, up_i h, up_i h]
theorem bec_0 {σ : gS} {d : Nat} {k n : Int32} : bec σ d k n 7 d 0 = k := by simp [bec, g_up]
theorem bec_1 {σ : gS} {d : Nat} {k n : Int32} : bec σ d k n 7 d 1 = -1 := by simp [bec, g_up]
theorem bec_2 {σ : gS} {d : Nat} {k n : Int32} : bec σ d k n 7 d 2 = n := by simp [bec, g_up]
theorem m_wpL {d : Nat} (hd : d < 8) (K : gS → Option gS) :
    ∀ (r fuel k : Nat) (σ : gS), r < fuel → k + r = 200 → f_X9_wipe_L2 (nI d) K fuel σ (nI k) = K (g_row σ 83 0 (fun x => if 200 * d + k ≤ x ∧ x < 200 * d + 200 then 0 else σ 83 0 x)) := by
  intro r
  induction r with
  | zero =>
    intro fuel k σ hf hk
    obtain ⟨m, rfl⟩ : ∃ m, fuel = m + 1 := ⟨fuel - 1, by omega⟩
    unfold f_X9_wipe_L2
    rw [z_200, if_pos (nI_le (by omega) (by omega)), row_self]
    intro x
    rw [if_neg (by omega)]
  | succ r ih =>
    intro fuel k σ hf hk
    obtain ⟨m, rfl⟩ : ∃ m, fuel = m + 1 := ⟨fuel - 1, by omega⟩
    have p1 := (z_ix (n := 1600) (show 200 * d + k < 2147483648 by omega)).mpr (by omega)
    unfold f_X9_wipe_L2
    rw [z_200, if_neg (nI_ge (by omega) (by omega)), pk_mul, nI_add, if_pos p1, z_clamp (show 200 * d + k < 2147483648 by omega), nI_1, g_let_e, ih m (k + 1) _ (by omega) (by omega), up_row]
    congr 2
    funext x
    by_cases q1 : 200 * d + (k + 1) ≤ x ∧ x < 200 * d + 200
    · rw [if_pos q1, if_pos (by omega)]
    · rw [if_neg q1]
      by_cases q2 : x = 200 * d + k
      · subst q2
        rw [if_pos (by omega), up_s]
      · rw [if_neg (by omega), up_j q2]
theorem m_wipe {ad : gA} {σ : gS} {d : Nat} (hd : d < 8) : f_X9_wipe ad σ (nI d) = some (wpM σ d) := by
  have := m_wpL hd f_X9_wipe_P28 200 g_fuel 0 σ (by unfold g_fuel; omega) (by omega)
  rw [nI_0] at this
  exact this
theorem wpM_83 {σ : gS} {d x : Nat} : wpM σ d 83 0 x = if 200 * d ≤ x ∧ x < 200 * d + 200 then 0 else σ 83 0 x := by
  unfold wpM
  rw [row_s]
  rfl
theorem wpM_K {σ : gS} {d K : Nat} (h : K ≠ 83) : wpM σ d K = σ K := row_K h
theorem sh_new {nO nP nL : Nat} {S : Nat → Nat} {L : gL} {ad : gA} {σ σ' : gS} (hJ : gJ nO nP nL S L ad σ) {d : Nat} (hK : ∀ K, (K < 7 ∨ (7 < K ∧ K < 28) ∨ (29 < K ∧ K < 80)) → σ' K = σ K) (ho : ∀ x, x ≠ d → σ' 7 x = σ 7 x ∧ σ' 28 x = σ 28 x ∧ σ' 29 x = σ 29 x ∧ σ' 80 0 x = σ 80 0 x ∧ σ' 81 0 x = σ 81 0 x ∧ σ' 82 0 x = σ 82 0 x) (h83 : ∀ x, (x < 200 * d ∨ 200 * d + 200 ≤ x) → σ' 83 0 x = σ 83 0 x) (hs : J_sh1 nL σ' d) (hf : ∀ q, q < 200 → fits .byte (.int (σ' 28 d q)) = true) : gJ nO nP nL S L ad σ' := by
  have h14 := hJ.2.2.2.2.2.2.2.2.2.2.2.2.2.1
  refine sh_gJ hJ hK ⟨fun x hx => ?_, fun x q hx hq => ?_⟩
  · by_cases e : x = d
    · rw [e]; exact hs
    · obtain ⟨o1, o2, o3, o4, o5, o6⟩ := ho x e
      exact sh_other (h14.1 x hx) o1 o2 o3 o4 o5 o6 (fun q hq => h83 _ (by omega))
  · by_cases e : x = d
    · rw [e]; exact hf q hq
    · rw [(ho x e).2.1]; exact h14.2 x q hx hq
def mkX (σ : gS) (d : Nat) (k n : Int32) : gS := g_row (g_row (bec σ d k n) 28 d (fun j => if j < 200 then vp_nar .byte 0 else bec σ d k n 28 d j)) 29 d (fun j => if j < 60 then 0 else g_row (bec σ d k n) 28 d (fun j => if j < 200 then vp_nar .byte 0 else bec σ d k n 28 d j) 29 d j)
def mkM (τ : gS) (d : Nat) (k n : Int32) : gS := wpM (g_up (g_up τ 80 0 d k) 82 0 d n) d
theorem ok_make : sim_make gI := by
  intro L ad σ ⟨nO, nP, nL, S, hJ⟩ a1 a2 a3
  obtain ⟨h1, h2, h3, h4, h5, h6, h7, h8, h9, h10, h11, h12, h13, h14, h15⟩ := id hJ
  have no : ∀ r, f_X8_make ad σ a1 a2 a3 = some (r, σ) → f_X9_make ad σ a1 a2 a3 = some (r, σ) → ∃ (r : Int32) (σ1 : gS) (σ2 : gS), f_X8_make ad σ a1 a2 a3 = some (r, σ1) ∧ f_X9_make ad σ1 a1 a2 a3 = some (r, σ2) ∧ gI L ad σ2 := fun r t1 t2 => ⟨r, σ, σ, t1, t2, nO, nP, nL, S, hJ⟩
  rcases z_cases a1 (n := 8) (by omega) with h | ⟨d, hd, rfl⟩
  · refine no (-1) ?_ ?_
    · unfold f_X8_make; rw [x_sh0 h]; rfl
    · unfold f_X9_make; rw [m_sh0 h]; rfl
  have pd := (z_ix (n := 8) (show d < 2147483648 by omega)).mpr hd
  have kx : f_X8_make ad σ (nI d) a2 a3 = if a2 = 3 ∨ a2 = 4 then (if a3 ≤ 60 then (if 0 ≤ a3 then some (0, mkX σ d a2 a3) else some (-14, σ)) else some (-1, σ)) else some (-1, σ) := by
    unfold f_X8_make f_X7_keepZeros
    rw [x_sh1 hd, Option.bind_some, i10]
    simp only [if_pos pd, z_clamp (show d < 2147483648 by omega), h2.2.2.2 d hd, i0l, x_bec, Option.bind_some, x_fillB (show 200 ≤ 4800 by omega), x_fillI (show 60 ≤ 4800 by omega)]
    by_cases q3 : a2 = 3
    · rw [if_pos q3, if_pos (Or.inl q3)]; rfl
    · rw [if_neg q3]
      by_cases q4 : a2 = 4
      · rw [if_pos q4, if_pos (Or.inr q4)]; rfl
      · rw [if_neg q4, if_neg (fun h => h.elim q3 q4)]
  have hin : ∀ τ : gS, f_X9_in ad τ a2 3 4 = if a2 = 3 ∨ a2 = 4 then some 1 else some 0 := by
    intro τ
    unfold f_X9_in
    by_cases q3 : a2 = 3
    · rw [if_pos (Or.inl q3), q3, if_neg (by decide), if_neg (by decide)]
    · by_cases q4 : a2 = 4
      · rw [if_pos (Or.inr q4), q4, if_neg (by decide), if_neg (by decide)]
      · rw [if_neg (show ¬ (a2 = 3 ∨ a2 = 4) from fun h => h.elim q3 q4)]
        by_cases q : a2 < 3
        · rw [if_pos q]
        · rw [if_neg q, if_pos]
          rw [Int32.lt_iff_toInt_lt] at q ⊢
          have n3 : a2.toInt ≠ (3 : Int32).toInt := fun e => q3 (Int32.toInt_inj.mp e)
          have n4 : a2.toInt ≠ (4 : Int32).toInt := fun e => q4 (Int32.toInt_inj.mp e)
          have v3 : (3 : Int32).toInt = 3 := by decide
          have v4 : (4 : Int32).toInt = 4 := by decide
          omega
  have km : ∀ τ : gS, f_X9_make ad τ (nI d) a2 a3 = if a2 = 3 ∨ a2 = 4 then (if a3 ≤ 60 then (if 0 ≤ a3 then some (0, mkM τ d a2 a3) else some (-14, τ)) else some (-1, τ)) else some (-1, τ) := by
    intro τ
    unfold f_X9_make
    rw [m_sh1 hd, Option.bind_some, i10, hin]
    simp only [if_pos pd, z_clamp (show d < 2147483648 by omega), m_wipe hd, Option.bind_some, g_let_e]
    by_cases q : a2 = 3 ∨ a2 = 4
    · rw [if_pos q, if_pos q, Option.bind_some, i10]; rfl
    · rw [if_neg q, if_neg q, Option.bind_some, i00]
  by_cases q : a2 = 3 ∨ a2 = 4
  rotate_left
  · refine no (-1) ?_ ?_
    · rw [kx, if_neg q]
    · rw [km, if_neg q]
  rw [if_pos q] at kx
  simp only [if_pos q] at km
  by_cases q60 : a3 ≤ 60
  rotate_left
  · refine no (-1) ?_ ?_
    · rw [kx, if_neg q60]
    · rw [km, if_neg q60]
  rw [if_pos q60] at kx
  simp only [if_pos q60] at km
  by_cases q0 : 0 ≤ a3
  rotate_left
  · refine no (-14) ?_ ?_
    · rw [kx, if_neg q0]
    · rw [km, if_neg q0]
  rw [if_pos q0] at kx
  simp only [if_pos q0] at km
  obtain ⟨n, hn, rfl⟩ := z_nn (z_not_lt.mpr q0)
  have hn60 : n ≤ 60 := by
    rw [z_60, z_le hn (by omega)] at q60
    exact q60
  refine ⟨0, mkX σ d a2 (nI n), mkM (mkX σ d a2 (nI n)) d a2 (nI n), kx, km _, nO, nP, nL, S, ?_⟩
  have t7 : mkM (mkX σ d a2 (nI n)) d a2 (nI n) 7 = bec σ d a2 (nI n) 7 := by
    unfold mkM mkX
    rw [wpM_K (by decide), up_K (by decide), up_K (by decide), row_K (by decide), row_K (by decide)]
  have t28 : mkM (mkX σ d a2 (nI n)) d a2 (nI n) 28 = g_row σ 28 d (fun j => if j < 200 then 0 else σ 28 d j) 28 := by
    unfold mkM mkX
    rw [wpM_K (by decide), up_K (by decide), up_K (by decide), row_K (by decide), z_b0, bec_K (by decide)]
    funext x j
    unfold g_row
    rw [bec_K (by decide)]
  have t29 : mkM (mkX σ d a2 (nI n)) d a2 (nI n) 29 = g_row σ 29 d (fun j => if j < 60 then 0 else σ 29 d j) 29 := by
    unfold mkM mkX
    rw [wpM_K (by decide), up_K (by decide), up_K (by decide)]
    funext x j
    unfold g_row
    simp only [bec_K (show 29 ≠ 7 by decide)]
    rfl
  have t80 : ∀ x, mkM (mkX σ d a2 (nI n)) d a2 (nI n) 80 0 x = if x = d then a2 else σ 80 0 x := by
    intro x
    unfold mkM mkX
    rw [wpM_K (by decide), up_K (by decide)]
    by_cases e : x = d
    · rw [if_pos e, e, up_s]
    · rw [if_neg e, up_j e, row_K (by decide), row_K (by decide), bec_K (by decide)]
  have t82 : ∀ x, mkM (mkX σ d a2 (nI n)) d a2 (nI n) 82 0 x = if x = d then nI n else σ 82 0 x := by
    intro x
    unfold mkM mkX
    rw [wpM_K (by decide)]
    by_cases e : x = d
    · rw [if_pos e, e, up_s]
    · rw [if_neg e, up_j e, up_K (by decide), row_K (by decide), row_K (by decide), bec_K (by decide)]
  have t83 : ∀ x, mkM (mkX σ d a2 (nI n)) d a2 (nI n) 83 0 x = if 200 * d ≤ x ∧ x < 200 * d + 200 then 0 else σ 83 0 x := by
    intro x
    unfold mkM mkX
    rw [wpM_83, up_K (by decide), up_K (by decide), row_K (by decide), row_K (by decide), bec_K (by decide)]
  have tK : ∀ K, K ≠ 7 → K ≠ 28 → K ≠ 29 → K ≠ 80 → K ≠ 82 → K ≠ 83 → mkM (mkX σ d a2 (nI n)) d a2 (nI n) K = σ K := by
    intro K n1 n2 n3 n4 n5 n6
    unfold mkM mkX
    rw [wpM_K n6, up_K n5, up_K n4, row_K n3, row_K n2, bec_K n1]
  refine sh_new hJ (d := d) (fun K hK => tK K (by omega) (by omega) (by omega) (by omega) (by omega) (by omega)) (fun x hx => ⟨?_, ?_, ?_, ?_, ?_, ?_⟩) (fun x hx => ?_) ?_ (fun q hq => ?_)
  · rw [t7, bec_o hx]
  · rw [t28, row_i hx]
  · rw [t29, row_i hx]
  · rw [t80, if_neg hx]
  · rw [tK 81 (by decide) (by decide) (by decide) (by decide) (by decide) (by decide)]
  · rw [t82, if_neg hx]
  · rw [t83, if_neg (by omega)]
  · unfold J_sh1
    rw [t7, bec_0, bec_1, bec_2, t80, if_pos rfl, t82, if_pos rfl, t28, row_s, t29, row_s]
    refine ⟨rfl, ?_⟩
    rcases q with rfl | rfl
    · refine Or.inr (Or.inr (Or.inl ⟨rfl, rfl, n, by omega, rfl, rfl, fun i hi => ?_⟩))
      rw [t83, if_pos (by omega), if_pos (by omega)]
    · refine Or.inr (Or.inr (Or.inr ⟨rfl, rfl, n, hn60, rfl, rfl, fun i hi => ?_⟩))
      rw [t83, if_pos (by omega), if_pos (by omega)]
  · rw [t28, row_s, if_pos hq]
    decide +kernel
