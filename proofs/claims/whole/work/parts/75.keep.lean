/-! PURE: shelves: keep -/
def kpM (τ : gS) (d : Nat) (w k s : Int32) : gS := g_up (wpM (g_up (g_up τ 80 0 d w) 81 0 d k) d) 82 0 d s
theorem kp_80 {τ : gS} {d x : Nat} {w k s : Int32} : kpM τ d w k s 80 0 x = if x = d then w else τ 80 0 x := by
  unfold kpM
  rw [up_K (by decide), wpM_K (by decide), up_K (by decide)]
  by_cases e : x = d
  · rw [if_pos e, e, up_s]
  · rw [if_neg e, up_j e]
theorem kp_81 {τ : gS} {d x : Nat} {w k s : Int32} : kpM τ d w k s 81 0 x = if x = d then k else τ 81 0 x := by
  unfold kpM
  rw [up_K (by decide), wpM_K (by decide)]
  by_cases e : x = d
  · rw [if_pos e, e, up_s]
  · rw [if_neg e, up_j e, up_K (by decide)]
theorem kp_82 {τ : gS} {d x : Nat} {w k s : Int32} : kpM τ d w k s 82 0 x = if x = d then s else τ 82 0 x := by
  unfold kpM
  by_cases e : x = d
  · rw [if_pos e, e, up_s]
  · rw [if_neg e, up_j e, wpM_K (by decide), up_K (by decide), up_K (by decide)]
theorem kp_83 {τ : gS} {d x : Nat} {w k s : Int32} : kpM τ d w k s 83 0 x = if 200 * d ≤ x ∧ x < 200 * d + 200 then 0 else τ 83 0 x := by
  unfold kpM
  rw [up_K (by decide), wpM_83, up_K (by decide), up_K (by decide)]
theorem kp_K {τ : gS} {d K : Nat} {w k s : Int32} (h : K < 80) : kpM τ d w k s K = τ K := by
  unfold kpM
  rw [up_K (by omega), wpM_K (by omega), up_K (by omega), up_K (by omega)]
theorem m_kp {ad : gA} {τ : gS} {d : Nat} {w k : Int32} (hd : d < 8) (hw : w ≠ 3) : f_X9_keep_P58 ad (nI d) w k τ = f_X9_keep_P157 (nI d) w k (kpM τ d w k 5) := by
  have pd := (z_ix (n := 8) (show d < 2147483648 by omega)).mpr hd
  unfold f_X9_keep_P58 f_X9_keep_P63 f_X9_keep_P108
  rw [i10]
  simp only [if_pos pd, z_clamp (show d < 2147483648 by omega), g_let_e, m_wipe hd, Option.bind_some, if_neg hw]
  rw [show g_fuel = 999999 + 1 from rfl]
  unfold f_X9_keep_L112
  rw [if_neg (show ¬ (200 : Int32) ≤ 0 by decide), if_neg hw]
  rfl
theorem m_kp3L {ad : gA} {d o : Nat} (hd : d < 8) (ho : o < 8) (K : gS → Option (Int32 × gS)) :
    ∀ (r fuel y : Nat) (σ : gS), r < fuel → y + r = 200 → f_X9_keep_L112 ad (nI d) 3 (nI o) K fuel σ (nI y) = K (g_row σ 83 0 (fun x => if 200 * d + y ≤ x ∧ x < 200 * d + 200 then σ 58 0 (ixl o (x - 200 * d) 0) else σ 83 0 x)) := by
  intro r
  induction r with
  | zero =>
    intro fuel y σ hf hk
    obtain ⟨m, rfl⟩ : ∃ m, fuel = m + 1 := ⟨fuel - 1, by omega⟩
    unfold f_X9_keep_L112
    rw [z_200, if_pos (nI_le (by omega) (by omega)), row_self]
    intro x
    rw [if_neg (by omega)]
  | succ r ih =>
    intro fuel y σ hf hk
    obtain ⟨m, rfl⟩ : ∃ m, fuel = m + 1 := ⟨fuel - 1, by omega⟩
    have p1 := (z_ix (n := 1600) (show 200 * d + y < 2147483648 by omega)).mpr (by omega)
    have hix := ix_lt ho (show y < 200 by omega) (show 0 < 3 by omega)
    have p2 := (z_ix (n := 4800) (show ixl o y 0 < 2147483648 by omega)).mpr hix
    have hat := m_at (ad := ad) (σ := σ) o y 0
    rw [nI_0] at hat
    unfold f_X9_keep_L112
    rw [if_neg (show ¬ (200 : Int32) ≤ nI y by rw [z_200]; exact nI_ge (by omega) (by omega)), if_pos rfl, hat, Option.bind_some, if_pos p2, z_200, pk_mul, nI_add, if_pos p1, z_clamp (show 200 * d + y < 2147483648 by omega), z_clamp (show ixl o y 0 < 2147483648 by omega), nI_1, g_let_e, ih m (y + 1) _ (by omega) (by omega), up_row]
    congr 2
    funext x
    rw [up_K (by decide)]
    by_cases q1 : 200 * d + (y + 1) ≤ x ∧ x < 200 * d + 200
    · rw [if_pos q1, if_pos (by omega)]
    · rw [if_neg q1]
      by_cases q2 : x = 200 * d + y
      · subst q2
        rw [if_pos (by omega), up_s, show 200 * d + y - 200 * d = y by omega]
      · rw [if_neg (by omega), up_j q2]
def kp3 (τ : gS) (d o : Nat) : gS := g_row (kpM τ d 3 (nI o) 200) 83 0 (fun x => if 200 * d + 0 ≤ x ∧ x < 200 * d + 200 then kpM τ d 3 (nI o) 200 58 0 (ixl o (x - 200 * d) 0) else kpM τ d 3 (nI o) 200 83 0 x)
theorem m_kp3 {ad : gA} {τ : gS} {d o : Nat} (hd : d < 8) (ho : o < 8) : f_X9_keep_P58 ad (nI d) 3 (nI o) τ = some (0, kp3 τ d o) := by
  have pd := (z_ix (n := 8) (show d < 2147483648 by omega)).mpr hd
  have t := m_kp3L (ad := ad) hd ho (f_X9_keep_P157 (nI d) 3 (nI o)) 200 g_fuel 0 (kpM τ d 3 (nI o) 200) (by unfold g_fuel; omega) (by omega)
  rw [nI_0] at t
  unfold f_X9_keep_P58 f_X9_keep_P63 f_X9_keep_P108
  rw [i10]
  simp only [if_pos pd, z_clamp (show d < 2147483648 by omega), g_let_e, m_wipe hd, Option.bind_some, if_true]
  refine t.trans ?_
  unfold f_X9_keep_P157
  rw [if_neg (by decide)]
  rfl
def kp4 (τ : gS) (d p : Nat) : gS := g_up (g_up (g_up (g_up (g_up τ 83 0 (200 * d) (τ 47 0 p)) 83 0 (200 * d + 1) (τ 48 0 p)) 83 0 (200 * d + 2) (τ 50 0 p)) 83 0 (200 * d + 3) (τ 51 0 p)) 83 0 (200 * d + 4) (τ 52 0 p)
theorem m_kp4 {τ : gS} {d p : Nat} (hd : d < 8) (hp : p < 24) : f_X9_keep_P157 (nI d) 4 (nI p) τ = some (0, kp4 τ d p) := by
  have pp := (z_ix (n := 24) (show p < 2147483648 by omega)).mpr hp
  have e0 := (z_ix (n := 1600) (show 200 * d < 2147483648 by omega)).mpr (by omega)
  have e1 := (z_ix (n := 1600) (show 200 * d + 1 < 2147483648 by omega)).mpr (by omega)
  have e2 := (z_ix (n := 1600) (show 200 * d + 2 < 2147483648 by omega)).mpr (by omega)
  have e3 := (z_ix (n := 1600) (show 200 * d + 3 < 2147483648 by omega)).mpr (by omega)
  have e4 := (z_ix (n := 1600) (show 200 * d + 4 < 2147483648 by omega)).mpr (by omega)
  unfold f_X9_keep_P157
  rw [if_pos rfl]
  simp only [z_200, z_1, z_2, z_3, z_4, pk_mul, nI_add, if_pos pp, if_pos e0, if_pos e1, if_pos e2, if_pos e3, if_pos e4, g_let_e, z_clamp (show p < 2147483648 by omega), z_clamp (show 200 * d < 2147483648 by omega), z_clamp (show 200 * d + 1 < 2147483648 by omega), z_clamp (show 200 * d + 2 < 2147483648 by omega), z_clamp (show 200 * d + 3 < 2147483648 by omega), z_clamp (show 200 * d + 4 < 2147483648 by omega)]
  rfl
theorem kp4_K {τ : gS} {d p K : Nat} (h : K ≠ 83) : kp4 τ d p K = τ K := by
  unfold kp4
  rw [up_K h, up_K h, up_K h, up_K h, up_K h]
theorem kp4_o {τ : gS} {d p x : Nat} (h : x < 200 * d ∨ 200 * d + 200 ≤ x) : kp4 τ d p 83 0 x = τ 83 0 x := by
  unfold kp4
  rw [up_j (by omega), up_j (by omega), up_j (by omega), up_j (by omega), up_j (by omega)]
def lfX (τ : gS) (d p : Nat) : gS := g_up (g_up (g_up (g_up (g_up τ 29 d 0 (τ 5 p 3)) 29 d 1 (τ 5 p 4)) 29 d 2 (τ 5 p 5)) 29 d 3 (τ 5 p 6)) 29 d 4 (τ 5 p 7)
theorem x_lf {ad : gA} {σ : gS} {d p : Nat} : f_X7_keepLife ad σ d p = some (lfX (bec σ d 4 5) d p) := by
  unfold f_X7_keepLife
  rw [x_bec, Option.bind_some]
  simp only [g_let_e, show (0 : Int32).toNatClampNeg = 0 from by decide, show (1 : Int32).toNatClampNeg = 1 from by decide, show (2 : Int32).toNatClampNeg = 2 from by decide, show (3 : Int32).toNatClampNeg = 3 from by decide, show (4 : Int32).toNatClampNeg = 4 from by decide]
  rfl
theorem lf_K {τ : gS} {d p K : Nat} (h : K ≠ 29) : lfX τ d p K = τ K := by
  unfold lfX
  rw [up_K h, up_K h, up_K h, up_K h, up_K h]
theorem lf_i {τ : gS} {d p x : Nat} (h : x ≠ d) : lfX τ d p 29 x = τ 29 x := by
  funext j
  unfold lfX
  rw [up_i h, up_i h, up_i h, up_i h, up_i h]
theorem x_khL {ad : gA} {σ0 : gS} {d o : Nat} {W : Nat → Int32} (hh : ∀ y, y < 200 → ∃ q, f_X3_code ad σ0 o (nI y) 0 = some q ∧ vp_nar .byte (((if q = (-1 : Int32) then (-1 : Int32) else q - q / (100 : Int32) * (100 : Int32))).toInt8.toInt32) = W y) (K : gS → Option gS) :
    ∀ (r fuel y : Nat) (σ : gS), r < fuel → y + r = 200 → σ 3 = σ0 3 → σ 23 = σ0 23 → f_X7_keepHolders_L10 ad d o K fuel σ (nI y) = K (g_row σ 28 d (fun x => if y ≤ x ∧ x < 200 then W x else σ 28 d x)) := by
  intro r
  induction r with
  | zero =>
    intro fuel y σ hf hk e3 e23
    obtain ⟨m, rfl⟩ : ∃ m, fuel = m + 1 := ⟨fuel - 1, by omega⟩
    unfold f_X7_keepHolders_L10
    rw [z_200, if_pos (nI_le (by omega) (by omega)), row_self]
    intro x
    rw [if_neg (by omega)]
  | succ r ih =>
    intro fuel y σ hf hk e3 e23
    obtain ⟨m, rfl⟩ : ∃ m, fuel = m + 1 := ⟨fuel - 1, by omega⟩
    have p1 := (z_ix (n := 200) (show y < 2147483648 by omega)).mpr (by omega)
    obtain ⟨q, hq, hW⟩ := hh y (by omega)
    have hq' : f_X3_code ad σ o (nI y) 0 = some q := by
      rw [← hq]
      unfold f_X3_code
      rw [e3, e23]
    have hh' : f_X3_holder ad σ o (nI y) 0 = some (if q = (-1 : Int32) then (-1 : Int32) else q - q / (100 : Int32) * (100 : Int32)) := by
      unfold f_X3_holder
      rw [hq', Option.bind_some]
      by_cases c : q = -1
      · rw [if_pos c, if_pos c]
      · rw [if_neg c, if_neg c]
    unfold f_X7_keepHolders_L10
    rw [z_200, if_neg (nI_ge (by omega) (by omega)), hh', Option.bind_some, if_pos p1, z_clamp (show y < 2147483648 by omega), hW, nI_1, g_let_e, ih m (y + 1) _ (by omega) (by omega) ((up_K (by decide)).trans e3) ((up_K (by decide)).trans e23), up_row]
    congr 2
    funext x
    by_cases q1 : y + 1 ≤ x ∧ x < 200
    · rw [if_pos q1, if_pos (by omega)]
    · rw [if_neg q1]
      by_cases q2 : x = y
      · subst q2
        rw [if_pos (by omega), up_s]
      · rw [if_neg (by omega), up_j q2]
def khX (σ : gS) (d o : Nat) : gS := g_row (bec σ d 3 200) 28 d (fun x => if 0 ≤ x ∧ x < 200 then σ 58 0 (ixl o x 0) else bec σ d 3 200 28 d x)
section
variable {nO nP nL : Nat} {S : Nat → Nat} {L : gL} {ad : gA} {σ : gS}
theorem x_kh (hJ : gJ nO nP nL S L ad σ) {d o : Nat} (ho : o < nO) : f_X7_keepHolders ad σ d o = some (khX σ d o) := by
  obtain ⟨h1, h2, h3, h4, h5, h6, h7, h8, h9, h10, h11, h12, h13, h14, h15⟩ := id hJ
  obtain ⟨⟨hO, hP, hL⟩, -, -⟩ := id h1
  have hS := (h3 o ho).1
  have t := x_khL (ad := ad) (σ0 := σ) (d := d) (o := o) (W := fun y => σ 58 0 (ixl o y 0)) (by
    intro y hy
    have hx := x_seatv hO hP h3 h8 h10 ho hy (show 0 < S o by omega)
    rw [nI_0] at hx
    rcases hx with ⟨k1, -, k3⟩ | ⟨p, hp, k1, -, ⟨-, k3⟩ | ⟨-, k3⟩⟩
    · refine ⟨_, k3, ?_⟩
      rw [if_pos rfl, k1, z_b1']
    · refine ⟨_, k3, ?_⟩
      rw [if_neg (fun h => by have := z_eqm1 (show p < 2147483648 by omega); rw [h] at this; simp at this), x_hold0 (by omega), z_b p (by omega), k1]
    · refine ⟨_, k3, ?_⟩
      rw [if_neg (fun h => by have := z_eqm1 (show p + 100 < 2147483648 by omega); rw [h] at this; simp at this), x_hold (by omega), z_b p (by omega), k1]) f_X7_keepHolders_P36 200 g_fuel 0 (bec σ d 3 200) (by unfold g_fuel; omega) (by omega) (bec_K (by decide)) (bec_K (by decide))
  rw [nI_0] at t
  unfold f_X7_keepHolders
  rw [x_bec, Option.bind_some]
  exact t
end
theorem fit_seat {σ : gS} {nO nP : Nat} {S : Nat → Nat} (hP : nP ≤ 24) (h8 : J_seat nO nP S σ) {o y : Nat} (ho : o < 8) (hy : y < 200) : fits .byte (.int (σ 58 0 (ixl o y 0))) = true := by
  rcases h8 o y 0 ho hy (by omega) with ⟨e, -⟩ | ⟨-, -, p, hp, e, -⟩
  · rw [e]; decide +kernel
  · rw [e]
    exact (by decide +kernel : ∀ p : Nat, p < 24 → fits .byte (.int (nI p)) = true) p (by omega)
