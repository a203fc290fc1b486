/-! PURE: who is barred, by the class -/
def lastB (f : Nat → Bool) : Nat → Int32
  | 0 => -1
  | n + 1 => if f n then nI n else lastB f n
theorem lastB_v (f : Nat → Bool) (n : Nat) : (lastB f n = -1 ∧ ∀ j, j < n → f j = false) ∨ ∃ j, j < n ∧ lastB f n = nI j ∧ f j = true ∧ ∀ i, j < i → i < n → f i = false := by
  induction n with
  | zero => exact Or.inl ⟨rfl, fun j hj => by omega⟩
  | succ n ih =>
    cases h : f n
    · have e : lastB f (n + 1) = lastB f n := by simp [lastB, h]
      rw [e]
      rcases ih with ⟨e1, e2⟩ | ⟨j, hj, e1, e2, e3⟩
      · refine Or.inl ⟨e1, fun j hj => ?_⟩
        by_cases q : j = n
        · rw [q]; exact h
        · exact e2 j (by omega)
      · refine Or.inr ⟨j, by omega, e1, e2, fun i h1 h2 => ?_⟩
        by_cases q : i = n
        · rw [q]; exact h
        · exact e3 i h1 (by omega)
    · exact Or.inr ⟨n, by omega, by simp [lastB, h], h, fun i h1 h2 => by omega⟩
/-- lately: by the last year -/
theorem last_within {f : Nat → Bool} {y n : Nat} (hy : y < 200) (hn : n < 200) : (if lastB f y = -1 then (0 : Int32) else if nI n < nI y - lastB f y then 0 else 1) = if exB (fun j => f j && decide (y - j ≤ n)) y then 1 else 0 := by
  rcases lastB_v f y with ⟨e1, e2⟩ | ⟨j, hj, e1, e2, e3⟩
  · rw [if_pos e1, exB_no.mpr]
    · simp
    · intro j hj
      simp [e2 j hj]
  · rw [e1, if_neg (by rw [z_eqm1 (by omega)]; exact id), pk_sub (by omega)]
    by_cases q : y - j ≤ n
    · rw [if_neg (nI_nlt q (by omega)), exB_iff.mpr ⟨j, hj, by simp [e2, q]⟩]
      simp
    · rw [if_pos (nI_lt (by omega) (by omega)), exB_no.mpr]
      · simp
      · intro i hi
        by_cases q2 : j < i
        · simp [e3 i q2 hi]
        · have : ¬ y - i ≤ n := by omega
          simp [this]
section
variable {nO nP nL : Nat} {S : Nat → Nat} {L : gL} {ad : gA} {σ : gS}
/-- what the look finds, after j years -/
def lkd (σ : gS) (p o j : Nat) (τ : gS) : Prop := eqv σ τ ∧ (∀ n, n < 8 → bt (τ 4 0 0) n = exB (hB σ p (nI n)) j) ∧ τ 4 0 1 = lastB (hB σ p (-1)) j ∧ τ 4 0 2 = lastB (hB σ p (nI o)) j
theorem x_lookL (hJ : gJ nO nP nL S L ad σ) {p o Y : Nat} (hp : p < nP) (ho : o < nO) (hY : Y < 200) (K : gS → Option gS) :
    ∀ (k fuel j : Nat) (τ : gS), k < fuel → j + k = Y → lkd σ p o j τ → ∃ τ', lkd σ p o Y τ' ∧ f_X4_look_L18 p (nI o) (nI Y) K fuel τ (nI j) = K τ' := by
  obtain ⟨h1, h2, h3, h4, h5, h6, h7, h8, h9, h10, h11, h12, h13, h14, h15⟩ := id hJ
  obtain ⟨⟨hO, hP, hL⟩, ⟨m1, m2, m3⟩, ⟨x1, x2, x3⟩⟩ := id h1
  intro k
  induction k with
  | zero =>
    intro fuel j τ hf hj hl
    obtain ⟨m, rfl⟩ : ∃ m, fuel = m + 1 := ⟨fuel - 1, by omega⟩
    have : j = Y := by omega
    subst this
    refine ⟨τ, hl, ?_⟩
    unfold f_X4_look_L18
    rw [if_pos (nI_le (by omega) (by omega))]
  | succ k ih =>
    intro fuel j τ hf hj hl
    obtain ⟨m, rfl⟩ : ∃ m, fuel = m + 1 := ⟨fuel - 1, by omega⟩
    have pj := (z_ix (n := 200) (show j < 2147483648 by omega)).mpr (by omega)
    obtain ⟨l1, l2, l3, l4⟩ := hl
    have e24 : τ 24 p j = σ 24 p j := l1 24 p j rfl
    have skip : (∀ a, hB σ p a j = false) → lkd σ p o (j + 1) τ := by
      intro hz
      refine ⟨l1, fun n hn => ?_, ?_, ?_⟩
      · simp only [exB, hz, Bool.or_false]; exact l2 n hn
      · simp only [lastB, hz]; simpa using l3
      · simp only [lastB, hz]; simpa using l4
    unfold f_X4_look_L18
    rw [if_neg (nI_ge (by omega) (by omega)), if_pos pj]
    simp only [z_clamp (show j < 2147483648 by omega), e24, nI_1, g_let]
    rcases x_hb hO hP h3 h8 h9 h11 hp (show j < 200 by omega) with ⟨e1, e2⟩ | ⟨o', ho', e1, e2⟩ | ⟨o', ho', e1, e2⟩
    · obtain ⟨τ', g1, g2⟩ := ih m (j + 1) τ (by omega) (by omega) (skip e2)
      exact ⟨τ', g1, by rw [e1, im1]; exact g2⟩
    · obtain ⟨τ', g1, g2⟩ := ih m (j + 1) τ (by omega) (by omega) (skip e2)
      refine ⟨τ', g1, ?_⟩
      rw [e1, if_neg (by rw [z_eqm1 (by omega)]; exact id), z_100, if_pos (nI_le (by omega) (by omega))]
      exact g2
    · rw [e1, if_neg (by rw [z_eqm1 (by omega)]; exact id), z_100, if_neg (nI_ge (by omega) (by omega))]
      have hbit : ∀ n, n < 8 → bt (τ 4 0 0 ||| ((1 : Int32) <<< (nI o' &&& 31))) n = exB (hB σ p (nI n)) (j + 1) := by
        intro n hn
        rw [b_or, b_one (by omega) (by omega), l2 n hn]
        simp only [exB, e2, z_lt0 (show n < 2147483648 by omega), decide_false, Bool.false_or, z_eq (show o' < 2147483648 by omega) (show n < 2147483648 by omega)]
        by_cases q : n = o'
        · simp [q]
        · have : ¬ o' = n := fun h => q h.symm
          simp [q, this]
      have h1' : hB σ p (-1) j = true := by rw [e2]; simp
      by_cases q : nI o' = nI o
      · rw [if_pos q]
        have h2' : hB σ p (nI o) j = true := by rw [e2]; simp [q]
        obtain ⟨τ', g1, g2⟩ := ih m (j + 1) (g_up (g_up (g_up τ 4 0 0 (τ 4 0 0 ||| ((1 : Int32) <<< (nI o' &&& 31)))) 4 0 1 (nI j)) 4 0 2 (nI j)) (by omega) (by omega) ⟨eqv_up (eqv_up (eqv_up l1 rfl) rfl) rfl, fun n hn => by rw [← hbit n hn]; rfl, by simp [g_up, lastB, h1'], by simp [g_up, lastB, h2']⟩
        exact ⟨τ', g1, g2⟩
      · rw [if_neg q]
        have h2' : hB σ p (nI o) j = false := by rw [e2]; simp [q, z_lt0 (show o < 2147483648 by omega)]
        obtain ⟨τ', g1, g2⟩ := ih m (j + 1) (g_up (g_up (g_up τ 4 0 0 (τ 4 0 0 ||| ((1 : Int32) <<< (nI o' &&& 31)))) 4 0 1 (nI j)) 4 0 2 (g_up (g_up τ 4 0 0 (τ 4 0 0 ||| ((1 : Int32) <<< (nI o' &&& 31)))) 4 0 1 (nI j) 4 0 2)) (by omega) (by omega) ⟨eqv_up (eqv_up (eqv_up l1 rfl) rfl) rfl, fun n hn => by rw [← hbit n hn]; rfl, by simp [g_up, lastB, h1'], by simp [g_up, lastB, h2', l4]⟩
        exact ⟨τ', g1, g2⟩
/-- those who hold it by laws -/
theorem x_holders (hJ : gJ nO nP nL S L ad σ) {o y : Nat} (ho : o < nO) (hy : y < 200) :
    ∀ (k fuel j : Nat) (v : Int32), k < fuel → j + k = S o → (∀ q, q < 32 → bt v q = exB (fun s => decide (σ 58 0 (ixl o y s) = nI q) && decide (σ 59 0 (ixl o y s) = 0)) j) → ∃ v', f_X3_holders_L4 ad σ o (nI y) f_X3_holders_P46 fuel v (nI j) = some v' ∧ ∀ q, q < 32 → bt v' q = exB (fun s => decide (σ 58 0 (ixl o y s) = nI q) && decide (σ 59 0 (ixl o y s) = 0)) (S o) := by
  obtain ⟨h1, h2, h3, h4, h5, h6, h7, h8, h9, h10, h11, h12, h13, h14, h15⟩ := id hJ
  obtain ⟨⟨hO, hP, hL⟩, ⟨m1, m2, m3⟩, ⟨x1, x2, x3⟩⟩ := id h1
  have hS := (h3 o ho).1
  have e3 := (h3 o ho).2.2.2.1
  intro k
  induction k with
  | zero =>
    intro fuel j v hf hj hv
    obtain ⟨m, rfl⟩ : ∃ m, fuel = m + 1 := ⟨fuel - 1, by omega⟩
    have : j = S o := by omega
    subst this
    refine ⟨v, ?_, hv⟩
    unfold f_X3_holders_L4
    rw [e3, if_pos (nI_le (by omega) (by omega))]; rfl
  | succ k ih =>
    intro fuel j v hf hj hv
    obtain ⟨m, rfl⟩ : ∃ m, fuel = m + 1 := ⟨fuel - 1, by omega⟩
    unfold f_X3_holders_L4
    rw [e3, if_neg (nI_ge (by omega) (by omega))]
    have skip : (∀ q, q < 32 → (decide (σ 58 0 (ixl o y j) = nI q) && decide (σ 59 0 (ixl o y j) = 0)) = false) → ∀ q, q < 32 → bt v q = exB (fun s => decide (σ 58 0 (ixl o y s) = nI q) && decide (σ 59 0 (ixl o y s) = 0)) (j + 1) := by
      intro hz q hq
      simp only [exB, hz q hq, Bool.or_false]
      exact hv q hq
    rcases x_seatv hO hP h3 h8 h10 ho hy (show j < S o by omega) with ⟨e1, -, e⟩ | ⟨p, hp, e1, -, ⟨e2, e⟩ | ⟨e2, e⟩⟩
    · rw [e, Option.bind_some, im1, nI_1]
      refine ih m (j + 1) v (by omega) (by omega) (skip fun q hq => ?_)
      rw [e1]
      have : ¬ (-1 : Int32) = nI q := fun h => by
        have := z_eqm1 (show q < 2147483648 by omega)
        rw [← h] at this
        simp at this
      simp [this]
    · rw [e, Option.bind_some, if_neg (by rw [z_eqm1 (by omega)]; exact id), z_100, if_neg (nI_ge (by omega) (by omega)), nI_1]
      refine ih m (j + 1) _ (by omega) (by omega) fun q hq => ?_
      rw [b_or, b_one (by omega) hq, hv q hq]
      simp only [exB, e1, e2, decide_true, Bool.and_true]
      by_cases h : q = p
      · simp [h]
      · have : ¬ nI p = nI q := fun hh => h ((z_eq (by omega) (by omega)).mp hh).symm
        simp [h, this]
    · rw [e, Option.bind_some, if_neg (by rw [z_eqm1 (by omega)]; exact id), z_100, if_pos (nI_le (by omega) (by omega)), nI_1]
      refine ih m (j + 1) v (by omega) (by omega) (skip fun q hq => ?_)
      rw [e2]
      simp
theorem kB_iff {p q : Nat} : kB σ p q = true ↔ kinP σ p q := by
  unfold kB kinP
  simp [or_assoc]
/-- kin among them -/
theorem x_kin (hJ : gJ nO nP nL S L ad σ) {p o y : Nat} (hp : p < nP) (ho : o < nO) (hy : y < 200) {v : Int32} (hv : ∀ q, q < 32 → bt v q = exB (fun s => decide (σ 58 0 (ixl o y s) = nI q) && decide (σ 59 0 (ixl o y s) = 0)) (S o)) : (σ 5 p 8 &&& v = 0) ↔ hkB σ S p o y = false := by
  obtain ⟨h1, h2, h3, h4, h5, h6, h7, h8, h9, h10, h11, h12, h13, h14, h15⟩ := id hJ
  obtain ⟨⟨hO, hP, hL⟩, ⟨m1, m2, m3⟩, ⟨x1, x2, x3⟩⟩ := id h1
  have hS := (h3 o ho).1
  rw [b_none]
  unfold hkB
  rw [exB_no]
  constructor
  · intro h s hs
    rcases h8 o y s (by omega) hy (by omega) with ⟨e1, -⟩ | ⟨-, -, q, hq, e1, -, -⟩
    · rw [e1]; simp
    · rw [e1, nI_clamp (by omega)]
      by_cases c1 : σ 59 0 (ixl o y s) = 0
      · by_cases c2 : q = p
        · simp [c2]
        · cases c3 : kB σ p q
          · simp
          · exfalso
            refine h q (by omega) ⟨(h5.2 p hp q (by omega)).mpr ⟨hq, c2, kB_iff.mp c3⟩, ?_⟩
            rw [hv q (by omega)]
            exact exB_iff.mpr ⟨s, hs, by simp [e1, c1]⟩
      · simp [c1]
  · intro h q hq ⟨b1, b2⟩
    obtain ⟨b3, b4, b5⟩ := (h5.2 p hp q hq).mp b1
    rw [hv q hq] at b2
    obtain ⟨s, hs, b6⟩ := exB_iff.mp b2
    have := h s hs
    simp only [Bool.and_eq_true, decide_eq_true_eq] at b6
    rw [b6.1, nI_clamp (by omega), b6.2, kB_iff.mpr b5] at this
    have hne : ¬ nI q = nI p := fun hh => b4 ((z_eq (by omega) (by omega)).mp hh)
    simp [hne, z_lt0 (show q < 2147483648 by omega)] at this
theorem x_look (hJ : gJ nO nP nL S L ad σ) {p o y : Nat} (hp : p < nP) (ho : o < nO) (hy : y < 200) : ∃ τ, f_X4_look ad σ p o (nI o) (nI y) = some τ ∧ lkd σ p o y τ ∧ τ 4 0 3 = if hkB σ S p o y then 1 else 0 := by
  obtain ⟨h1, h2, h3, h4, h5, h6, h7, h8, h9, h10, h11, h12, h13, h14, h15⟩ := id hJ
  obtain ⟨⟨hO, hP, hL⟩, ⟨m1, m2, m3⟩, ⟨x1, x2, x3⟩⟩ := id h1
  have hS := (h3 o ho).1
  have hl0 : lkd σ p o 0 (g_up (g_up (g_up σ 4 0 0 0) 4 0 1 (-1)) 4 0 2 (-1)) := ⟨eqv_up (eqv_up (eqv_up (eqv_rfl σ) rfl) rfl) rfl, fun n hn => by show bt 0 n = _; rw [b_0]; rfl, rfl, rfl⟩
  obtain ⟨τ, g1, g2⟩ := x_lookL hJ hp ho hy (f_X4_look_P91 ad p o (nI y)) y g_fuel 0 _ (by unfold g_fuel; omega) (by omega) hl0
  have hJ' := gJ_eqv g1.1 hJ
  obtain ⟨v, v1, v2⟩ := x_holders hJ' ho hy (S o) g_fuel 0 0 (by unfold g_fuel; omega) (by omega) (fun q hq => by rw [b_0]; rfl)
  have v2' : ∀ q, q < 32 → bt v q = exB (fun s => decide (σ 58 0 (ixl o y s) = nI q) && decide (σ 59 0 (ixl o y s) = 0)) (S o) := by
    intro q hq
    rw [v2 q hq]
    apply exB_congr
    intro s _
    rw [g1.1 58 0 _ rfl, g1.1 59 0 _ rfl]
  have hk := x_kin hJ hp ho hy v2'
  have e5 : τ 5 p 8 = σ 5 p 8 := g1.1 5 p 8 rfl
  have hq : f_X4_look_P91 ad p o (nI y) τ = some (g_up τ 4 0 3 (if hkB σ S p o y then 1 else 0)) := by
    unfold f_X4_look_P91 f_X3_holders
    rw [show f_X3_holders_L4 ad τ o (nI y) f_X3_holders_P46 g_fuel 0 0 = _ from v1, Option.bind_some, e5]
    cases c : hkB σ S p o y
    · rw [if_pos (hk.mpr c)]; rfl
    · rw [if_neg (fun hh => by rw [hk.mp hh] at c; cases c)]; rfl
  refine ⟨g_up τ 4 0 3 (if hkB σ S p o y then 1 else 0), ?_, ⟨eqv_up g1.1 rfl, fun n hn => g1.2.1 n hn, g1.2.2.1, g1.2.2.2⟩, ?_⟩
  · unfold f_X4_look
    simp only [g_let]
    rw [show f_X4_look_L18 p (nI o) (nI y) (f_X4_look_P91 ad p o (nI y)) g_fuel (g_up (g_up (g_up σ 4 0 0 0) 4 0 1 (-1)) 4 0 2 (-1)) 0 = _ from g2, hq]
  · exact up_s
theorem x_binds (h6 : J_lawM nO nL σ) (h7 : J_lawX nL σ) (hO : nO ≤ 8) {l o y : Nat} (hl : l < nL) (hfree : σ 45 0 o = 0) {τ : gS} (hq : eqv σ τ) : f_X2_binds ad τ l (nI o) (nI y) = some (if inB σ l o y then 1 else 0) := by
  obtain ⟨k, n, f, -, -, e54, -, -, -, -⟩ := h6 l hl
  obtain ⟨-, -, q2, -, q4, q5⟩ := h7 l hl
  have hm : σ 54 0 l = -1 ↔ σ 54 0 l < 0 := by
    rcases e54 with e | ⟨o', ho', e⟩
    · rw [e]; decide
    · rw [e, z_lt0 (by omega), z_eqm1 (by omega)]
  unfold f_X2_binds inB
  rw [hq 2 l 2 rfl, hq 2 l 4 rfl, hq 2 l 5 rfl, q2, q4, q5, hfree]
  by_cases c1 : σ 54 0 l < 0
  · have c1' := hm.mpr c1
    rw [if_pos c1']
    by_cases c3 : nI y < σ 56 0 l <;> by_cases c4 : σ 57 0 l ≤ nI y <;> simp [c1, c3, c4]
  · have c1' : ¬ σ 54 0 l = -1 := fun h => c1 (hm.mp h)
    rw [if_neg c1']
    by_cases c2 : σ 54 0 l = nI o
    · rw [if_pos c2]
      by_cases c3 : nI y < σ 56 0 l <;> by_cases c4 : σ 57 0 l ≤ nI y <;> simp [c2, c3, c4]
    · rw [if_neg c2]
      simp [c1, c2]
theorem x_bars (hJ : gJ nO nP nL S L ad σ) {l p o y : Nat} (hl : l < nL) (hp : p < nP) (hy : y < 200) {τ : gS} (hk : lkd σ p o y τ) (hk3 : τ 4 0 3 = if hkB σ S p o y then 1 else 0) : f_X2_bars ad τ l p (nI y) = some (if brB σ S l p o y then 1 else 0) := by
  obtain ⟨h1, h2, h3, h4, h5, h6, h7, h8, h9, h10, h11, h12, h13, h14, h15⟩ := id hJ
  obtain ⟨⟨hO, hP, hL⟩, ⟨m1, m2, m3⟩, ⟨x1, x2, x3⟩⟩ := id h1
  obtain ⟨k, n, f, hkk, e53, e54, hn1, hn2, hf, e56⟩ := h6 l hl
  obtain ⟨-, q1, q2, q3, q4, q5⟩ := h7 l hl
  obtain ⟨g1, g2, g3, g4⟩ := hk
  obtain ⟨p0, p1, p3, p4, p5, p6, p7⟩ := h4 p hp
  unfold f_X2_bars brB
  rw [g1 2 l 1 rfl, g1 2 l 3 rfl, g1 5 p 3 rfl, g1 5 p 0 rfl, q1, q3, p3, p0, g3, g4, hk3]
  by_cases c0 : σ 53 0 l = 0
  · simp only [if_pos c0]
    by_cases q : σ 55 0 l ≤ nI y - σ 47 0 p <;> simp [q]
  simp only [if_neg c0]
  by_cases c1 : σ 53 0 l = 1
  · simp only [if_pos c1]
    have hk1 : k = 1 := by rw [e53, z_1, z_eq (by omega) (by omega)] at c1; exact c1
    obtain ⟨hn, e55⟩ := hn1 hk1
    rw [e55]
    by_cases q : ((τ 4 0 0 >>> (nI n &&& 31)) &&& (1 : Int32)) = 0
    · have := (b_ask (show n < 32 by omega)).mp q
      rw [g2 n hn] at this
      rw [if_pos q, this]; rfl
    · have : ¬ bt (τ 4 0 0) n = false := fun h => q ((b_ask (show n < 32 by omega)).mpr h)
      rw [g2 n hn] at this
      rw [if_neg q]
      cases h : exB (hB σ p (nI n)) y
      · exact absurd h this
      · rfl
  simp only [if_neg c1]
  by_cases c2 : σ 53 0 l = 2
  · simp only [if_pos c2]
    have hk1 : k = 2 := by rw [e53, z_2, z_eq (by omega) (by omega)] at c2; exact c2
    obtain ⟨hna, hnb, e55⟩ := hn2 (Or.inl hk1)
    rw [e55, nI_clamp (by omega)]
    have := last_within (f := hB σ p (-1)) hy (show n < 200 by omega)
    unfold hwB
    rw [← this]
    by_cases c : lastB (hB σ p (-1)) y = -1
    · rw [if_pos c, if_pos c]
    · rw [if_neg c, if_neg c]
      by_cases c' : nI n < nI y - lastB (hB σ p (-1)) y
      · rw [if_pos c', if_pos c']
      · rw [if_neg c', if_neg c']
  simp only [if_neg c2]
  by_cases c3 : σ 53 0 l = 3
  · simp only [if_pos c3]
    have hk1 : k = 3 := by rw [e53, z_3, z_eq (by omega) (by omega)] at c3; exact c3
    obtain ⟨hna, hnb, e55⟩ := hn2 (Or.inr hk1)
    rw [e55, nI_clamp (by omega)]
    have := last_within (f := hB σ p (nI o)) hy (show n < 200 by omega)
    unfold hwB
    rw [← this]
    by_cases c : lastB (hB σ p (nI o)) y = -1
    · rw [if_pos c, if_pos c]
    · rw [if_neg c, if_neg c]
      by_cases c' : nI n < nI y - lastB (hB σ p (nI o)) y
      · rw [if_pos c', if_pos c']
      · rw [if_neg c', if_neg c']
  simp only [if_neg c3]
  by_cases c4 : σ 53 0 l = 4
  · simp only [if_pos c4]
    by_cases q : σ 46 0 p = σ 55 0 l <;> simp [q]
  simp only [if_neg c4]
  cases hkB σ S p o y <;> simp
theorem x_barL (hJ : gJ nO nP nL S L ad σ) {p o y : Nat} (hp : p < nP) (_ho : o < nO) (hy : y < 200) (hfree : σ 45 0 o = 0) {τ : gS} (hk : lkd σ p o y τ) (hk3 : τ 4 0 3 = if hkB σ S p o y then 1 else 0) :
    ∀ (k fuel j : Nat), k < fuel → j + k = nL → f_X6_firstBar_L107 ad (nI o) (nI y) f_X6_firstBar_P160 fuel τ p (nI j) = some (fLw (fun l => inB σ l o y && brB σ S l p o y) k j, τ) := by
  obtain ⟨h1, h2, h3, h4, h5, h6, h7, h8, h9, h10, h11, h12, h13, h14, h15⟩ := id hJ
  obtain ⟨⟨hO, hP, hL⟩, ⟨m1, m2, m3⟩, ⟨x1, x2, x3⟩⟩ := id h1
  have e65 : τ 6 0 5 = nI nL := (hk.1 6 0 5 rfl).trans x3
  intro k
  induction k with
  | zero =>
    intro fuel j hf hj
    obtain ⟨m, rfl⟩ : ∃ m, fuel = m + 1 := ⟨fuel - 1, by omega⟩
    unfold f_X6_firstBar_L107
    rw [e65, if_pos (nI_le (by omega) (by omega))]; rfl
  | succ k ih =>
    intro fuel j hf hj
    obtain ⟨m, rfl⟩ : ∃ m, fuel = m + 1 := ⟨fuel - 1, by omega⟩
    have pj := (z_ix (n := 20) (show j < 2147483648 by omega)).mpr (by omega)
    have e27 : τ 27 0 j = 0 := (hk.1 27 0 j rfl).trans (h2.2.2.1 j (by omega))
    unfold f_X6_firstBar_L107
    rw [e65, if_neg (nI_ge (by omega) (by omega))]
    simp only [if_pos pj, z_clamp (show j < 2147483648 by omega), e27, i0l, x_binds h6 h7 hO (show j < nL by omega) hfree hk.1, x_bars hJ (show j < nL by omega) hp hy hk hk3, Option.bind_some, nI_1, ih m (j + 1) (by omega) (by omega)]
    cases g1 : inB σ j o y
    · simp [fLw, g1]
    · cases g2 : brB σ S j p o y <;> simp [fLw, g1, g2]
theorem fLw_none {f : Nat → Bool} {k j : Nat} (h : ∀ l, f l = false) : fLw f k j = -2 := by
  induction k generalizing j with
  | zero => rfl
  | succ k ih => simp [fLw, h j, ih]
theorem x_bar (hJ : gJ nO nP nL S L ad σ) {p o y : Nat} (hp : p < nP) (ho : o < nO) (hy : y < 200) (own : Bool) : ∃ τ, f_X6_firstBar ad σ (nI p) (nI o) (nI y) (if own then 1 else 0) = some (barS σ S nL p o y own, τ) ∧ eqv σ τ := by
  obtain ⟨h1, h2, h3, h4, h5, h6, h7, h8, h9, h10, h11, h12, h13, h14, h15⟩ := id hJ
  obtain ⟨⟨hO, hP, hL⟩, ⟨m1, m2, m3⟩, ⟨x1, x2, x3⟩⟩ := id h1
  have e25 := h2.1 o ho
  have e26 := h2.2.1 p hp
  have po := (z_ix (n := 8) (show o < 2147483648 by omega)).mpr (by omega)
  have pp := (z_ix (n := 24) (show p < 2147483648 by omega)).mpr (by omega)
  have py := (z_ix (n := 200) (show y < 2147483648 by omega)).mpr (by omega)
  obtain ⟨p0, p1, p3, p4, p5, p6, p7⟩ := h4 p hp
  obtain ⟨-, -, hbo, -, e31, -⟩ := h3 o ho
  obtain ⟨t, t1, t2, t3⟩ := x_look hJ hp ho hy
  -- the laws
  have hP72 : ∃ τ, f_X6_firstBar_P72 ad (nI o) (nI y) σ p = some (fLw (fun l => inB σ l o y && brB σ S l p o y) nL 0, τ) ∧ eqv σ τ := by
    unfold f_X6_firstBar_P72
    simp only [if_pos po, z_clamp (show o < 2147483648 by omega), e25, i0l, e31]
    by_cases hfree : σ 45 0 o = 0
    · rw [if_pos hfree, t1, Option.bind_some]
      exact ⟨t, x_barL hJ hp ho hy hfree t2 t3 nL g_fuel 0 (by unfold g_fuel; omega) (by omega), t2.1⟩
    · rw [if_neg hfree]
      refine ⟨σ, ?_, eqv_rfl σ⟩
      rw [fLw_none]
      intro l
      simp [inB, hfree]
  obtain ⟨u, u1, u2⟩ := hP72
  have hpost : σ 24 p y = -1 ↔ σ 60 0 (200 * p + y) < 0 := by
    rcases x_postv hO hP h3 h8 h9 h11 hp hy with ⟨e1, e2⟩ | ⟨o', s', ho', hs', e1, e2, e3⟩
    · rw [e1, e2]; decide
    · have hS' := (h3 o' ho').1
      have hix := ix_lt (o := o') (y := y) (s := s') (by omega) hy (by omega)
      rw [e1, z_lt0 (by omega)]
      rcases e3 with ⟨-, e3⟩ | ⟨-, e3⟩
      · rw [e3, z_eqm1 (by omega)]
      · rw [e3, z_eqm1 (by omega)]
  have hP53 : ∃ τ, f_X6_firstBar_P53 ad (nI o) (nI y) (if own then 1 else 0) σ p = some (if own = true ∧ ¬ σ 60 0 (200 * p + y) < 0 then -7 else fLw (fun l => inB σ l o y && brB σ S l p o y) nL 0, τ) ∧ eqv σ τ := by
    unfold f_X6_firstBar_P53
    cases own
    · simp only [Bool.false_eq_true, if_false, i00, false_and]
      exact ⟨u, u1, u2⟩
    · simp only [if_true, i10, if_pos py, z_clamp (show y < 2147483648 by omega), true_and]
      by_cases q : σ 60 0 (200 * p + y) < 0
      · rw [if_pos (hpost.mpr q), if_neg (fun h => h q)]
        exact ⟨u, u1, u2⟩
      · rw [if_neg (fun h => q (hpost.mp h)), if_pos q]
        exact ⟨σ, rfl, eqv_rfl σ⟩
  obtain ⟨w, w1, w2⟩ := hP53
  unfold f_X6_firstBar barS
  simp only [if_pos pp, z_clamp (show p < 2147483648 by omega), e26, i0l, p3, p5, p6, p7, w1]
  by_cases c1 : nI y < σ 50 0 p
  · rw [if_pos c1, if_pos c1]
    by_cases c2 : σ 47 0 p ≤ nI y
    · rw [if_pos c2, if_pos c2]
      by_cases c3 : nI y < σ 51 0 p
      · rw [if_pos c3, if_neg (show ¬ (¬ nI y < σ 51 0 p ∧ ¬ σ 52 0 p < nI y) from fun h => h.1 c3)]
        exact ⟨w, rfl, w2⟩
      · rw [if_neg c3]
        by_cases c4 : σ 52 0 p < nI y
        · rw [if_pos c4, if_neg (show ¬ (¬ nI y < σ 51 0 p ∧ ¬ σ 52 0 p < nI y) from fun h => h.2 c4)]
          exact ⟨w, rfl, w2⟩
        · rw [if_neg c4, if_pos ⟨c3, c4⟩]
          exact ⟨σ, rfl, eqv_rfl σ⟩
    · rw [if_neg c2, if_neg c2]
      exact ⟨σ, rfl, eqv_rfl σ⟩
  · rw [if_neg c1, if_neg c1]
    exact ⟨σ, rfl, eqv_rfl σ⟩
end
