/-! PURE: breaches -/
def brcB (σ : gS) (S : Nat → Nat) (nL o y s : Nat) : Bool := !decide (σ 58 0 (ixl o y s) < 0) && decide (σ 59 0 (ixl o y s) = 0) && !decide (barS σ S nL (σ 58 0 (ixl o y s)).toNatClampNeg o y false = -2)
def mout (σ : gS) (p o y s : Nat) : gS := g_up (g_up σ 60 0 (200 * p + y) (-1)) 58 0 (ixl o y s) (-1)
theorem fLw_congr {f g : Nat → Bool} {k j : Nat} (h : ∀ l, f l = g l) : fLw f k j = fLw g k j := by
  have : f = g := funext h
  rw [this]
section
variable {nO nP nL : Nat} {S : Nat → Nat} {L : gL} {ad : gA} {σ : gS}
theorem brcB_eqv {τ : gS} (h : eqv σ τ) (o y : Nat) : brcB τ S nL o y = brcB σ S nL o y := by
  funext s
  unfold brcB
  rw [h 58 0 _ rfl, h 59 0 _ rfl, barS_eqv h]
/-- without his own seat: the same as the list without him -/
theorem bar_out {p o y s : Nat} (e58 : σ 58 0 (ixl o y s) = nI p) : barS (mout σ p o y s) S nL p o y true = barS σ S nL p o y false := by
  have e60 : mout σ p o y s 60 0 (200 * p + y) = -1 := by simp [mout, g_up]
  have hh : ∀ a j, j < y → hB (mout σ p o y s) p a j = hB σ p a j := by
    intro a j hj
    have : mout σ p o y s 60 0 (200 * p + j) = σ 60 0 (200 * p + j) := by
      have : ¬ 200 * p + j = 200 * p + y := by omega
      simp [mout, g_up]
      omega
    unfold hB
    rw [this]
    rfl
  have hk : hkB (mout σ p o y s) S p o y = hkB σ S p o y := by
    unfold hkB
    apply exB_congr
    intro s' _
    by_cases e : ixl o y s' = ixl o y s
    · rw [e, e58, show mout σ p o y s 58 0 (ixl o y s) = -1 by simp [mout, g_up]]
      simp
    · rw [show mout σ p o y s 58 0 (ixl o y s') = σ 58 0 (ixl o y s') by simp [mout, g_up, e]]
      rfl
  unfold barS
  rw [e60]
  simp only [show mout σ p o y s 50 = σ 50 from rfl, show mout σ p o y s 47 = σ 47 from rfl, show mout σ p o y s 51 = σ 51 from rfl, show mout σ p o y s 52 = σ 52 from rfl]
  have hl : fLw (fun l => inB (mout σ p o y s) l o y && brB (mout σ p o y s) S l p o y) nL 0 = fLw (fun l => inB σ l o y && brB σ S l p o y) nL 0 := by
    apply fLw_congr
    intro l
    rw [show inB (mout σ p o y s) l o y = inB σ l o y from rfl]
    congr 1
    unfold brB
    rw [hk]
    simp only [show mout σ p o y s 53 = σ 53 from rfl, show mout σ p o y s 47 = σ 47 from rfl, show mout σ p o y s 55 = σ 55 from rfl, show mout σ p o y s 46 = σ 46 from rfl]
    rw [exB_congr (fun j hj => hh (σ 55 0 l) j hj)]
    have hw : ∀ a n, hwB (mout σ p o y s) p a y n = hwB σ p a y n := by
      intro a n
      unfold hwB
      apply exB_congr
      intro j hj
      rw [hh a j hj]
    rw [hw, hw]
  rw [hl]
  simp
theorem couldS_pos {p o y : Nat} : couldS σ S nL p o y ≤ 0 ↔ ¬ barS σ S nL p o y true = -2 := by
  unfold couldS
  by_cases q : barS σ S nL p o y true = -2
  · rw [if_pos q]
    cases exB (dbB σ p o y) nL
    · simp [q]
    · simp [q]
  · rw [if_neg q]
    simp [q]
theorem m_isRight (hw : wM nO nL S σ) {p o y s : Nat} (hp : p < 24) (ho : o < nO) (hy : y < 200) (hs : s < S o) (e58 : σ 58 0 (ixl o y s) = nI p) (e60 : σ 60 0 (200 * p + y) = nI (ixl o y s)) : f_X9_isRight ad σ (nI (ixl o y s)) (nI o) (nI y) = some (if barS σ S nL p o y false = -2 then 1 else 0, σ) := by
  obtain ⟨⟨hO, hL, m3⟩, w1, w2, w3, w4⟩ := id hw
  have hS := (w4 o ho).1
  have hix := ix_lt (o := o) (y := y) (s := s) (by omega) hy (by omega)
  have pq := (z_ix (n := 4800) (show ixl o y s < 2147483648 by omega)).mpr (by omega)
  have pr := (z_ix (n := 4800) (show 200 * p + y < 2147483648 by omega)).mpr (by omega)
  have hw' : wM nO nL S (mout σ p o y s) := by
    refine ⟨⟨hO, hL, m3⟩, ?_, ?_, w3, w4⟩
    · intro p' y' hp' hy'
      by_cases e : 200 * p' + y' = 200 * p + y
      · exact Or.inl (by simp [mout, g_up, e])
      · rw [show mout σ p o y s 60 0 (200 * p' + y') = σ 60 0 (200 * p' + y') by simp [mout, g_up, e]]
        exact w1 p' y' hp' hy'
    · intro o' y' s' ho' hy' hs'
      by_cases e : ixl o' y' s' = ixl o y s
      · exact Or.inl (by simp [mout, g_up, e])
      · rw [show mout σ p o y s 58 0 (ixl o' y' s') = σ 58 0 (ixl o' y' s') by simp [mout, g_up, e]]
        exact w2 o' y' s' ho' hy' hs'
  have hback : mput (mout σ p o y s) p o y s = σ := by
    funext K i j
    unfold mput mout g_up
    by_cases c1 : K = 60 ∧ i = 0 ∧ j = 200 * p + y
    · rw [if_pos c1, c1.1, c1.2.1, c1.2.2, e60]
    · rw [if_neg c1]
      by_cases c2 : K = 58 ∧ i = 0 ∧ j = ixl o y s
      · rw [if_pos c2, c2.1, c2.2.1, c2.2.2, e58]
      · rw [if_neg c2, if_neg c2, if_neg c1]
  have hc := couldS_pos (σ := mout σ p o y s) (S := S) (nL := nL) (p := p) (o := o) (y := y)
  rw [bar_out e58] at hc
  have hp' := m_put (ad := ad) (σ := mout σ p o y s) hp (show o < 8 by omega) hy (show s < 3 by omega)
  rw [hback] at hp'
  unfold f_X9_isRight
  simp only [if_pos pq, z_clamp (show ixl o y s < 2147483648 by omega), e58, z_200, pk_mul, nI_add, if_pos pr, z_clamp (show 200 * p + y < 2147483648 by omega), g_let]
  rw [show g_up (g_up σ 60 0 (200 * p + y) (-1)) 58 0 (ixl o y s) (-1) = mout σ p o y s from rfl, m_could hw' hp ho hy, Option.bind_some, hp']
  by_cases q : barS σ S nL p o y false = -2
  · rw [if_neg (fun h => hc.mp h q), if_pos q]; rfl
  · rw [if_pos (hc.mpr q), if_neg q]; rfl
def hitB (i : Option Nat) (B c : Nat) : Bool := match i with
  | none => false
  | some ii => decide (B ≤ ii) && decide (ii < B + c)
def goO (c : Nat → Nat) (i : Option Nat) : Nat → Nat → Nat → Nat ⊕ Nat
  | 0, _, B => .inr B
  | k + 1, j, B => if hitB i B (c j) then .inl j else goO c i k (j + 1) (B + c j)
def goY (c : Nat → Nat → Nat) (i : Option Nat) (nO : Nat) : Nat → Nat → Nat → Nat ⊕ Nat
  | 0, _, B => .inr B
  | k + 1, y, B => match goO (c y) i nO 0 B with
    | .inl o => .inl (1000 * o + y)
    | .inr B' => goY c i nO k (y + 1) B'
/-- class: the breaches of an office in a year -/
theorem x_brL (hJ : gJ nO nP nL S L ad σ) {o y : Nat} (ho : o < nO) (hy : y < 200) :
    ∀ (k fuel j : Nat) (τ : gS), k < fuel → j + k = S o → eqv σ τ → ∃ τ', f_X6_breachesIn_L13 ad (nI o) (nI y) f_X6_breachesIn_P67 fuel τ o (nI (cntN (brcB σ S nL o y) j)) (nI j) = some (nI (cntN (brcB σ S nL o y) (S o)), τ') ∧ eqv σ τ' := by
  obtain ⟨h1, h2, h3, h4, h5, h6, h7, h8, h9, h10, h11, h12, h13, h14, h15⟩ := id hJ
  obtain ⟨⟨hO, hP, hL⟩, ⟨m1, m2, m3⟩, ⟨x1, x2, x3⟩⟩ := id h1
  have hS := (h3 o ho).1
  have e3 := (h3 o ho).2.2.2.1
  intro k
  induction k with
  | zero =>
    intro fuel j τ hf hj hq
    obtain ⟨m, rfl⟩ : ∃ m, fuel = m + 1 := ⟨fuel - 1, by omega⟩
    have : j = S o := by omega
    subst this
    refine ⟨τ, ?_, hq⟩
    unfold f_X6_breachesIn_L13
    rw [hq 3 o 0 rfl, e3, if_pos (nI_le (by omega) (by omega))]; rfl
  | succ k ih =>
    intro fuel j τ hf hj hq
    obtain ⟨m, rfl⟩ : ∃ m, fuel = m + 1 := ⟨fuel - 1, by omega⟩
    have hJ' := gJ_eqv hq hJ
    have hcnt : cntN (brcB σ S nL o y) (j + 1) = cntN (brcB σ S nL o y) j + (if brcB σ S nL o y j then 1 else 0) := rfl
    have q58 := hq 58 0 (ixl o y j) rfl
    have q59 := hq 59 0 (ixl o y j) rfl
    unfold f_X6_breachesIn_L13
    rw [hq 3 o 0 rfl, e3, if_neg (nI_ge (by omega) (by omega))]
    rcases x_seatv hO hP hJ'.2.2.1 hJ'.2.2.2.2.2.2.2.1 hJ'.2.2.2.2.2.2.2.2.2.1 ho hy (show j < S o by omega) with ⟨e1, -, e⟩ | ⟨p, hp, e1, -, ⟨e2, e⟩ | ⟨e2, e⟩⟩
    · rw [e, Option.bind_some, im1, nI_1]
      rw [q58] at e1
      rw [show brcB σ S nL o y j = false by simp [brcB, e1]] at hcnt
      have := ih m (j + 1) τ (by omega) (by omega) hq
      rw [hcnt] at this
      exact this
    · rw [q58] at e1
      rw [q59] at e2
      rw [e, Option.bind_some, if_neg (by rw [z_eqm1 (by omega)]; exact id), z_100, if_neg (nI_ge (by omega) (by omega)), nI_1]
      obtain ⟨u, u1, u2⟩ := x_bar hJ' hp ho hy false
      rw [barS_eqv hq] at u1
      rw [show f_X6_firstBar ad τ (nI p) (nI o) (nI y) 0 = _ from u1, Option.bind_some]
      have := ih m (j + 1) u (by omega) (by omega) (eqv_trans hq u2)
      rw [hcnt] at this
      by_cases q : barS σ S nL p o y false = -2
      · rw [show brcB σ S nL o y j = false by simp [brcB, e1, nI_clamp (show p < 2 ^ 31 by omega), q]] at this
        rw [if_pos q]
        exact this
      · rw [show brcB σ S nL o y j = true by simp [brcB, e1, e2, nI_clamp (show p < 2 ^ 31 by omega), q, z_lt0 (show p < 2147483648 by omega)]] at this
        rw [if_neg q, nI_1]
        exact this
    · rw [q58] at e1
      rw [q59] at e2
      rw [e, Option.bind_some, if_neg (by rw [z_eqm1 (by omega)]; exact id), z_100, if_pos (nI_le (by omega) (by omega)), nI_1]
      rw [show brcB σ S nL o y j = false by simp [brcB, e2]] at hcnt
      have := ih m (j + 1) τ (by omega) (by omega) hq
      rw [hcnt] at this
      exact this
theorem x_brIn (hJ : gJ nO nP nL S L ad σ) {o y : Nat} (ho : o < nO) (hy : y < 200) {τ : gS} (hq : eqv σ τ) : ∃ τ', f_X6_breachesIn ad τ (nI o) (nI y) = some (nI (cntN (brcB σ S nL o y) (S o)), τ') ∧ eqv σ τ' := by
  obtain ⟨h1, h2, h3, h4, h5, h6, h7, h8, h9, h10, h11, h12, h13, h14, h15⟩ := id hJ
  obtain ⟨⟨hO, hP, hL⟩, ⟨m1, m2, m3⟩, ⟨x1, x2, x3⟩⟩ := id h1
  have hS := (h3 o ho).1
  have po := (z_ix (n := 8) (show o < 2147483648 by omega)).mpr (by omega)
  obtain ⟨τ', t1, t2⟩ := x_brL hJ ho hy (S o) g_fuel 0 τ (by unfold g_fuel; omega) (by omega) hq
  refine ⟨τ', ?_, t2⟩
  unfold f_X6_breachesIn
  simp only [if_pos po, z_clamp (show o < 2147483648 by omega), hq 25 0 o rfl, h2.1 o ho, i0l]
  exact t1
def iI (i : Option Nat) : Int32 := match i with
  | none => -1
  | some ii => nI ii
/-- class: the offices of a year -/
theorem x_brO (hJ : gJ nO nP nL S L ad σ) {y ii : Nat} (hy : y < 200) (hii : ii < 2147483648) (K : gS → Int32 → Int32 → Option (Int32 × gS)) :
    ∀ (k fuel j B : Nat) (τ : gS), k < fuel → j + k = nO → eqv σ τ → B ≤ ii → B + 3 * k ≤ 10000 → ∃ τ', eqv σ τ' ∧ ((∃ o, goO (fun o => cntN (brcB σ S nL o y) (S o)) (some ii) k j B = .inl o ∧ f_X8_breach_L20 ad (nI ii) K fuel τ (nI B) (nI y) (nI j) = some (nI (1000 * o + y), τ')) ∨ (∃ B', goO (fun o => cntN (brcB σ S nL o y) (S o)) (some ii) k j B = .inr B' ∧ B' ≤ ii ∧ B' ≤ B + 3 * k ∧ f_X8_breach_L20 ad (nI ii) K fuel τ (nI B) (nI y) (nI j) = K τ' (nI B') (nI y))) := by
  obtain ⟨h1, h2, h3, h4, h5, h6, h7, h8, h9, h10, h11, h12, h13, h14, h15⟩ := id hJ
  obtain ⟨⟨hO, hP, hL⟩, ⟨m1, m2, m3⟩, ⟨x1, x2, x3⟩⟩ := id h1
  intro k
  induction k with
  | zero =>
    intro fuel j B τ hf hj hq hB hb
    obtain ⟨m, rfl⟩ : ∃ m, fuel = m + 1 := ⟨fuel - 1, by omega⟩
    refine ⟨τ, hq, Or.inr ⟨B, rfl, hB, by omega, ?_⟩⟩
    unfold f_X8_breach_L20
    rw [hq 6 0 3 rfl, x1, if_pos (nI_le (by omega) (by omega))]
  | succ k ih =>
    intro fuel j B τ hf hj hq hB hb
    obtain ⟨m, rfl⟩ : ∃ m, fuel = m + 1 := ⟨fuel - 1, by omega⟩
    have hS := (h3 j (by omega)).1
    have hc := cnt_le (brcB σ S nL j y) (S j)
    obtain ⟨u, u1, u2⟩ := x_brIn hJ (show j < nO by omega) hy hq
    unfold f_X8_breach_L20
    rw [hq 6 0 3 rfl, x1, if_neg (nI_ge (by omega) (by omega)), u1, Option.bind_some]
    simp only [nI_add, nI_1, goO, hitB, z_le (show B + cntN (brcB σ S nL j y) (S j) < 2147483648 by omega) hii]
    by_cases q : B + cntN (brcB σ S nL j y) (S j) ≤ ii
    · rw [if_pos q]
      have hd : (decide (B ≤ ii) && decide (ii < B + cntN (brcB σ S nL j y) (S j))) = false := by
        have : ¬ ii < B + cntN (brcB σ S nL j y) (S j) := by omega
        simp [this]
      obtain ⟨τ', t1, t2⟩ := ih m (j + 1) (B + cntN (brcB σ S nL j y) (S j)) u (by omega) (by omega) u2 q (by omega)
      refine ⟨τ', t1, ?_⟩
      simp only [hd, Bool.false_eq_true, if_false]
      rcases t2 with ⟨o, t2, t3⟩ | ⟨B', t2, t3, t4, t5⟩
      · exact Or.inl ⟨o, t2, t3⟩
      · exact Or.inr ⟨B', t2, t3, by omega, t5⟩
    · rw [if_neg q]
      have hd : (decide (B ≤ ii) && decide (ii < B + cntN (brcB σ S nL j y) (S j))) = true := by
        have : ii < B + cntN (brcB σ S nL j y) (S j) := by omega
        simp [this, hB]
      refine ⟨u, u2, Or.inl ⟨j, ?_, ?_⟩⟩
      · simp only [hd, if_true]
      · rw [z_1000, pk_mul, nI_add]
theorem x_brsO (hJ : gJ nO nP nL S L ad σ) {y : Nat} (hy : y < 200) (K : gS → Int32 → Int32 → Option (Int32 × gS)) :
    ∀ (k fuel j B : Nat) (τ : gS), k < fuel → j + k = nO → eqv σ τ → ∃ τ', eqv σ τ' ∧ ∃ B', goO (fun o => cntN (brcB σ S nL o y) (S o)) none k j B = .inr B' ∧ B' ≤ B + 3 * k ∧ f_X8_breaches_L13 ad K fuel τ (nI B) (nI y) (nI j) = K τ' (nI B') (nI y) := by
  obtain ⟨h1, h2, h3, h4, h5, h6, h7, h8, h9, h10, h11, h12, h13, h14, h15⟩ := id hJ
  obtain ⟨⟨hO, hP, hL⟩, ⟨m1, m2, m3⟩, ⟨x1, x2, x3⟩⟩ := id h1
  intro k
  induction k with
  | zero =>
    intro fuel j B τ hf hj hq
    obtain ⟨m, rfl⟩ : ∃ m, fuel = m + 1 := ⟨fuel - 1, by omega⟩
    refine ⟨τ, hq, B, rfl, by omega, ?_⟩
    unfold f_X8_breaches_L13
    rw [hq 6 0 3 rfl, x1, if_pos (nI_le (by omega) (by omega))]
  | succ k ih =>
    intro fuel j B τ hf hj hq
    obtain ⟨m, rfl⟩ : ∃ m, fuel = m + 1 := ⟨fuel - 1, by omega⟩
    have hS := (h3 j (by omega)).1
    have hc := cnt_le (brcB σ S nL j y) (S j)
    obtain ⟨u, u1, u2⟩ := x_brIn hJ (show j < nO by omega) hy hq
    unfold f_X8_breaches_L13
    rw [hq 6 0 3 rfl, x1, if_neg (nI_ge (by omega) (by omega)), u1, Option.bind_some]
    simp only [nI_add, nI_1]
    obtain ⟨τ', t1, B', t2, t3, t4⟩ := ih m (j + 1) (B + cntN (brcB σ S nL j y) (S j)) u (by omega) (by omega) u2
    refine ⟨τ', t1, B', ?_, by omega, t4⟩
    simp only [goO, hitB]
    exact t2
/-- reference: the seats of an office in a year -/
theorem m_goS (hJ : gJ nO nP nL S L ad σ) {o y : Nat} (ho : o < nO) (hy : y < 200) {i : Option Nat} (hi : ∀ ii, i = some ii → ii < 2147483648) (K : gS → Int32 → Int32 → Option (Int32 × gS)) :
    ∀ (k fuel j B : Nat) (τ : gS), k < fuel → j + k = S o → eqv σ τ → τ 9 0 21 = nI B → B + k ≤ 10000 → ∀ c, c = cntN (brcB σ S nL o y) (S o) - cntN (brcB σ S nL o y) j →
    ∃ τ', eqv σ τ' ∧ ((hitB i B c = true ∧ f_X9_goThrough_L27 ad (iI i) K fuel τ (nI y) (nI o) (nI j) = some (nI (1000 * o + y), τ')) ∨ (hitB i B c = false ∧ τ' 9 0 21 = nI (B + c) ∧ f_X9_goThrough_L27 ad (iI i) K fuel τ (nI y) (nI o) (nI j) = K τ' (nI y) (nI o))) := by
  obtain ⟨h1, h2, h3, h4, h5, h6, h7, h8, h9, h10, h11, h12, h13, h14, h15⟩ := id hJ
  obtain ⟨⟨hO, hP, hL⟩, ⟨m1, m2, m3⟩, ⟨x1, x2, x3⟩⟩ := id h1
  have hS := (h3 o ho).1
  have e44 := (h3 o ho).2.1
  have po := (z_ix (n := 8) (show o < 2147483648 by omega)).mpr (by omega)
  have mono : ∀ (f : Nat → Bool) (a b : Nat), cntN f a ≤ cntN f (a + b) := by
    intro f a b
    induction b with
    | zero => exact Nat.le_refl _
    | succ b ihb => exact Nat.le_trans ihb (Nat.le_add_right _ _)
  intro k
  induction k with
  | zero =>
    intro fuel j B τ hf hj hq hB hb c hc
    obtain ⟨m, rfl⟩ : ∃ m, fuel = m + 1 := ⟨fuel - 1, by omega⟩
    have : j = S o := by omega
    subst this
    have hc0 : c = 0 := by omega
    subst hc0
    refine ⟨τ, hq, Or.inr ⟨?_, hB, ?_⟩⟩
    · cases i
      · rfl
      · simp [hitB]
    · unfold f_X9_goThrough_L27
      rw [if_pos po, z_clamp (by omega), hq 44 0 o rfl, e44, if_pos (nI_le (by omega) (by omega))]
  | succ k ih =>
    intro fuel j B τ hf hj hq hB hb c hc
    obtain ⟨m, rfl⟩ : ∃ m, fuel = m + 1 := ⟨fuel - 1, by omega⟩
    have hJ' := gJ_eqv hq hJ
    have hix := ix_lt (o := o) (y := y) (s := j) (by omega) hy (by omega)
    have pq := (z_ix (n := 4800) (show ixl o y j < 2147483648 by omega)).mpr (by omega)
    have hcnt : cntN (brcB σ S nL o y) (j + 1) = cntN (brcB σ S nL o y) j + (if brcB σ S nL o y j then 1 else 0) := rfl
    have hm := mono (brcB σ S nL o y) (j + 1) k
    rw [show j + 1 + k = S o by omega] at hm
    have q58 := hq 58 0 (ixl o y j) rfl
    have q59 := hq 59 0 (ixl o y j) rfl
    unfold f_X9_goThrough_L27
    rw [if_pos po, z_clamp (by omega), hq 44 0 o rfl, e44, if_neg (nI_ge (by omega) (by omega)), m_at]
    simp only [Option.bind_some, if_pos pq, z_clamp (show ixl o y j < 2147483648 by omega), q58, q59, nI_1]
    have skip : brcB σ S nL o y j = false → c = cntN (brcB σ S nL o y) (S o) - cntN (brcB σ S nL o y) (j + 1) := by
      intro hz
      rw [hz] at hcnt
      simp only [Bool.false_eq_true, if_false] at hcnt
      omega
    rcases h8 o y j (by omega) hy (by omega) with ⟨e1, -⟩ | ⟨-, -, p, hp, e1, e2, e3⟩
    · rw [e1, iml]
      exact ih m (j + 1) B τ (by omega) (by omega) hq hB (by omega) c (skip (by simp [brcB, e1]))
    · rw [e1, if_neg (nI_pos (by omega))]
      by_cases c1 : σ 59 0 (ixl o y j) = 0
      · rw [if_pos c1, m_isRight (wM_of hJ') (show p < 24 by omega) ho hy (show j < S o by omega) (q58.trans e1) ((hq 60 0 _ rfl).trans e2), barS_eqv hq, Option.bind_some]
        by_cases c2 : barS σ S nL p o y false = -2
        · simp only [if_pos c2, i10]
          exact ih m (j + 1) B τ (by omega) (by omega) hq hB (by omega) c (skip (by simp [brcB, e1, nI_clamp (show p < 2 ^ 31 by omega), c2]))
        · simp only [if_neg c2, i00, hB, g_let, nI_1]
          have hb1 : brcB σ S nL o y j = true := by simp [brcB, e1, c1, nI_clamp (show p < 2 ^ 31 by omega), c2, z_lt0 (show p < 2147483648 by omega)]
          rw [hb1] at hcnt
          simp only [if_true] at hcnt
          have hc' : c = (cntN (brcB σ S nL o y) (S o) - cntN (brcB σ S nL o y) (j + 1)) + 1 := by omega
          by_cases c3 : nI B = iI i
          · rw [if_pos c3]
            refine ⟨τ, hq, Or.inl ⟨?_, ?_⟩⟩
            · cases hii : i with
              | none =>
                rw [hii] at c3
                exact absurd c3 (by show ¬ nI B = -1; rw [z_eqm1 (by omega)]; exact id)
              | some ii =>
                rw [hii] at c3
                have := (z_eq (by omega) (hi ii hii)).mp c3
                simp [hitB]; omega
            · rw [z_1000, pk_mul, nI_add]; simp
          · rw [if_neg c3]
            obtain ⟨τ', t1, t2⟩ := ih m (j + 1) (B + 1) (g_up τ 9 0 21 (nI (B + 1))) (by omega) (by omega) (eqv_up hq rfl) up_s (by omega) _ rfl
            have hh : hitB i (B + 1) (cntN (brcB σ S nL o y) (S o) - cntN (brcB σ S nL o y) (j + 1)) = hitB i B c := by
              cases hii : i with
              | none => rfl
              | some ii =>
                have : ¬ B = ii := fun h => c3 (by rw [hii, h]; rfl)
                simp only [hitB, hc']
                by_cases d1 : B ≤ ii
                · have d2 : B + 1 ≤ ii := by omega
                  simp only [d1, d2, decide_true, Bool.true_and]
                  congr 1
                  apply propext
                  omega
                · have d2 : ¬ B + 1 ≤ ii := by omega
                  simp [d1, d2]
            rw [hh, show B + 1 + (cntN (brcB σ S nL o y) (S o) - cntN (brcB σ S nL o y) (j + 1)) = B + c by omega] at t2
            exact ⟨τ', t1, t2⟩
      · rw [if_neg c1]
        exact ih m (j + 1) B τ (by omega) (by omega) hq hB (by omega) c (skip (by simp [brcB, c1]))
/-- reference: the offices of a year -/
theorem m_goO (hJ : gJ nO nP nL S L ad σ) {y : Nat} (hy : y < 200) {i : Option Nat} (hi : ∀ ii, i = some ii → ii < 2147483648) (K : gS → Int32 → Option (Int32 × gS)) :
    ∀ (k fuel j B : Nat) (τ : gS), k < fuel → j + k = nO → eqv σ τ → τ 9 0 21 = nI B → B + 3 * k + 3 ≤ 10000 → ∃ τ', eqv σ τ' ∧ ((∃ o, goO (fun o => cntN (brcB σ S nL o y) (S o)) i k j B = .inl o ∧ f_X9_goThrough_L16 ad (iI i) K fuel τ (nI y) (nI j) = some (nI (1000 * o + y), τ')) ∨ (∃ B', goO (fun o => cntN (brcB σ S nL o y) (S o)) i k j B = .inr B' ∧ τ' 9 0 21 = nI B' ∧ B' ≤ B + 3 * k ∧ f_X9_goThrough_L16 ad (iI i) K fuel τ (nI y) (nI j) = K τ' (nI y))) := by
  obtain ⟨h1, h2, h3, h4, h5, h6, h7, h8, h9, h10, h11, h12, h13, h14, h15⟩ := id hJ
  obtain ⟨⟨hO, hP, hL⟩, ⟨m1, m2, m3⟩, ⟨x1, x2, x3⟩⟩ := id h1
  intro k
  induction k with
  | zero =>
    intro fuel j B τ hf hj hq hB hb
    obtain ⟨m, rfl⟩ : ∃ m, fuel = m + 1 := ⟨fuel - 1, by omega⟩
    refine ⟨τ, hq, Or.inr ⟨B, rfl, hB, by omega, ?_⟩⟩
    unfold f_X9_goThrough_L16
    rw [hq 9 0 1 rfl, m1, if_pos (nI_le (by omega) (by omega))]
  | succ k ih =>
    intro fuel j B τ hf hj hq hB hb
    obtain ⟨m, rfl⟩ : ∃ m, fuel = m + 1 := ⟨fuel - 1, by omega⟩
    have hS := (h3 j (by omega)).1
    have hc := cnt_le (brcB σ S nL j y) (S j)
    unfold f_X9_goThrough_L16
    rw [hq 9 0 1 rfl, m1, if_neg (nI_ge (by omega) (by omega))]
    obtain ⟨u, u1, u2⟩ := m_goS hJ (show j < nO by omega) hy hi (f_X9_goThrough_P114 (f_X9_goThrough_L16 ad (iI i) K m)) (S j) g_fuel 0 B τ (by unfold g_fuel; omega) (by omega) hq hB (by omega) _ rfl
    simp only [show cntN (brcB σ S nL j y) 0 = 0 from rfl, Nat.sub_zero] at u2
    rcases u2 with ⟨u2, u3⟩ | ⟨u2, u3, u4⟩
    · refine ⟨u, u1, Or.inl ⟨j, ?_, u3⟩⟩
      simp only [goO, u2, if_true]
    · obtain ⟨τ', t1, t2⟩ := ih m (j + 1) (B + cntN (brcB σ S nL j y) (S j)) u (by omega) (by omega) u1 u3 (by omega)
      rw [show f_X9_goThrough_L27 ad (iI i) (f_X9_goThrough_P114 (f_X9_goThrough_L16 ad (iI i) K m)) g_fuel τ (nI y) (nI j) 0 = _ from u4]
      unfold f_X9_goThrough_P114
      rw [nI_1]
      refine ⟨τ', t1, ?_⟩
      simp only [goO, u2, Bool.false_eq_true, if_false]
      rcases t2 with ⟨o, t2, t3⟩ | ⟨B', t2, t3, t4, t5⟩
      · exact Or.inl ⟨o, t2, t3⟩
      · exact Or.inr ⟨B', t2, t3, by omega, t5⟩
/-- the years -/
theorem x_brY (hJ : gJ nO nP nL S L ad σ) {ii : Nat} (hii : ii < 2147483648) :
    ∀ (k fuel j B : Nat) (τ : gS), k < fuel → j + k = 200 → eqv σ τ → B ≤ ii → B + 24 * k ≤ 9000 → ∃ τ', eqv σ τ' ∧ f_X8_breach_L10 ad (nI ii) f_X8_breach_P71 fuel τ (nI B) (nI j) = some ((match goY (fun y o => cntN (brcB σ S nL o y) (S o)) (some ii) nO k j B with | .inl r => nI r | .inr _ => -3), τ') := by
  obtain ⟨h1, h2, h3, h4, h5, h6, h7, h8, h9, h10, h11, h12, h13, h14, h15⟩ := id hJ
  obtain ⟨⟨hO, hP, hL⟩, ⟨m1, m2, m3⟩, ⟨x1, x2, x3⟩⟩ := id h1
  intro k
  induction k with
  | zero =>
    intro fuel j B τ hf hj hq hB hb
    obtain ⟨m, rfl⟩ : ∃ m, fuel = m + 1 := ⟨fuel - 1, by omega⟩
    refine ⟨τ, hq, ?_⟩
    unfold f_X8_breach_L10
    rw [z_200, if_pos (nI_le (by omega) (by omega))]; rfl
  | succ k ih =>
    intro fuel j B τ hf hj hq hB hb
    obtain ⟨m, rfl⟩ : ∃ m, fuel = m + 1 := ⟨fuel - 1, by omega⟩
    unfold f_X8_breach_L10
    rw [z_200, if_neg (nI_ge (by omega) (by omega))]
    obtain ⟨u, u1, u2⟩ := x_brO hJ (show j < 200 by omega) hii (f_X8_breach_P65 (f_X8_breach_L10 ad (nI ii) f_X8_breach_P71 m)) nO g_fuel 0 B τ (by unfold g_fuel; omega) (by omega) hq hB (by omega)
    rcases u2 with ⟨o, u2, u3⟩ | ⟨B', u2, u3, u4, u5⟩
    · refine ⟨u, u1, ?_⟩
      rw [show f_X8_breach_L20 ad (nI ii) (f_X8_breach_P65 (f_X8_breach_L10 ad (nI ii) f_X8_breach_P71 m)) g_fuel τ (nI B) (nI j) 0 = _ from u3]
      simp only [goY, u2]
    · obtain ⟨τ', t1, t2⟩ := ih m (j + 1) B' u (by omega) (by omega) u1 u3 (by omega)
      refine ⟨τ', t1, ?_⟩
      rw [show f_X8_breach_L20 ad (nI ii) (f_X8_breach_P65 (f_X8_breach_L10 ad (nI ii) f_X8_breach_P71 m)) g_fuel τ (nI B) (nI j) 0 = _ from u5]
      unfold f_X8_breach_P65
      rw [nI_1, t2]
      simp only [goY, u2]
theorem x_brsY (hJ : gJ nO nP nL S L ad σ) :
    ∀ (k fuel j B : Nat) (τ : gS), k < fuel → j + k = 200 → eqv σ τ → ∃ τ' B', eqv σ τ' ∧ goY (fun y o => cntN (brcB σ S nL o y) (S o)) none nO k j B = .inr B' ∧ f_X8_breaches_L4 ad f_X8_breaches_P48 fuel τ (nI B) (nI j) = some (nI B', τ') := by
  obtain ⟨h1, h2, h3, h4, h5, h6, h7, h8, h9, h10, h11, h12, h13, h14, h15⟩ := id hJ
  obtain ⟨⟨hO, hP, hL⟩, ⟨m1, m2, m3⟩, ⟨x1, x2, x3⟩⟩ := id h1
  intro k
  induction k with
  | zero =>
    intro fuel j B τ hf hj hq
    obtain ⟨m, rfl⟩ : ∃ m, fuel = m + 1 := ⟨fuel - 1, by omega⟩
    refine ⟨τ, B, hq, rfl, ?_⟩
    unfold f_X8_breaches_L4
    rw [z_200, if_pos (nI_le (by omega) (by omega))]; rfl
  | succ k ih =>
    intro fuel j B τ hf hj hq
    obtain ⟨m, rfl⟩ : ∃ m, fuel = m + 1 := ⟨fuel - 1, by omega⟩
    unfold f_X8_breaches_L4
    rw [z_200, if_neg (nI_ge (by omega) (by omega))]
    obtain ⟨u, u1, B1, u2, u3, u4⟩ := x_brsO hJ (show j < 200 by omega) (f_X8_breaches_P42 (f_X8_breaches_L4 ad f_X8_breaches_P48 m)) nO g_fuel 0 B τ (by unfold g_fuel; omega) (by omega) hq
    obtain ⟨τ', B', t1, t2, t3⟩ := ih m (j + 1) B1 u (by omega) (by omega) u1
    refine ⟨τ', B', t1, ?_, ?_⟩
    · simp only [goY, u2]
      exact t2
    · rw [show f_X8_breaches_L13 ad (f_X8_breaches_P42 (f_X8_breaches_L4 ad f_X8_breaches_P48 m)) g_fuel τ (nI B) (nI j) 0 = _ from u4]
      unfold f_X8_breaches_P42
      rw [nI_1]
      exact t3
theorem m_goY (hJ : gJ nO nP nL S L ad σ) {i : Option Nat} (hi : ∀ ii, i = some ii → ii < 2147483648) :
    ∀ (k fuel j B : Nat) (τ : gS), k < fuel → j + k = 200 → eqv σ τ → τ 9 0 21 = nI B → B + 24 * k ≤ 9000 → ∃ τ', eqv σ τ' ∧ ((∃ r, goY (fun y o => cntN (brcB σ S nL o y) (S o)) i nO k j B = .inl r ∧ f_X9_goThrough_L7 ad (iI i) f_X9_goThrough_P126 fuel τ (nI j) = some (nI r, τ')) ∨ (∃ B', goY (fun y o => cntN (brcB σ S nL o y) (S o)) i nO k j B = .inr B' ∧ τ' 9 0 21 = nI B' ∧ f_X9_goThrough_L7 ad (iI i) f_X9_goThrough_P126 fuel τ (nI j) = some (-3, τ'))) := by
  obtain ⟨h1, h2, h3, h4, h5, h6, h7, h8, h9, h10, h11, h12, h13, h14, h15⟩ := id hJ
  obtain ⟨⟨hO, hP, hL⟩, ⟨m1, m2, m3⟩, ⟨x1, x2, x3⟩⟩ := id h1
  intro k
  induction k with
  | zero =>
    intro fuel j B τ hf hj hq hB hb
    obtain ⟨m, rfl⟩ : ∃ m, fuel = m + 1 := ⟨fuel - 1, by omega⟩
    refine ⟨τ, hq, Or.inr ⟨B, rfl, hB, ?_⟩⟩
    unfold f_X9_goThrough_L7
    rw [z_200, if_pos (nI_le (by omega) (by omega))]; rfl
  | succ k ih =>
    intro fuel j B τ hf hj hq hB hb
    obtain ⟨m, rfl⟩ : ∃ m, fuel = m + 1 := ⟨fuel - 1, by omega⟩
    unfold f_X9_goThrough_L7
    rw [z_200, if_neg (nI_ge (by omega) (by omega))]
    obtain ⟨u, u1, u2⟩ := m_goO hJ (show j < 200 by omega) hi (f_X9_goThrough_P120 (f_X9_goThrough_L7 ad (iI i) f_X9_goThrough_P126 m)) nO g_fuel 0 B τ (by unfold g_fuel; omega) (by omega) hq hB (by omega)
    rcases u2 with ⟨o, u2, u3⟩ | ⟨B', u2, u3, u4, u5⟩
    · refine ⟨u, u1, Or.inl ⟨1000 * o + j, ?_, ?_⟩⟩
      · simp only [goY, u2]
      · rw [show f_X9_goThrough_L16 ad (iI i) (f_X9_goThrough_P120 (f_X9_goThrough_L7 ad (iI i) f_X9_goThrough_P126 m)) g_fuel τ (nI j) 0 = _ from u3]
    · obtain ⟨τ', t1, t2⟩ := ih m (j + 1) B' u (by omega) (by omega) u1 u3 (by omega)
      refine ⟨τ', t1, ?_⟩
      rw [show f_X9_goThrough_L16 ad (iI i) (f_X9_goThrough_P120 (f_X9_goThrough_L7 ad (iI i) f_X9_goThrough_P126 m)) g_fuel τ (nI j) 0 = _ from u5]
      unfold f_X9_goThrough_P120
      rw [nI_1]
      simp only [goY, u2]
      exact t2
end
theorem ok_breaches : sim_breaches gI := by
  intro L ad σ ⟨nO, nP, nL, S, hJ⟩
  obtain ⟨τ, B, t1, t2, t3⟩ := x_brsY hJ 200 g_fuel 0 0 σ (by unfold g_fuel; omega) (by omega) (eqv_rfl σ)
  obtain ⟨u, u1, u2⟩ := m_goY (i := none) hJ (fun ii h => by cases h) 200 g_fuel 0 0 (g_up τ 9 0 21 0) (by unfold g_fuel; omega) (by omega) (eqv_up t1 rfl) up_s (by omega)
  rcases u2 with ⟨r, u2, -⟩ | ⟨B', u2, u3, u4⟩
  · rw [t2] at u2; cases u2
  · rw [t2] at u2
    cases u2
    refine ⟨nI B, τ, u, t3, ?_, nO, nP, nL, S, gJ_eqv u1 hJ⟩
    unfold f_X9_breaches f_X9_goThrough
    simp only [g_let]
    rw [show f_X9_goThrough_L7 ad (-1) f_X9_goThrough_P126 g_fuel (g_up τ 9 0 21 0) 0 = _ from u4, Option.bind_some]
    show some (u 9 0 21, u) = _
    rw [u3]
theorem ok_breach : sim_breach gI := by
  intro L ad σ ⟨nO, nP, nL, S, hJ⟩ a1
  by_cases q : a1 < 0
  · refine ⟨-1, σ, σ, ?_, ?_, nO, nP, nL, S, hJ⟩
    · unfold f_X8_breach; rw [if_neg (by rw [z_not_le]; exact q)]
    · unfold f_X9_breach; rw [if_neg (by rw [z_not_le]; exact q)]
  obtain ⟨ii, hii, rfl⟩ := z_nn q
  obtain ⟨τ, t1, t3⟩ := x_brY hJ hii 200 g_fuel 0 0 σ (by unfold g_fuel; omega) (by omega) (eqv_rfl σ) (by omega) (by omega)
  obtain ⟨u, u1, u2⟩ := m_goY (i := some ii) hJ (fun _ h => by cases h; exact hii) 200 g_fuel 0 0 (g_up τ 9 0 21 0) (by unfold g_fuel; omega) (by omega) (eqv_up t1 rfl) up_s (by omega)
  have hX : f_X8_breach ad σ (nI ii) = f_X8_breach_L10 ad (nI ii) f_X8_breach_P71 g_fuel σ (nI 0) (nI 0) := by
    unfold f_X8_breach; rw [if_pos (z_not_lt.mp q), nI_0]
  have hM : f_X9_breach ad τ (nI ii) = (f_X9_goThrough_L7 ad (iI (some ii)) f_X9_goThrough_P126 g_fuel (g_up τ 9 0 21 0) (nI 0)).bind fun q1 => some (q1.1, q1.2) := by
    unfold f_X9_breach f_X9_goThrough; rw [if_pos (z_not_lt.mp q)]
    simp only [g_let, nI_0, iI]
  rcases u2 with ⟨r, u2, u3⟩ | ⟨B', u2, u3, u4⟩
  · rw [u2] at t3
    refine ⟨nI r, τ, u, hX.trans t3, ?_, nO, nP, nL, S, gJ_eqv u1 hJ⟩
    rw [hM, u3, Option.bind_some]
  · rw [u2] at t3
    refine ⟨-3, τ, u, hX.trans t3, ?_, nO, nP, nL, S, gJ_eqv u1 hJ⟩
    rw [hM, u4, Option.bind_some]
