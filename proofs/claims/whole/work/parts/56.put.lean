/-! PURE: a seat is taken, left, made void -/
/-- what put, vacate and mark do in the class -/
theorem x_setCode {nO : Nat} {S : Nat → Nat} {ad : gA} {σ : gS} (h3 : J_off nO S ad σ) {o y s : Nat} (ho : o < nO) (hy : y < 200) (hs : s < S o) (v : Int32) : f_X3_setCode ad σ o (nI y) (nI s) v = some (g_up σ 23 o (y * S o + s) (vp_nar .byte (v.toInt8.toInt32))) := by
  obtain ⟨hS, -, -, e3, -, e33⟩ := h3 o ho
  have hlt := cd_lt hy hs
  unfold f_X3_setCode
  rw [e3, pk_mul, nI_add, if_pos, nI_clamp (by omega)]
  · rfl
  rw [z_ix (by omega), e33]
  exact hlt
def xput (S : Nat → Nat) (σ : gS) (p o y s : Nat) : gS := g_up (g_up (g_up σ 23 o (y * S o + s) (nI p)) 24 p y (nI o)) 6 0 6 (σ 6 0 6 + 1)
def mput (σ : gS) (p o y s : Nat) : gS := g_up (g_up σ 58 0 (ixl o y s) (nI p)) 60 0 (200 * p + y) (nI (ixl o y s))
theorem x_put {nO nP nL : Nat} {S : Nat → Nat} {ad : gA} {σ : gS} (hO : nO ≤ 8) (hP : nP ≤ 24) (h2 : J_ref nO nP nL σ) (h3 : J_off nO S ad σ) {p o y s : Nat} (hp : p < nP) (ho : o < nO) (hy : y < 200) (hs : s < S o) : f_X6_put ad σ (nI p) (nI o) (nI y) (nI s) = some (xput S σ p o y s) := by
  have e25 := h2.1 o ho
  have e26 := h2.2.1 p hp
  have po := (z_ix (n := 8) (show o < 2147483648 by omega)).mpr (by omega)
  have pp := (z_ix (n := 24) (show p < 2147483648 by omega)).mpr (by omega)
  have py := (z_ix (n := 200) (show y < 2147483648 by omega)).mpr (by omega)
  unfold f_X6_put
  simp only [if_pos po, z_clamp (show o < 2147483648 by omega), e25, if_true, if_false, reduceIte, i10, i00, i0l, im1, iml, iml', ib0, ib1, x_setCode h3 ho hy hs, Option.bind_some, if_pos pp, z_clamp (show p < 2147483648 by omega), if_pos py, z_clamp (show y < 2147483648 by omega), g_let, z_b p (by omega), z_b o (by omega)]
  rw [show g_up σ 23 o (y * S o + s) (nI p) 26 0 p = 0 from e26]
  rfl
theorem m_put {ad : gA} {σ : gS} {p o y s : Nat} (hp : p < 24) (ho : o < 8) (hy : y < 200) (hs : s < 3) : f_X9_put ad σ (nI p) (nI (ixl o y s)) (nI y) = some (mput σ p o y s) := by
  have hix := ix_lt ho hy hs
  have pq := (z_ix (n := 4800) (show ixl o y s < 2147483648 by omega)).mpr (by omega)
  have pr := (z_ix (n := 4800) (show 200 * p + y < 2147483648 by omega)).mpr (by omega)
  unfold f_X9_put mput
  simp only [if_pos pq, z_clamp (show ixl o y s < 2147483648 by omega), g_let, z_200, pk_mul, nI_add, if_pos pr, z_clamp (show 200 * p + y < 2147483648 by omega)]
section
variable {nO nP nL : Nat} {S : Nat → Nat} {L : gL} {ad : gA} {σ : gS}
/-- both sides put one in -/
theorem J_put (hJ : gJ nO nP nL S L ad σ) {p o y s : Nat} (hp : p < nP) (ho : o < nO) (hy : y < 200) (hs : s < S o) (he : σ 58 0 (ixl o y s) = -1) (hq : σ 60 0 (200 * p + y) = -1) : gJ nO nP nL S L ad (mput (xput S σ p o y s) p o y s) := by
  obtain ⟨h1, h2, h3, h4, h5, h6, h7, h8, h9, h10, h11, h12, h13, h14, h15⟩ := id hJ
  obtain ⟨⟨hO, hP, hL⟩, ⟨m1, m2, m3⟩, ⟨x1, x2, x3⟩⟩ := id h1
  have hS := (h3 o ho).1
  have hix := ix_lt (o := o) (y := y) (s := s) (by omega) hy (by omega)
  have e59 : σ 59 0 (ixl o y s) = 0 := by
    rcases h8 o y s (by omega) hy (by omega) with ⟨-, e⟩ | ⟨-, -, p', hp', e1, -⟩
    · exact e
    · rw [he] at e1
      exact absurd e1.symm (by rw [z_eqm1 (by omega)]; exact id)
  unfold mput xput
  refine ⟨K_cnt rfl rfl rfl rfl rfl rfl h1, K_ref rfl rfl rfl rfl h2, K_off rfl rfl rfl h3, K_per rfl rfl rfl rfl rfl rfl rfl rfl h4, K_kin (σ := σ) (fun q => by simp [g_up]) rfl h5, K_lawM rfl rfl rfl rfl h6, K_lawX rfl rfl rfl rfl rfl rfl h7, ?_, ?_, ?_, ?_, ?_, K_el rfl rfl rfl rfl rfl rfl rfl h13, K_sh rfl rfl rfl rfl rfl rfl rfl h14, h15⟩
  · intro o' y' s' ho' hy' hs'
    by_cases e : ixl o' y' s' = ixl o y s
    · obtain ⟨rfl, rfl, rfl⟩ := ix_inj hy' hs' hy (by omega) e
      refine Or.inr ⟨ho, hs, p, hp, ?_, ?_, ?_⟩
      · simp [g_up]
      · simp [g_up]
      · exact Or.inl (by simpa [g_up] using e59)
    · rcases h8 o' y' s' ho' hy' hs' with ⟨e1, e2⟩ | ⟨b1, b2, p', hp', e1, e2, e3⟩
      · refine Or.inl ⟨?_, ?_⟩
        · simp [g_up, e, e1]
        · simp [g_up, e2]
      · refine Or.inr ⟨b1, b2, p', hp', ?_, ?_, ?_⟩
        · simp [g_up, e, e1]
        · by_cases e' : 200 * p' + y' = 200 * p + y
          · rw [e', hq] at e2
            exact absurd e2.symm (by rw [z_eqm1 (by have := ix_lt ho' hy' hs'; omega)]; exact id)
          · simp [g_up, e', e2]
        · simpa [g_up] using e3
  · intro p' y' hp' hy'
    by_cases e : 200 * p' + y' = 200 * p + y
    · have e1 : p' = p := by omega
      have e2 : y' = y := by omega
      subst e1 e2
      refine Or.inr ⟨hp, o, s, ho, hs, ?_, ?_⟩
      · simp [g_up]
      · simp [g_up]
    · rcases h9 p' y' hp' hy' with e1 | ⟨b1, o', s', ho', hs', e1, e2⟩
      · exact Or.inl (by simp [g_up, e, e1])
      · refine Or.inr ⟨b1, o', s', ho', hs', by simp [g_up, e, e1], ?_⟩
        have : ixl o' y' s' ≠ ixl o y s := fun ee => by
          rw [ee, he] at e2
          exact absurd e2.symm (by rw [z_eqm1 (by omega)]; exact id)
        simp [g_up, this, e2]
  · intro o' y' s' ho' hy' hs'
    have hS' := (h3 o' ho').1
    by_cases e : ixl o' y' s' = ixl o y s
    · obtain ⟨rfl, rfl, rfl⟩ := ix_inj hy' (by omega) hy (by omega) e
      simp [g_up, e59, xcode, z_lt0 (show p < 2147483648 by omega)]
    · have hne : ¬ (o' = o ∧ y' * S o' + s' = y * S o + s) := by
        rintro ⟨rfl, h⟩
        obtain ⟨rfl, rfl⟩ := cd_inj hS.2 hs' hs h
        exact e rfl
      have := h10 o' y' s' ho' hy' hs'
      simp only [g_up]
      simp [e, this]
      intro a b
      exact absurd ⟨a, b⟩ hne
  · intro p' y' hp' hy'
    by_cases e : p' = p ∧ y' = y
    · obtain ⟨rfl, rfl⟩ := e
      simp [g_up, pcode, z_lt0 (show ixl o y' s < 2147483648 by omega), nI_clamp (show ixl o y' s < 2 ^ 31 by omega), e59, show (600 : Int32) = nI 600 from rfl, pk_div (show ixl o y' s < 2 ^ 31 by omega) (show 0 < 600 by omega) (show 600 < 2 ^ 31 by omega), ix_off hy (show s < 3 by omega)]
    · have e' : ¬ (200 * p' + y' = 200 * p + y) := by omega
      have := h11 p' y' hp' hy'
      simp only [g_up]
      simp [e, e', this]
  · have c1 := cnt_le (heldB σ) 4800
    refine ⟨?_, ?_⟩
    · have : cntN (heldB (mput (xput S σ p o y s) p o y s)) 4800 = cntN (heldB σ) 4800 + 1 := by
        apply cnt_flip (x := ixl o y s) hix
        · simp [heldB, he]
        · simp [heldB, mput, xput, g_up, z_0le (show p < 2147483648 by omega)]
        · intro j hj
          simp [heldB, mput, xput, g_up, hj]
      show σ 6 0 6 + 1 = nI (cntN (heldB (mput (xput S σ p o y s) p o y s)) 4800)
      rw [this, h12.1, nI_1]
    · have : cntN (voidB (mput (xput S σ p o y s) p o y s)) 4800 = cntN (voidB σ) 4800 := by
        refine cnt_eq fun j _ => ?_
        by_cases e : j = ixl o y s
        · subst e
          simp [voidB, mput, xput, g_up, e59]
        · simp [voidB, mput, xput, g_up, e]
      show σ 6 0 7 = nI (cntN (voidB (mput (xput S σ p o y s) p o y s)) 4800)
      rw [this, h12.2]
/-- one leaves his seat -/
def xvac (S : Nat → Nat) (σ : gS) (p o y s : Nat) : gS := g_up (g_up (g_up σ 23 o (y * S o + s) (-1)) 24 p y (-1)) 6 0 6 (σ 6 0 6 - 1)
def mvac (σ : gS) (p o y s : Nat) : gS := g_up (g_up (g_up σ 60 0 (200 * p + y) (-1)) 58 0 (ixl o y s) (-1)) 59 0 (ixl o y s) 0
/-- a holding is made void or not -/
def xmark (S : Nat → Nat) (σ : gS) (p o y s : Nat) (c : Nat) (d : Int32) : gS := g_up (g_up (g_up σ 23 o (y * S o + s) (nI (p + c))) 24 p y (nI (o + c))) 6 0 7 (σ 6 0 7 + d)
def mmark (σ : gS) (o y s : Nat) (v : Int32) : gS := g_up σ 59 0 (ixl o y s) v
theorem J_vac (hJ : gJ nO nP nL S L ad σ) {p o y s : Nat} (hp : p < nP) (ho : o < nO) (hy : y < 200) (hs : s < S o) (he : σ 58 0 (ixl o y s) = nI p) (hq : σ 60 0 (200 * p + y) = nI (ixl o y s)) {d : Int32} (hd : σ 6 0 7 - d = nI (cntN (voidB σ) 4800 - (if σ 59 0 (ixl o y s) = 0 then 0 else 1))) : gJ nO nP nL S L ad (mvac (xvac S (g_up σ 6 0 7 (σ 6 0 7 - d)) p o y s) p o y s) := by
  obtain ⟨h1, h2, h3, h4, h5, h6, h7, h8, h9, h10, h11, h12, h13, h14, h15⟩ := id hJ
  obtain ⟨⟨hO, hP, hL⟩, ⟨m1, m2, m3⟩, ⟨x1, x2, x3⟩⟩ := id h1
  have hS := (h3 o ho).1
  have hix := ix_lt (o := o) (y := y) (s := s) (by omega) hy (by omega)
  unfold mvac xvac
  refine ⟨K_cnt rfl rfl rfl rfl rfl rfl h1, K_ref rfl rfl rfl rfl h2, K_off rfl rfl rfl h3, K_per rfl rfl rfl rfl rfl rfl rfl rfl h4, K_kin (σ := σ) (fun q => by simp [g_up]) rfl h5, K_lawM rfl rfl rfl rfl h6, K_lawX rfl rfl rfl rfl rfl rfl h7, ?_, ?_, ?_, ?_, ?_, K_el rfl rfl rfl rfl rfl rfl rfl h13, K_sh rfl rfl rfl rfl rfl rfl rfl h14, h15⟩
  · intro o' y' s' ho' hy' hs'
    by_cases e : ixl o' y' s' = ixl o y s
    · exact Or.inl ⟨by simp [g_up, e], by simp [g_up, e]⟩
    · rcases h8 o' y' s' ho' hy' hs' with ⟨e1, e2⟩ | ⟨b1, b2, p', hp', e1, e2, e3⟩
      · refine Or.inl ⟨?_, ?_⟩
        · simp [g_up, e, e1]
        · simp [g_up, e, e2]
      · refine Or.inr ⟨b1, b2, p', hp', ?_, ?_, ?_⟩
        · simp [g_up, e, e1]
        · by_cases e' : 200 * p' + y' = 200 * p + y
          · rw [e', hq] at e2
            have hl := ix_lt ho' hy' hs'
            exact absurd ((z_eq (by omega) (by omega)).mp e2).symm e
          · simp [g_up, e', e2]
        · simpa [g_up, e] using e3
  · intro p' y' hp' hy'
    by_cases e : 200 * p' + y' = 200 * p + y
    · exact Or.inl (by simp [g_up, e])
    · rcases h9 p' y' hp' hy' with e1 | ⟨b1, o', s', ho', hs', e1, e2⟩
      · exact Or.inl (by simp [g_up, e, e1])
      · refine Or.inr ⟨b1, o', s', ho', hs', by simp [g_up, e, e1], ?_⟩
        have hS' := (h3 o' ho').1
        have : ixl o' y' s' ≠ ixl o y s := fun ee => by
          obtain ⟨rfl, rfl, rfl⟩ := ix_inj hy' (by omega) hy (by omega) ee
          rw [he] at e2
          have := (z_eq (by omega) (by omega)).mp e2
          omega
        simp [g_up, this, e2]
  · intro o' y' s' ho' hy' hs'
    have hS' := (h3 o' ho').1
    by_cases e : ixl o' y' s' = ixl o y s
    · obtain ⟨rfl, rfl, rfl⟩ := ix_inj hy' (by omega) hy (by omega) e
      simp [g_up, xcode]
    · have hne : ¬ (o' = o ∧ y' * S o' + s' = y * S o + s) := by
        rintro ⟨rfl, h⟩
        obtain ⟨rfl, rfl⟩ := cd_inj hS.2 hs' hs h
        exact e rfl
      have := h10 o' y' s' ho' hy' hs'
      simp only [g_up]
      simp [e, this]
      intro a b
      exact absurd ⟨a, b⟩ hne
  · intro p' y' hp' hy'
    by_cases e : p' = p ∧ y' = y
    · obtain ⟨rfl, rfl⟩ := e
      simp [g_up, pcode]
    · have e' : ¬ (200 * p' + y' = 200 * p + y) := by omega
      have := h11 p' y' hp' hy'
      have hx : σ 60 0 (200 * p' + y') = -1 ∨ (σ 60 0 (200 * p' + y')).toNatClampNeg ≠ ixl o y s := by
        rcases h9 p' y' (by omega) hy' with e1 | ⟨b1, o', s', ho', hs', e1, e2⟩
        · exact Or.inl e1
        · have hS' := (h3 o' ho').1
          have hl := ix_lt (o := o') (y := y') (s := s') (by omega) hy' (by omega)
          refine Or.inr ?_
          rw [e1, nI_clamp (by omega)]
          intro ee
          obtain ⟨rfl, rfl, rfl⟩ := ix_inj hy' (by omega) hy (by omega) ee
          rw [he] at e2
          have := (z_eq (by omega) (by omega)).mp e2
          omega
      simp only [g_up]
      rcases hx with hx | hx
      · rw [hx] at this ⊢
        simp only [pcode] at this ⊢
        simp [e, e', hx, this]
      · simp [e, e', hx, this]
  · have c1 := cnt_le (heldB σ) 4800
    refine ⟨?_, ?_⟩
    · have : cntN (heldB σ) 4800 = cntN (heldB (mvac (xvac S (g_up σ 6 0 7 (σ 6 0 7 - d)) p o y s) p o y s)) 4800 + 1 := by
        apply cnt_flip (x := ixl o y s) hix
        · simp [heldB, mvac, xvac, g_up]
        · simp [heldB, he, z_0le (show p < 2147483648 by omega)]
        · intro j hj
          simp [heldB, mvac, xvac, g_up, hj]
      show σ 6 0 6 - 1 = nI (cntN (heldB (mvac (xvac S (g_up σ 6 0 7 (σ 6 0 7 - d)) p o y s) p o y s)) 4800)
      rw [h12.1, this, nI_pred]
    · show σ 6 0 7 - d = nI (cntN (voidB (mvac (xvac S (g_up σ 6 0 7 (σ 6 0 7 - d)) p o y s) p o y s)) 4800)
      refine hd.trans ?_
      by_cases q : σ 59 0 (ixl o y s) = 0
      · rw [if_pos q, Nat.sub_zero]
        have : cntN (voidB (mvac (xvac S (g_up σ 6 0 7 (σ 6 0 7 - d)) p o y s) p o y s)) 4800 = cntN (voidB σ) 4800 := by
          refine cnt_eq fun j _ => ?_
          by_cases e : j = ixl o y s
          · subst e
            simp [voidB, mvac, xvac, g_up, q]
          · simp [voidB, mvac, xvac, g_up, e]
        rw [this]
      · rw [if_neg q]
        have : cntN (voidB σ) 4800 = cntN (voidB (mvac (xvac S (g_up σ 6 0 7 (σ 6 0 7 - d)) p o y s) p o y s)) 4800 + 1 := by
          apply cnt_flip (x := ixl o y s) hix
          · simp [voidB, mvac, xvac, g_up]
          · simp [voidB, he, q, z_0le (show p < 2147483648 by omega)]
          · intro j hj
            simp [voidB, mvac, xvac, g_up, hj]
        rw [show cntN (voidB σ) 4800 - 1 = cntN (voidB (mvac (xvac S (g_up σ 6 0 7 (σ 6 0 7 - d)) p o y s) p o y s)) 4800 by omega]
theorem J_mark (hJ : gJ nO nP nL S L ad σ) {p o y s : Nat} (hp : p < nP) (ho : o < nO) (hy : y < 200) (hs : s < S o) (he : σ 58 0 (ixl o y s) = nI p) (hq : σ 60 0 (200 * p + y) = nI (ixl o y s)) {c : Nat} {v d : Int32} (hv : (v = 0 ∧ c = 0 ∧ d = -1 ∧ σ 59 0 (ixl o y s) = 1) ∨ (v = 1 ∧ c = 100 ∧ d = 1 ∧ σ 59 0 (ixl o y s) = 0)) : gJ nO nP nL S L ad (mmark (xmark S σ p o y s c d) o y s v) := by
  obtain ⟨h1, h2, h3, h4, h5, h6, h7, h8, h9, h10, h11, h12, h13, h14, h15⟩ := id hJ
  obtain ⟨⟨hO, hP, hL⟩, ⟨m1, m2, m3⟩, ⟨x1, x2, x3⟩⟩ := id h1
  have hS := (h3 o ho).1
  have hix := ix_lt (o := o) (y := y) (s := s) (by omega) hy (by omega)
  have c1 := cnt_le (voidB σ) 4800
  unfold mmark xmark
  refine ⟨K_cnt rfl rfl rfl rfl rfl rfl h1, K_ref rfl rfl rfl rfl h2, K_off rfl rfl rfl h3, K_per rfl rfl rfl rfl rfl rfl rfl rfl h4, K_kin (σ := σ) (fun q => by simp [g_up]) rfl h5, K_lawM rfl rfl rfl rfl h6, K_lawX rfl rfl rfl rfl rfl rfl h7, ?_, ?_, ?_, ?_, ?_, K_el rfl rfl rfl rfl rfl rfl rfl h13, K_sh rfl rfl rfl rfl rfl rfl rfl h14, h15⟩
  · intro o' y' s' ho' hy' hs'
    by_cases e : ixl o' y' s' = ixl o y s
    · obtain ⟨rfl, rfl, rfl⟩ := ix_inj hy' hs' hy (by omega) e
      refine Or.inr ⟨ho, hs, p, hp, ?_, ?_, ?_⟩
      · simpa [g_up] using he
      · simpa [g_up] using hq
      · rcases hv with ⟨hv, -⟩ | ⟨hv, -⟩
        · exact Or.inl (by simp [g_up, hv])
        · exact Or.inr (by simp [g_up, hv])
    · rcases h8 o' y' s' ho' hy' hs' with ⟨e1, e2⟩ | ⟨b1, b2, p', hp', e1, e2, e3⟩
      · exact Or.inl ⟨by simp [g_up, e1], by simp [g_up, e, e2]⟩
      · exact Or.inr ⟨b1, b2, p', hp', by simp [g_up, e1], by simp [g_up, e2], by simpa [g_up, e] using e3⟩
  · exact K_place rfl rfl h9
  · intro o' y' s' ho' hy' hs'
    have hS' := (h3 o' ho').1
    by_cases e : ixl o' y' s' = ixl o y s
    · obtain ⟨rfl, rfl, rfl⟩ := ix_inj hy' (by omega) hy (by omega) e
      rcases hv with ⟨hv, hc, -⟩ | ⟨hv, hc, -⟩
      · simp [g_up, xcode, he, hv, hc, z_lt0 (show p < 2147483648 by omega)]
      · simp [g_up, xcode, he, hv, hc, z_lt0 (show p < 2147483648 by omega), z_100, nI_add]
    · have hne : ¬ (o' = o ∧ y' * S o' + s' = y * S o + s) := by
        rintro ⟨rfl, h⟩
        obtain ⟨rfl, rfl⟩ := cd_inj hS.2 hs' hs h
        exact e rfl
      have := h10 o' y' s' ho' hy' hs'
      simp only [g_up]
      simp [e, this]
      intro a b
      exact absurd ⟨a, b⟩ hne
  · intro p' y' hp' hy'
    by_cases e : p' = p ∧ y' = y
    · obtain ⟨rfl, rfl⟩ := e
      rcases hv with ⟨hv, hc, -⟩ | ⟨hv, hc, -⟩
      · simp [g_up, pcode, hq, hv, hc, z_lt0 (show ixl o y' s < 2147483648 by omega), nI_clamp (show ixl o y' s < 2 ^ 31 by omega), show (600 : Int32) = nI 600 from rfl, pk_div (show ixl o y' s < 2 ^ 31 by omega) (show 0 < 600 by omega) (show 600 < 2 ^ 31 by omega), ix_off hy (show s < 3 by omega)]
      · simp [g_up, pcode, hq, hv, hc, z_lt0 (show ixl o y' s < 2147483648 by omega), nI_clamp (show ixl o y' s < 2 ^ 31 by omega), show (600 : Int32) = nI 600 from rfl, pk_div (show ixl o y' s < 2 ^ 31 by omega) (show 0 < 600 by omega) (show 600 < 2 ^ 31 by omega), ix_off hy (show s < 3 by omega), z_100, nI_add]
    · have := h11 p' y' hp' hy'
      have hx : σ 60 0 (200 * p' + y') = -1 ∨ (σ 60 0 (200 * p' + y')).toNatClampNeg ≠ ixl o y s := by
        rcases h9 p' y' (by omega) hy' with e1 | ⟨b1, o', s', ho', hs', e1, e2⟩
        · exact Or.inl e1
        · have hS' := (h3 o' ho').1
          have hl := ix_lt (o := o') (y := y') (s := s') (by omega) hy' (by omega)
          refine Or.inr ?_
          rw [e1, nI_clamp (by omega)]
          intro ee
          obtain ⟨rfl, rfl, rfl⟩ := ix_inj hy' (by omega) hy (by omega) ee
          rw [he] at e2
          have := (z_eq (by omega) (by omega)).mp e2
          omega
      simp only [g_up]
      rcases hx with hx | hx
      · rw [hx] at this
        simp only [pcode] at this ⊢
        simp [e, hx, this]
      · simp [e, hx, this]
  · refine ⟨?_, ?_⟩
    · have : cntN (heldB (mmark (xmark S σ p o y s c d) o y s v)) 4800 = cntN (heldB σ) 4800 := by
        refine cnt_eq fun j _ => ?_
        simp [heldB, mmark, xmark, g_up]
      show σ 6 0 6 = nI (cntN (heldB (mmark (xmark S σ p o y s c d) o y s v)) 4800)
      rw [this, h12.1]
    · show σ 6 0 7 + d = nI (cntN (voidB (mmark (xmark S σ p o y s c d) o y s v)) 4800)
      rcases hv with ⟨hv, -, rfl, e59⟩ | ⟨hv, -, rfl, e59⟩
      · have : cntN (voidB σ) 4800 = cntN (voidB (mmark (xmark S σ p o y s c (-1)) o y s v)) 4800 + 1 := by
          apply cnt_flip (x := ixl o y s) hix
          · simp [voidB, mmark, xmark, g_up, hv]
          · simp [voidB, he, e59, z_0le (show p < 2147483648 by omega)]
          · intro j hj
            simp [voidB, mmark, xmark, g_up, hj]
        rw [h12.2, this, pk_m1]
      · have : cntN (voidB (mmark (xmark S σ p o y s c 1) o y s v)) 4800 = cntN (voidB σ) 4800 + 1 := by
          apply cnt_flip (x := ixl o y s) hix
          · simp [voidB, e59]
          · simp [voidB, mmark, xmark, g_up, hv, he, z_0le (show p < 2147483648 by omega)]
          · intro j hj
            simp [voidB, mmark, xmark, g_up, hj]
        rw [h12.2, this, nI_1]
end
/-! stone, empty, annul -/
/-- the first empty seat, class -/
theorem x_first {nO nP nL : Nat} {S : Nat → Nat} {L : gL} {ad : gA} {σ : gS} (hJ : gJ nO nP nL S L ad σ) {o y : Nat} (ho : o < nO) (hy : y < 200) :
    ∀ (k fuel j : Nat), k < fuel → j + k = S o → (f_X3_firstEmpty_L2 ad σ o (nI y) f_X3_firstEmpty_P28 fuel (nI j) = some (-1) ∧ ∀ s, j ≤ s → s < S o → ¬ σ 58 0 (ixl o y s) < 0) ∨ ∃ s, j ≤ s ∧ s < S o ∧ f_X3_firstEmpty_L2 ad σ o (nI y) f_X3_firstEmpty_P28 fuel (nI j) = some (nI s) ∧ σ 58 0 (ixl o y s) = -1 ∧ ∀ s', j ≤ s' → s' < s → ¬ σ 58 0 (ixl o y s') < 0 := by
  obtain ⟨h1, h2, h3, h4, h5, h6, h7, h8, h9, h10, h11, h12, h13, h14, h15⟩ := id hJ
  obtain ⟨⟨hO, hP, hL⟩, ⟨m1, m2, m3⟩, ⟨x1, x2, x3⟩⟩ := id h1
  have hS := (h3 o ho).1
  have e3 := (h3 o ho).2.2.2.1
  intro k
  induction k with
  | zero =>
    intro fuel j hf hj
    obtain ⟨m, rfl⟩ : ∃ m, fuel = m + 1 := ⟨fuel - 1, by omega⟩
    left
    refine ⟨?_, fun s h h' => by omega⟩
    unfold f_X3_firstEmpty_L2
    rw [e3, if_pos (nI_le (by omega) (by omega))]; rfl
  | succ k ih =>
    intro fuel j hf hj
    obtain ⟨m, rfl⟩ : ∃ m, fuel = m + 1 := ⟨fuel - 1, by omega⟩
    unfold f_X3_firstEmpty_L2
    rw [e3, if_neg (nI_ge (by omega) (by omega))]
    rcases x_seatv hO hP h3 h8 h10 ho hy (show j < S o by omega) with ⟨e1, -, e⟩ | ⟨p, hp, e1, -, e⟩
    · right
      refine ⟨j, Nat.le_refl _, by omega, ?_, e1, fun s' h h' => by omega⟩
      rw [e, Option.bind_some, im1]
    · have hn : ¬ σ 58 0 (ixl o y j) < 0 := by rw [e1]; exact nI_pos (by omega)
      have st : ((f_X3_code ad σ o (nI y) (nI j)).bind fun q1 => if q1 = -1 then some (nI j) else f_X3_firstEmpty_L2 ad σ o (nI y) f_X3_firstEmpty_P28 m (nI j + 1)) = f_X3_firstEmpty_L2 ad σ o (nI y) f_X3_firstEmpty_P28 m (nI (j + 1)) := by
        rcases e with ⟨-, e⟩ | ⟨-, e⟩
        · rw [e, Option.bind_some, if_neg (by rw [z_eqm1 (by omega)]; exact id), nI_1]
        · rw [e, Option.bind_some, if_neg (by rw [z_eqm1 (by omega)]; exact id), nI_1]
      rw [st]
      rcases ih m (j + 1) (by omega) (by omega) with ⟨r1, r2⟩ | ⟨s, b1, b2, r1, r2, r3⟩
      · left
        refine ⟨r1, fun s h h' => ?_⟩
        by_cases q : s = j
        · rw [q]; exact hn
        · exact r2 s (by omega) h'
      · right
        refine ⟨s, by omega, b2, r1, r2, fun s' h h' => ?_⟩
        by_cases q : s' = j
        · rw [q]; exact hn
        · exact r3 s' (by omega) h'
theorem m_stone {ad : gA} {σ : gS} {p o y S0 : Nat} (hp : p < 24) (ho : o < 8) (hy : y < 200) (hS : S0 ≤ 3) (e44 : σ 44 0 o = nI S0) :
    ∀ (k fuel j : Nat), k < fuel → j + k = S0 → ((∀ s, j ≤ s → s < S0 → ¬ σ 58 0 (ixl o y s) < 0) → f_X9_stone_L47 ad (nI p) (nI o) (nI y) f_X9_stone_P100 fuel σ (nI j) = some (-3, σ)) ∧ ∀ s, j ≤ s → s < S0 → σ 58 0 (ixl o y s) < 0 → (∀ s', j ≤ s' → s' < s → ¬ σ 58 0 (ixl o y s') < 0) → f_X9_stone_L47 ad (nI p) (nI o) (nI y) f_X9_stone_P100 fuel σ (nI j) = some (nI s, mput σ p o y s) := by
  have po := (z_ix (n := 8) (show o < 2147483648 by omega)).mpr (by omega)
  intro k
  induction k with
  | zero =>
    intro fuel j hf hj
    obtain ⟨m, rfl⟩ : ∃ m, fuel = m + 1 := ⟨fuel - 1, by omega⟩
    refine ⟨fun _ => ?_, fun s h h' => by omega⟩
    unfold f_X9_stone_L47
    rw [if_pos po, z_clamp (by omega), e44, if_pos (nI_le (by omega) (by omega))]; rfl
  | succ k ih =>
    intro fuel j hf hj
    obtain ⟨m, rfl⟩ : ∃ m, fuel = m + 1 := ⟨fuel - 1, by omega⟩
    have hix := ix_lt ho hy (show j < 3 by omega)
    have pq := (z_ix (n := 4800) (show ixl o y j < 2147483648 by omega)).mpr (by omega)
    obtain ⟨i1, i2⟩ := ih m (j + 1) (by omega) (by omega)
    unfold f_X9_stone_L47
    rw [if_pos po, z_clamp (by omega), e44, if_neg (nI_ge (by omega) (by omega)), m_at]
    simp only [Option.bind_some, if_pos pq, z_clamp (show ixl o y j < 2147483648 by omega), nI_1]
    refine ⟨fun hh => ?_, fun s h h' hn hh => ?_⟩
    · rw [if_neg (hh j (by omega) (by omega))]
      exact i1 fun s h h' => hh s (by omega) h'
    · by_cases q : s = j
      · subst q
        rw [if_pos hn, m_put hp ho hy (by omega)]; rfl
      · rw [if_neg (hh j (by omega) (by omega))]
        exact i2 s (by omega) h' hn fun s' a b => hh s' (by omega) b
theorem ok_stone : sim_stone gI := by
  intro L ad σ ⟨nO, nP, nL, S, hJ⟩ a1 a2 a3
  obtain ⟨h1, h2, h3, h4, h5, h6, h7, h8, h9, h10, h11, h12, h13, h14, h15⟩ := id hJ
  obtain ⟨⟨hO, hP, hL⟩, ⟨m1, m2, m3⟩, ⟨x1, x2, x3⟩⟩ := id h1
  rcases z_cases a1 (n := nP) (by omega) with h | ⟨p, h, rfl⟩
  · refine ⟨-1, σ, σ, ?_, ?_, nO, nP, nL, S, hJ⟩
    · unfold f_X8_stone; rw [x_per0 x2 h]; rfl
    · unfold f_X9_stone; rw [m_per0 (by omega) m2 h]; rfl
  rcases z_cases a2 (n := nO) (by omega) with ho | ⟨o, ho, rfl⟩
  · refine ⟨-1, σ, σ, ?_, ?_, nO, nP, nL, S, hJ⟩
    · unfold f_X8_stone; rw [x_per1 (by omega) x2 h, x_off0 x1 ho]; rfl
    · unfold f_X9_stone; rw [m_per1 (by omega) m2 h, m_off0 (by omega) m1 ho]; rfl
  rcases z_cases a3 (n := 200) (by omega) with hy | ⟨y, hy, rfl⟩
  · refine ⟨-1, σ, σ, ?_, ?_, nO, nP, nL, S, hJ⟩
    · unfold f_X8_stone; rw [x_per1 (by omega) x2 h, x_off1 (by omega) x1 ho, x_year0 hy]; rfl
    · unfold f_X9_stone; rw [m_per1 (by omega) m2 h, m_off1 (by omega) m1 ho, m_year0 hy]; rfl
  have hS := (h3 o ho).1
  have e44 := (h3 o ho).2.1
  have e25 := h2.1 o ho
  have e26 := h2.2.1 p h
  have po := (z_ix (n := 8) (show o < 2147483648 by omega)).mpr (by omega)
  have pp := (z_ix (n := 24) (show p < 2147483648 by omega)).mpr (by omega)
  have py := (z_ix (n := 200) (show y < 2147483648 by omega)).mpr (by omega)
  have pr := (z_ix (n := 4800) (show 200 * p + y < 2147483648 by omega)).mpr (by omega)
  have hm := fun τ e => m_stone (ad := ad) (σ := τ) (p := p) (o := o) (y := y) (S0 := S o) (by omega) (by omega) hy hS.2 e (S o) g_fuel 0 (by unfold g_fuel; omega) (by omega)
  have hx : ∀ q, f_X3_firstEmpty ad σ o (nI y) = some q → f_X8_stone ad σ (nI p) (nI o) (nI y) = if q = -1 then some (-3, σ) else if σ 24 p y = -1 then (f_X6_put ad σ (nI p) (nI o) (nI y) q).bind fun σ20 => some (q, σ20) else some (-3, σ) := by
    intro q hq
    unfold f_X8_stone
    rw [x_per1 (by omega) x2 h, x_off1 (by omega) x1 ho, x_year1 hy]
    simp only [Option.bind_some, if_true, if_false, reduceIte, i10, i00, i0l, im1, iml, iml', ib0, ib1, if_pos po, if_pos pp, if_pos py, z_clamp (show o < 2147483648 by omega), z_clamp (show p < 2147483648 by omega), z_clamp (show y < 2147483648 by omega), e25, e26, hq]
  have hm0 : ∀ τ : gS, τ 9 0 1 = nI nO → τ 9 0 2 = nI nP → f_X9_stone ad τ (nI p) (nI o) (nI y) = if τ 60 0 (200 * p + y) < 0 then f_X9_stone_L47 ad (nI p) (nI o) (nI y) f_X9_stone_P100 g_fuel τ 0 else some (-3, τ) := by
    intro τ t1 t2
    unfold f_X9_stone
    rw [m_per1 (by omega) t2 h, m_off1 (by omega) t1 ho, m_year1 hy]
    simp only [Option.bind_some, if_true, if_false, reduceIte, i10, i00, i0l, im1, iml, iml', ib0, ib1, z_200, pk_mul, nI_add, if_pos pr, z_clamp (show 200 * p + y < 2147483648 by omega)]
  rcases x_first hJ ho hy (S o) g_fuel 0 (by unfold g_fuel; omega) (by omega) with ⟨r1, r2⟩ | ⟨s, b1, b2, r1, r2, r3⟩
  · refine ⟨-3, σ, σ, ?_, ?_, nO, nP, nL, S, hJ⟩
    · rw [hx _ r1, im1]
    · rw [hm0 σ m1 m2]
      by_cases q : σ 60 0 (200 * p + y) < 0
      · rw [if_pos q]; exact (hm σ e44).1 r2
      · rw [if_neg q]
  · have hs1 : ¬ (nI s = -1) := by rw [z_eqm1 (by omega)]; exact id
    rcases x_postv hO hP h3 h8 h9 h11 h hy with ⟨e1, e2⟩ | ⟨o', s', ho', hs', e1, e2, e3⟩
    · refine ⟨nI s, xput S σ p o y s, mput (xput S σ p o y s) p o y s, ?_, ?_, nO, nP, nL, S, J_put hJ h ho hy b2 r2 e1⟩
      · rw [hx _ r1, if_neg hs1, if_pos e2, x_put hO hP h2 h3 h ho hy b2]; rfl
      · rw [hm0 (xput S σ p o y s) m1 m2, show xput S σ p o y s 60 0 (200 * p + y) = -1 from e1, iml]
        refine (hm (xput S σ p o y s) e44).2 s b1 b2 ?_ ?_
        · show σ 58 0 (ixl o y s) < 0
          rw [r2]; decide
        · exact r3
    · have hS' := (h3 o' ho').1
      have hix := ix_lt (o := o') (y := y) (s := s') (by omega) hy (by omega)
      refine ⟨-3, σ, σ, ?_, ?_, nO, nP, nL, S, hJ⟩
      · rw [hx _ r1, if_neg hs1, if_neg]
        rcases e3 with ⟨-, e3⟩ | ⟨-, e3⟩
        · rw [e3, z_eqm1 (by omega)]; exact id
        · rw [e3, z_eqm1 (by omega)]; exact id
      · rw [hm0 σ m1 m2, e1, if_neg (nI_pos (by omega))]
