/-! PURE: the reference searches -/
theorem m_offAt {ad : gA} {σ : gS} {o y s : Nat} (ho : o < 8) (hy : y < 200) (hs : s < 3) : f_X9_officeAt ad σ (nI (ixl o y s)) = some (nI o) := by
  have hix := ix_lt ho hy hs
  unfold f_X9_officeAt
  rw [z_600, z_div (by omega) (by omega) (by omega), ix_off hy hs]
def fitR (ρ : gS) (S : Nat → Nat) (nL y : Nat) (go : Nat → Nat) : Nat → (Nat → Nat) → Nat → Bool := fitB (fun p o => decide (barS ρ S nL p o y true = -2)) (kbB ρ nL y) (kB ρ) go
def RM (ρ : gS) (S : Nat → Nat) (nL nP n y : Nat) (go gs : Nat → Nat) (w wh : Int32) (k : Nat) (st : qS) (μ : gS) : Prop := PW go gs y 0 k st.2.2.2.2 ρ μ ∧ (μ 9 0 22 = nI n ∧ μ 9 0 23 = nI st.1 ∧ μ 9 0 24 = w ∧ μ 9 0 25 = wh ∧ μ 9 0 26 = nI st.2.2.1) ∧ (∀ j, j < n → μ 67 0 j = nI (ixl (go j) y (gs j))) ∧ (∀ j, j < k → μ 68 0 j = nI (st.2.2.2.2 j)) ∧ (∀ j, j < k → st.2.2.2.2 j < nP) ∧ (∀ j, j < k → fitR ρ S nL y go j st.2.2.2.2 (st.2.2.2.2 j) = true)
def RMe (ρ : gS) (S : Nat → Nat) (nL nP n y : Nat) (go gs : Nat → Nat) (st : qS) (μ : gS) : Prop := PW go gs y 0 n st.2.2.2.2 ρ μ ∧ μ 9 0 22 = nI n ∧ (∀ j, j < n → st.2.2.2.2 j < nP) ∧ (∀ j, j < n → fitR ρ S nL y go j st.2.2.2.2 (st.2.2.2.2 j) = true)
/-- one level back -/
def bkM (ad : gA) (y : Nat) (a2 : Int32) (k fuel : Nat) (v : Int32) (μ : gS) : Option (Int32 × gS) := if nI k + (-1 : Int32) < 0 then f_X9_fillYear_L109 ad (nI y) a2 f_X9_fillYear_P358 fuel μ v (nI k + (-1 : Int32)) else ((f_X9_takeBack ad μ (nI k + (-1 : Int32)) (nI y)).bind fun s => f_X9_fillYear_L109 ad (nI y) a2 f_X9_fillYear_P358 fuel s v (nI k + (-1 : Int32)))
def OM (ad : gA) (ρ : gS) (S : Nat → Nat) (nL nP n y : Nat) (go gs : Nat → Nat) (w wh : Int32) (a2 : Int32) (k fuel T0 : Nat) (st : qS) (r : Option (Int32 × gS)) : Prop :=
  (st.2.2.2.1 = 0 ∧ ∃ fuel' μ, fuel + 2 * T0 ≤ fuel' + 2 * st.1 + 1 ∧ RM ρ S nL nP n y go gs w wh k st μ ∧ r = bkM ad y a2 k fuel' (nI st.2.1) μ) ∨
  (st.2.2.2.1 = 1 ∧ ∃ μ, r = some (-8, μ) ∧ eqv ρ μ) ∨
  (st.2.2.2.1 = 2 ∧ ∃ μ, r = some (1, μ) ∧ RMe ρ S nL nP n y go gs st μ)
section
variable {nO nP nL n y : Nat} {S go gs : Nat → Nat} {ad : gA} {ρ μ : gS} {w wh : Int32}
theorem fit_dist {c : Nat → Nat} {k : Nat} (hf : ∀ t, t < k → fitR ρ S nL y go t c (c t) = true) : ∀ t u, t < k → u < k → t ≠ u → c t ≠ c u := by
  intro t u ht hu h
  rcases Nat.lt_or_ge t u with c1 | c1
  · exact fitB_ne (hf u hu) t c1
  · exact fun e => fitB_ne (hf t ht) u (by omega) e.symm
theorem fit_free {c : Nat → Nat} {t : Nat} (hL : nL ≤ 20) (hw : plc ρ) (hy : y < 200) (hc : c t < 24) (hf : fitR ρ S nL y go t c (c t) = true) : ρ 60 0 (200 * c t + y) = -1 := by
  unfold fitR fitB at hf
  rw [Bool.and_eq_true, Bool.and_eq_true, decide_eq_true_eq, bar_iff hL] at hf
  have := hf.1.1.2.1 rfl
  rcases hw (c t) y hc hy with e | ⟨x, hx, e⟩
  · exact e
  · rw [e, z_lt0 (by omega)] at this
    exact this.elim
theorem RM_take {k : Nat} {st : qS} (hO : nO ≤ 8) (hP : nP ≤ 24) (hL : nL ≤ 20) (hS : ∀ o, o < nO → S o ≤ 3) (hw : plc ρ) (hg : gpP nO n y S go gs ρ) (hk : k < n) (h : RM ρ S nL nP n y go gs w wh (k + 1) st μ) : f_X9_takeBack ad μ (nI k) (nI y) = some (mout μ (st.2.2.2.2 k) (go k) y (gs k)) ∧ RM ρ S nL nP n y go gs w wh k st (mout μ (st.2.2.2.2 k) (go k) y (gs k)) ∧ mout μ (st.2.2.2.2 k) (go k) y (gs k) 68 0 k = nI (st.2.2.2.2 k) := by
  obtain ⟨a1, a2, a3, a4, a5, a6⟩ := h
  have hd := fit_dist a6
  have hck := a5 k (by omega)
  have e60 := fit_free hL hw hg.1.2 (by omega) (a6 k (by omega))
  refine ⟨m_takeBack hO hS hg hk (a3 k hk) (a1.2.2.2 k (by omega) (by omega)).1 (by omega), ⟨?_, a2, a3, fun j hj => a4 j (by omega), fun j hj => a5 j (by omega), fun j hj => a6 j (by omega)⟩, a4 k (by omega)⟩
  exact PW_back hS hg (lo := 0) (hi := k + 1) (k := k) (by omega) (by omega) (fun t => by omega) a1 (fun t _ ht hne => hd t k (by omega) (by omega) hne) e60
/-- all are taken back -/
theorem m_allBack {c : Nat → Nat} {k : Nat} (hO : nO ≤ 8) (hP : nP ≤ 24) (hL : nL ≤ 20) (hS : ∀ o, o < nO → S o ≤ 3) (hw : plc ρ) (hg : gpP nO n y S go gs ρ) (hk : k ≤ n) (hc : ∀ j, j < k → c j < nP) (hf : ∀ j, j < k → fitR ρ S nL y go j c (c j) = true) :
    ∀ (m fuel b : Nat) (μ : gS), m < fuel → b + m = k → PW go gs y b k c ρ μ → (∀ j, j < n → μ 67 0 j = nI (ixl (go j) y (gs j))) → ∃ μ', f_X9_fillYear_L239 ad (nI y) f_X9_fillYear_P259 fuel μ (nI k) (nI b) = some (-8, μ') ∧ eqv ρ μ' := by
  have hn := hg.1.1
  have hd := fit_dist hf
  intro m
  induction m with
  | zero =>
    intro fuel b μ hfu hb hpw h67
    obtain ⟨f, rfl⟩ : ∃ f, fuel = f + 1 := ⟨fuel - 1, by omega⟩
    have : b = k := by omega
    subst this
    refine ⟨μ, ?_, PW_eqv hpw⟩
    unfold f_X9_fillYear_L239
    rw [if_pos (nI_le (by omega) (by omega))]; rfl
  | succ m ih =>
    intro fuel b μ hfu hb hpw h67
    obtain ⟨f, rfl⟩ : ∃ f, fuel = f + 1 := ⟨fuel - 1, by omega⟩
    unfold f_X9_fillYear_L239
    have hcb := hc b (by omega)
    rw [if_neg (nI_ge (by omega) (by omega)), m_takeBack hO hS hg (by omega) (h67 b (by omega)) (hpw.2.2.2 b (by omega) (by omega)).1 (by omega), Option.bind_some, nI_1]
    exact ih f (b + 1) _ (by omega) (by omega) (PW_back hS hg (lo := b) (hi := k) (k := b) hk (by omega) (fun t => by omega) hpw (fun t _ ht hne => hd t b (by omega) (by omega) hne) (fit_free hL hw hg.1.2 (by omega) (hf b (by omega)))) h67
theorem m_allRight {c : Nat → Nat} (hwm : wM nO nL S ρ) (hP : nP ≤ 24) (hg : gpP nO n y S go gs ρ) (hpw : PW go gs y 0 n c ρ μ) (h22 : μ 9 0 22 = nI n) (h67 : ∀ j, j < n → μ 67 0 j = nI (ixl (go j) y (gs j))) (hc : ∀ j, j < n → c j < nP) (hf : ∀ j, j < n → fitR ρ S nL y go j c (c j) = true) :
    ∀ (m fuel j : Nat), m < fuel → j + m = n → f_X9_areAllRight_L4 ad (nI y) f_X9_areAllRight_P52 fuel μ 1 (nI j) = some (1, μ) := by
  obtain ⟨⟨hO, hL, m3⟩, w1, w2, w3, w4⟩ := id hwm
  have hn := hg.1.1
  have hy := hg.1.2
  have hwμ := wM_puts hwm hg (Nat.le_refl _) hpw (fun t ht => by have := hc t ht; omega)
  intro m
  induction m with
  | zero =>
    intro fuel j hfu hj
    obtain ⟨f, rfl⟩ : ∃ f, fuel = f + 1 := ⟨fuel - 1, by omega⟩
    unfold f_X9_areAllRight_L4
    rw [h22, if_pos (nI_le (by omega) (by omega))]; rfl
  | succ m ih =>
    intro fuel j hfu hj
    obtain ⟨f, rfl⟩ : ∃ f, fuel = f + 1 := ⟨fuel - 1, by omega⟩
    have pj := (z_ix (n := 24) (show j < 2147483648 by omega)).mpr (by omega)
    have g1 := hg.2.1 j (by omega)
    have hS' := (w4 _ g1.1).1
    have hcj := hc j (by omega)
    have hp4 := hpw.2.2.2 j (by omega) (by omega)
    unfold f_X9_areAllRight_L4
    rw [h22, if_neg (nI_ge (by omega) (by omega)), i10, if_pos pj, if_pos pj, z_clamp (by omega), h67 j (by omega), m_offAt (by omega) hy (by omega), Option.bind_some, m_isRight hwμ (p := c j) (by omega) g1.1 hy g1.2.1 hp4.1 hp4.2, Option.bind_some]
    rw [if_pos (right_puts hO hL (fun o ho => (w4 o ho).1) hg w3 hpw (fun t ht => by have := hc t ht; omega) hf (by omega)), i10, nI_1]
    exact ih f (j + 1) (by omega) (by omega)
theorem m_isAmong {c : Nat → Nat} (hO : nO ≤ 8) (hS : ∀ o, o < nO → S o ≤ 3) (hg : gpP nO n y S go gs ρ) (hpw : PW go gs y 0 n c ρ μ) (h22 : μ 9 0 22 = nI n) (h24 : μ 9 0 24 = w) (h25 : μ 9 0 25 = wh) (h67 : ∀ j, j < n → μ 67 0 j = nI (ixl (go j) y (gs j))) :
    ∀ (m fuel j : Nat), m < fuel → j + m = n → exB (fun j => decide (nI (c j) = w) && decide (nI (go j) = wh)) j = false → f_X9_isAmong_L2 ad μ f_X9_isAmong_P53 fuel (nI j) = some (if hitF w wh go n c then 1 else 0) := by
  have hn := hg.1.1
  have hy := hg.1.2
  intro m
  induction m with
  | zero =>
    intro fuel j hfu hj hz
    obtain ⟨f, rfl⟩ : ∃ f, fuel = f + 1 := ⟨fuel - 1, by omega⟩
    have : j = n := by omega
    subst this
    unfold f_X9_isAmong_L2 hitF
    rw [h22, if_pos (nI_le (by omega) (by omega)), hz]; rfl
  | succ m ih =>
    intro fuel j hfu hj hz
    obtain ⟨f, rfl⟩ : ∃ f, fuel = f + 1 := ⟨fuel - 1, by omega⟩
    have pj := (z_ix (n := 24) (show j < 2147483648 by omega)).mpr (by omega)
    have g1 := hg.2.1 j (by omega)
    have hS' := hS _ g1.1
    have hix := ix_lt (o := go j) (y := y) (s := gs j) (by omega) hy (by omega)
    have pq := (z_ix (n := 4800) (show ixl (go j) y (gs j) < 2147483648 by omega)).mpr (by omega)
    have st : (decide (nI (c j) = w) && decide (nI (go j) = wh)) = false → f_X9_isAmong_L2 ad μ f_X9_isAmong_P53 f (nI (j + 1)) = some (if hitF w wh go n c then 1 else 0) := fun hb => ih f (j + 1) (by omega) (by omega) (by rw [exB, hz, hb]; rfl)
    unfold f_X9_isAmong_L2
    rw [h22, if_neg (nI_ge (by omega) (by omega))]
    simp only [if_pos pj, z_clamp (show j < 2147483648 by omega), h67 j (by omega), if_pos pq, z_clamp (show ixl (go j) y (gs j) < 2147483648 by omega), (hpw.2.2.2 j (by omega) (by omega)).1, h24, h25, nI_1]
    by_cases c1 : nI (c j) = w
    · rw [if_pos c1, m_offAt (by omega) hy (by omega), Option.bind_some]
      by_cases c2 : nI (go j) = wh
      · rw [if_pos c2]
        unfold hitF
        rw [exB_iff.mpr ⟨j, by omega, by simp [c1, c2]⟩]; rfl
      · rw [if_neg c2]
        exact st (by simp [c2])
    · rw [if_neg c1]
      exact st (by simp [c1])
theorem bk_let {X : Type} (σ : gS) (a : Int32) (A B : gS → Option X) : (g_let σ fun s => if a < 0 then A s else B s) = if a < 0 then A σ else B σ := rfl
/-- at the end of the gaps -/
theorem m_leaf {one : Bool} {a2 : Int32} {st : qS} {fuel : Nat} (hwm : wM nO nL S ρ) (hP : nP ≤ 24) (hg : gpP nO n y S go gs ρ) (ha2 : a2 = if one then 0 else 1) (h : RM ρ S nL nP n y go gs w wh n st μ) (hfu : 40001 ≤ fuel + 2 * st.1) (hok : okS one st) : OM ad ρ S nL nP n y go gs w wh a2 n fuel st.1 (q_leaf one (hitF w wh go n) st) (f_X9_fillYear_L109 ad (nI y) a2 f_X9_fillYear_P358 fuel μ (nI st.2.1) (nI n)) := by
  obtain ⟨⟨hO, hL, m3⟩, w1, w2, w3, w4⟩ := id hwm
  have hn := hg.1.1
  have hT := hok.1
  obtain ⟨f, rfl⟩ : ∃ f, fuel = f + 1 := ⟨fuel - 1, by omega⟩
  obtain ⟨a1, ⟨b22, b23, b24, b25, b26⟩, a3, a4, a5, a6⟩ := id h
  have hall : f_X9_areAllRight ad μ (nI y) = some (1, μ) := by
    have t := m_allRight (ad := ad) hwm hP hg a1 b22 a3 a5 a6 n g_fuel 0 (by unfold g_fuel; omega) (by omega)
    rw [nI_0] at t
    unfold f_X9_areAllRight
    exact t
  have ham : f_X9_isAmong ad μ = some (if hitF w wh go n st.2.2.2.2 then 1 else 0) := by
    have t := m_isAmong (ad := ad) hO (fun o ho => (w4 o ho).1) hg a1 b22 b24 b25 a3 n g_fuel 0 (by unfold g_fuel; omega) (by omega) rfl
    rw [nI_0] at t
    unfold f_X9_isAmong
    exact t
  have hfin : ∀ (d : Int32) (e : Nat), nI st.2.2.1 + d = nI (st.2.2.1 + e) → (g_let (g_up μ 9 0 26 (nI st.2.2.1 + d)) fun σ42 => (if (nI n + (-1 : Int32)) < 0 then (f_X9_fillYear_L109 ad (nI y) 1 f_X9_fillYear_P358 f σ42 (nI st.2.1 + (1 : Int32)) (nI n + (-1 : Int32))) else ((f_X9_takeBack ad σ42 (nI n + (-1 : Int32)) (nI y)).bind fun σ43 => (f_X9_fillYear_L109 ad (nI y) 1 f_X9_fillYear_P358 f σ43 (nI st.2.1 + (1 : Int32)) (nI n + (-1 : Int32)))))) = bkM ad y 1 n f (nI (st.2.1 + 1)) (g_up μ 9 0 26 (nI (st.2.2.1 + e))) := by
    intro d e he
    rw [he, nI_1]
    unfold bkM
    exact bk_let _ _ (fun s => f_X9_fillYear_L109 ad (nI y) 1 f_X9_fillYear_P358 f s (nI (st.2.1 + 1)) (nI n + (-1 : Int32))) (fun s => (f_X9_takeBack ad s (nI n + (-1 : Int32)) (nI y)).bind fun s' => f_X9_fillYear_L109 ad (nI y) 1 f_X9_fillYear_P358 f s' (nI (st.2.1 + 1)) (nI n + (-1 : Int32)))
  unfold f_X9_fillYear_L109
  rw [if_neg (nI_pos (by omega)), b22, if_pos rfl, hall, Option.bind_some, i10]
  cases one
  · have ha2 : a2 = 1 := ha2
    subst ha2
    left
    refine ⟨rfl, f, g_up μ 9 0 26 (nI (st.2.2.1 + if hitF w wh go n st.2.2.2.2 = true then 1 else 0)), ?_, ⟨PW_scr rfl (by decide) a1, ⟨b22, b23, b24, b25, rfl⟩, a3, a4, a5, a6⟩, ?_⟩
    · show f + 1 + 2 * st.1 ≤ f + 2 * st.1 + 1
      omega
    · rw [i10, ham, Option.bind_some]
      dsimp only
      rw [b26]
      show _ = bkM ad y 1 n f (nI (st.2.1 + 1)) (g_up μ 9 0 26 (nI (st.2.2.1 + if hitF w wh go n st.2.2.2.2 = true then 1 else 0)))
      by_cases hh : hitF w wh go n st.2.2.2.2 = true
      · rw [if_pos hh, if_pos hh, i10]
        exact hfin 1 1 (nI_1 _)
      · rw [if_neg hh, if_neg hh, i00]
        exact hfin 0 0 (Int32.add_zero _)
  · have ha2 : a2 = 0 := ha2
    subst ha2
    right; right
    exact ⟨rfl, μ, i00, a1, b22, a5, a6⟩
theorem m_plL {one : Bool} {a2 : Int32} {k : Nat} {rc : qS → qS} (hwm : wM nO nL S ρ) (hP : nP ≤ 24) (h92 : ρ 9 0 2 = nI nP) (hg : gpP nO n y S go gs ρ) (hk : k < n)
    (hrc : ∀ st, okS one st → st.2.2.2.1 = 0 → stK one (k + 1) 1 st (rc st))
    (hrec : ∀ (fuel : Nat) (st : qS) (μ : gS), okS one st → st.2.2.2.1 = 0 → RM ρ S nL nP n y go gs w wh (k + 1) st μ → 40001 ≤ fuel + 2 * st.1 → (k + 1 < n → μ 68 0 (k + 1) + 1 = nI (q_start go (k + 1) st.2.2.2.2)) → OM ad ρ S nL nP n y go gs w wh a2 (k + 1) fuel st.1 (rc st) (f_X9_fillYear_L109 ad (nI y) a2 f_X9_fillYear_P358 fuel μ (nI st.2.1) (nI (k + 1)))) :
    ∀ (m fuel p : Nat) (st : qS) (μ : gS), p + m = nP → okS one st → st.2.2.2.1 = 0 → RM ρ S nL nP n y go gs w wh k st μ → μ 68 0 k + 1 = nI p → 40001 ≤ fuel + 2 * st.1 → OM ad ρ S nL nP n y go gs w wh a2 k fuel st.1 (plL (fitR ρ S nL y go) rc k m p st) (f_X9_fillYear_L109 ad (nI y) a2 f_X9_fillYear_P358 fuel μ (nI st.2.1) (nI k)) := by
  obtain ⟨⟨hO, hL, m3⟩, w1, w2, w3, w4⟩ := id hwm
  have hn := hg.1.1
  have hy := hg.1.2
  have hS3 : ∀ o, o < nO → S o ≤ 3 := fun o ho => (w4 o ho).1
  have g1 := hg.2.1 k hk
  have hSk := hS3 _ g1.1
  have pk := (z_ix (n := 24) (show k < 2147483648 by omega)).mpr (by omega)
  have hix := ix_lt (o := go k) (y := y) (s := gs k) (by omega) hy (by omega)
  intro m
  induction m with
  | zero =>
    intro fuel p st μ hpm hok hX h h68 hfu
    have hT := hok.1
    obtain ⟨f, rfl⟩ : ∃ f, fuel = f + 1 := ⟨fuel - 1, by omega⟩
    obtain ⟨a1, ⟨b22, b23, b24, b25, b26⟩, a3, a4, a5, a6⟩ := id h
    have e92 : μ 9 0 2 = nI nP := (a1.1 9 0 2 rfl (by decide) (by decide)).trans h92
    left
    refine ⟨hX, f, g_up μ 68 0 k (nI p), ?_, ⟨PW_scr rfl (by decide) a1, ⟨b22, b23, b24, b25, b26⟩, a3, fun j hj => ?_, a5, a6⟩, ?_⟩
    · show f + 1 + 2 * st.1 ≤ f + 2 * st.1 + 1
      omega
    · rw [up_j (by omega)]
      exact a4 j hj
    · unfold f_X9_fillYear_L109 bkM
      rw [if_neg (nI_pos (by omega)), b22, if_neg (fun e => by have := (z_eq (by omega) (by omega)).mp e; omega)]
      simp only [if_pos pk, z_clamp (show k < 2147483648 by omega), g_let, h68, up_s]
      rw [show g_up μ 68 0 k (nI p) 9 0 2 = nI nP from e92, if_neg (nI_nlt (by omega) (by omega))]
      rfl
  | succ m ih =>
    intro fuel p st μ hpm hok hX h h68 hfu
    have hT := hok.1
    obtain ⟨f, rfl⟩ : ∃ f, fuel = f + 1 := ⟨fuel - 1, by omega⟩
    obtain ⟨a1, ⟨b22, b23, b24, b25, b26⟩, a3, a4, a5, a6⟩ := id h
    have e92 : μ 9 0 2 = nI nP := (a1.1 9 0 2 rfl (by decide) (by decide)).trans h92
    unfold f_X9_fillYear_L109
    rw [if_neg (nI_pos (by omega)), b22, if_neg (fun e => by have := (z_eq (by omega) (by omega)).mp e; omega)]
    simp only [if_pos pk, z_clamp (show k < 2147483648 by omega), g_let, h68, up_s]
    rw [show g_up μ 68 0 k (nI p) 9 0 2 = nI nP from e92, if_pos (nI_lt (by omega) (by omega)), show g_up μ 68 0 k (nI p) 9 0 23 = nI st.1 from b23]
    have hpw1 : PW go gs y 0 k st.2.2.2.2 ρ (g_up μ 68 0 k (nI p)) := PW_scr rfl (by decide) a1
    unfold plL
    rw [if_pos hX]
    by_cases hT2 : st.1 < 20000
    · rw [if_pos hT2, z_20000, if_neg (show ¬ nI st.1 = nI 20000 from fun e => by have := (z_eq (by omega) (by omega)).mp e; omega), nI_1]
      have h2 : RM ρ S nL nP n y go gs w wh k (q_try st) (g_up (g_up μ 68 0 k (nI p)) 9 0 23 (nI (st.1 + 1))) := ⟨PW_scr rfl (by decide) hpw1, ⟨b22, rfl, b24, b25, b26⟩, a3, fun j hj => (show g_up μ 68 0 k (nI p) 68 0 j = nI (st.2.2.2.2 j) from (up_j (by omega)).trans (a4 j hj)), a5, a6⟩
      have h268 : g_up (g_up μ 68 0 k (nI p)) 9 0 23 (nI (st.1 + 1)) 68 0 k = nI p := by
        show g_up μ 68 0 k (nI p) 68 0 k = nI p
        exact up_s
      revert h2 h268
      generalize g_up (g_up μ 68 0 k (nI p)) 9 0 23 (nI (st.1 + 1)) = ν
      intro h2 h268
      obtain ⟨q1, ⟨c22, c23, c24, c25, c26⟩, q3, q4, q5, q6⟩ := id h2
      have hc24 : ∀ t, t < k → st.2.2.2.2 t < 24 := fun t ht => by have := q5 t ht; exact Nat.lt_of_lt_of_le this hP
      have hwν := wM_puts hwm hg (by omega) q1 hc24
      rw [q3 k hk, m_offAt (by omega) hy (by omega), Option.bind_some, m_could hwν (by omega) g1.1 hy, Option.bind_some]
      have hfit := fit_puts (p := p) hO hL hS3 hg w3 hk q1 hc24 (by omega)
      have hcs : couldS ν S nL p (go k) y = 0 ↔ ¬ fitR ρ S nL y go k st.2.2.2.2 p = true := by
        unfold fitR
        rw [show (q_try st).2.2.2.2 = st.2.2.2.2 from rfl] at hfit
        rw [← hfit]
        unfold couldS
        by_cases q : barS ν S nL p (go k) y true = -2
        · rw [if_pos q]
          cases exB (dbB ν p (go k) y) nL <;> simp [q]
        · rw [if_neg q]
          simp [q]
      by_cases hF : fitR ρ S nL y go k st.2.2.2.2 p = true
      · rw [if_pos hF, if_neg (show ¬ couldS ν S nL p (go k) y = 0 from fun e => hcs.mp e hF), m_put (by omega) (by omega) hy (by omega), Option.bind_some, nI_1]
        have hdis : ∀ t, t < k → c_up st.2.2.2.2 k p t ≠ c_up st.2.2.2.2 k p k := by
          intro t ht
          rw [c_up_ne (by omega), c_up_s]
          exact fitB_ne hF t ht
        have hpw3 : PW go gs y 0 (k + 1) (c_up st.2.2.2.2 k p) ρ (mput ν p (go k) y (gs k)) := by
          have := PW_put hS3 hg hk (PW_congr (c' := c_up st.2.2.2.2 k p) q1 (fun t _ ht => c_up_ne (by omega))) hdis
          rwa [c_up_s] at this
        have hcc : ∀ j, j < k + 1 → c_up st.2.2.2.2 k p j < nP := by
          intro j hj
          by_cases e : j = k
          · rw [e, c_up_s]; omega
          · rw [c_up_ne e]; exact q5 j (by omega)
        have hff : ∀ j, j < k + 1 → fitR ρ S nL y go j (c_up st.2.2.2.2 k p) (c_up st.2.2.2.2 k p j) = true := by
          intro j hj
          have hl : fitR ρ S nL y go j (c_up st.2.2.2.2 k p) (c_up st.2.2.2.2 k p j) = fitR ρ S nL y go j st.2.2.2.2 (c_up st.2.2.2.2 k p j) := fitB_loc fun i hi => c_up_ne (by omega)
          rw [hl]
          by_cases e : j = k
          · rw [e, c_up_s]; exact hF
          · rw [c_up_ne e]; exact q6 j (by omega)
        have h3 : RM ρ S nL nP n y go gs w wh (k + 1) (q_take st k p) (mput ν p (go k) y (gs k)) := by
          refine ⟨hpw3, ⟨c22, c23, c24, c25, c26⟩, q3, fun j hj => ?_, hcc, hff⟩
          show ν 68 0 j = nI (c_up st.2.2.2.2 k p j)
          by_cases e : j = k
          · rw [e, c_up_s]; exact h268
          · rw [c_up_ne e]; exact q4 j (by omega)
        have hok3 : okS one (q_take st k p) := okS_take hok hT2
        obtain ⟨r1, r2, r3, r4⟩ := hrc (q_take st k p) hok3 hX
        have hck : (rc (q_take st k p)).2.2.2.2 k = p := (r2 k (by omega)).trans c_up_s
        -- the level below
        have hOM : OM ad ρ S nL nP n y go gs w wh a2 (k + 1) f (st.1 + 1) (rc (q_take st k p)) (if mput ν p (go k) y (gs k) 9 0 22 ≤ nI (k + 1) then f_X9_fillYear_L109 ad (nI y) a2 f_X9_fillYear_P358 f (mput ν p (go k) y (gs k)) (nI st.2.1) (nI (k + 1)) else if g_ix (nI (k + 1)) 24 then (f_X9_officeAt ad (mput ν p (go k) y (gs k)) (mput ν p (go k) y (gs k) 67 0 (nI (k + 1)).toNatClampNeg)).bind fun q33 => (if q33 = nI (go k) then (if g_ix (nI (k + 1)) 24 then f_X9_fillYear_L109 ad (nI y) a2 f_X9_fillYear_P358 f (g_up (mput ν p (go k) y (gs k)) 68 0 (nI (k + 1)).toNatClampNeg (nI p)) (nI st.2.1) (nI (k + 1)) else none) else (if g_ix (nI (k + 1)) 24 then f_X9_fillYear_L109 ad (nI y) a2 f_X9_fillYear_P358 f (g_up (mput ν p (go k) y (gs k)) 68 0 (nI (k + 1)).toNatClampNeg (-1)) (nI st.2.1) (nI (k + 1)) else none)) else none) := by
          rw [show mput ν p (go k) y (gs k) 9 0 22 = nI n from c22]
          by_cases ek : k + 1 < n
          · have pk1 := (z_ix (n := 24) (show k + 1 < 2147483648 by omega)).mpr (by omega)
            have g2 := hg.2.1 (k + 1) ek
            have hS2 := hS3 _ g2.1
            rw [if_neg (nI_ge ek (by omega))]
            simp only [if_pos pk1, z_clamp (show k + 1 < 2147483648 by omega)]
            rw [show mput ν p (go k) y (gs k) 67 0 (k + 1) = nI (ixl (go (k + 1)) y (gs (k + 1))) from q3 (k + 1) ek, m_offAt (by omega) hy (by omega), Option.bind_some]
            by_cases eg : go (k + 1) = go k
            · rw [if_pos (show nI (go (k + 1)) = nI (go k) by rw [eg])]
              refine hrec f (q_take st k p) _ hok3 hX ⟨PW_scr rfl (by decide) hpw3, ⟨c22, c23, c24, c25, c26⟩, q3, fun j hj => (up_j (by omega)).trans (h3.2.2.2.1 j hj), hcc, hff⟩ (show 40001 ≤ f + 2 * (st.1 + 1) by omega) (fun _ => ?_)
              rw [up_s, nI_1]
              show nI (p + 1) = nI (q_start go (k + 1) (c_up st.2.2.2.2 k p))
              rw [show q_start go (k + 1) (c_up st.2.2.2.2 k p) = c_up st.2.2.2.2 k p k + 1 from if_pos ⟨by omega, eg.symm⟩, c_up_s]
            · rw [if_neg (show ¬ nI (go (k + 1)) = nI (go k) from fun e => eg ((z_eq (by omega) (by omega)).mp e))]
              refine hrec f (q_take st k p) _ hok3 hX ⟨PW_scr rfl (by decide) hpw3, ⟨c22, c23, c24, c25, c26⟩, q3, fun j hj => (up_j (by omega)).trans (h3.2.2.2.1 j hj), hcc, hff⟩ (show 40001 ≤ f + 2 * (st.1 + 1) by omega) (fun _ => ?_)
              rw [up_s]
              show (-1 : Int32) + 1 = nI (q_start go (k + 1) (c_up st.2.2.2.2 k p))
              rw [show q_start go (k + 1) (c_up st.2.2.2.2 k p) = 0 from if_neg (fun h => eg h.2.symm)]
              rfl
          · rw [if_pos (nI_le (by omega) (by omega))]
            exact hrec f (q_take st k p) _ hok3 hX h3 (show 40001 ≤ f + 2 * (st.1 + 1) by omega) (fun h => absurd h ek)
        rcases hOM with ⟨o1, fu, μ', o2, o3, o4⟩ | ⟨o1, μ', o2, o3⟩ | ⟨o1, μ', o2, o3⟩
        · -- came back
          obtain ⟨t1, t2, t3⟩ := RM_take (ad := ad) hO hP hL hS3 w1 hg hk o3
          rw [hck] at t3
          have hnx := ih fu (p + 1) (rc (q_take st k p)) _ (by omega) r1 o1 t2 (by rw [hck, t3, nI_1]) (by omega)
          have hr : bkM ad y a2 (k + 1) fu (nI (rc (q_take st k p)).2.1) μ' = f_X9_fillYear_L109 ad (nI y) a2 f_X9_fillYear_P358 fu (mout μ' ((rc (q_take st k p)).2.2.2.2 k) (go k) y (gs k)) (nI (rc (q_take st k p)).2.1) (nI k) := by
            unfold bkM
            rw [pk_m1, if_neg (nI_pos (by omega)), t1, Option.bind_some]
          have o5 := o4.trans hr
          rcases hnx with ⟨u1, fu', μ'', u2, u3, u4⟩ | ⟨u1, μ'', u2, u3⟩ | ⟨u1, μ'', u2, u3⟩
          · exact Or.inl ⟨u1, fu', μ'', by omega, u3, o5.trans u4⟩
          · exact Or.inr (Or.inl ⟨u1, μ'', o5.trans u2, u3⟩)
          · exact Or.inr (Or.inr ⟨u1, μ'', o5.trans u2, u3⟩)
        · rw [plL_stop (by omega)]
          exact Or.inr (Or.inl ⟨o1, μ', o2, o3⟩)
        · rw [plL_stop (by omega)]
          exact Or.inr (Or.inr ⟨o1, μ', o2, o3⟩)
      · rw [if_neg hF, if_pos (hcs.mpr hF)]
        have hnx := ih f (p + 1) (q_try st) ν (by omega) (okS_try hok hT2) hX h2 (by rw [h268, nI_1]) (show 40001 ≤ f + 2 * (st.1 + 1) by omega)
        rcases hnx with ⟨u1, fu', μ'', u2, u3, u4⟩ | ⟨u1, μ'', u2, u3⟩ | ⟨u1, μ'', u2, u3⟩
        · have u2 : f + 2 * (st.1 + 1) ≤ _ := u2
          exact Or.inl ⟨u1, fu', μ'', by omega, u3, u4⟩
        · exact Or.inr (Or.inl ⟨u1, μ'', u2, u3⟩)
        · exact Or.inr (Or.inr ⟨u1, μ'', u2, u3⟩)
    · have hTe : st.1 = 20000 := by omega
      rw [if_neg hT2, hTe, z_20000, if_pos (show nI 20000 = nI 20000 from rfl)]
      obtain ⟨μ', u1, u2⟩ := m_allBack (ad := ad) (c := st.2.2.2.2) (k := k) hO hP hL hS3 w1 hg (by omega) a5 a6 k g_fuel 0 (g_up μ 68 0 k (nI p)) (by unfold g_fuel; omega) (by omega) hpw1 a3
      rw [nI_0] at u1
      exact Or.inr (Or.inl ⟨rfl, μ', u1, u2⟩)
theorem m_place {one : Bool} {a2 : Int32} (hwm : wM nO nL S ρ) (hP : nP ≤ 24) (h92 : ρ 9 0 2 = nI nP) (hg : gpP nO n y S go gs ρ) (ha2 : a2 = if one then 0 else 1) :
    ∀ (d k fuel : Nat) (st : qS) (μ : gS), k + d = n → okS one st → st.2.2.2.1 = 0 → RM ρ S nL nP n y go gs w wh k st μ → 40001 ≤ fuel + 2 * st.1 → (k < n → μ 68 0 k + 1 = nI (q_start go k st.2.2.2.2)) → OM ad ρ S nL nP n y go gs w wh a2 k fuel st.1 (pl (fitR ρ S nL y go) go one (hitF w wh go n) nP d k st) (f_X9_fillYear_L109 ad (nI y) a2 f_X9_fillYear_P358 fuel μ (nI st.2.1) (nI k)) := by
  intro d
  induction d with
  | zero =>
    intro k fuel st μ hkd hok hX h hfu _
    have : k = n := by omega
    subst this
    exact m_leaf hwm hP hg ha2 h hfu hok
  | succ d ih =>
    intro k fuel st μ hkd hok hX h hfu h68
    have hk : k < n := by omega
    have hle : q_start go k st.2.2.2.2 ≤ nP := by
      unfold q_start
      by_cases c : 0 < k ∧ go (k - 1) = go k
      · rw [if_pos c]
        exact h.2.2.2.2.1 (k - 1) (by omega)
      · rw [if_neg c]; omega
    exact m_plL hwm hP h92 hg hk (fun st h1 h2 => pl_ok d (k + 1) st h1 h2) (fun fuel st μ hok hX h hfu h68 => ih (k + 1) fuel st μ (by omega) hok hX h hfu h68) (nP - q_start go k st.2.2.2.2) fuel (q_start go k st.2.2.2.2) st μ (by omega) hok hX h (h68 hk) hfu
end
