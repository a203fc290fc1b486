/-! PURE: the reference makes ready; fillings, fill, among -/
def flk (σ ρ : gS) : Prop := ∀ K i j, g_scr K j = false → K ≠ 23 → K ≠ 24 → K ≠ 6 → ρ K i j = σ K i j
theorem flk_eqv {σ ρ : gS} (h : eqv σ ρ) : flk σ ρ := fun K i j q _ _ _ => h K i j q
def WM (y : Nat) (G : List (Nat × Nat)) (μ : gS) : Prop := μ 9 0 22 = nI G.length ∧ ∀ j, j < G.length → μ 67 0 j = nI (ixl (glA G j).1 y (glA G j).2)
def WMs (w wh : Int32) (μ : gS) : Prop := μ 9 0 23 = 0 ∧ μ 9 0 24 = w ∧ μ 9 0 25 = wh ∧ μ 9 0 26 = 0
section
variable {nO nP nL y : Nat} {S : Nat → Nat} {L : gL} {ad : gA} {σ ρ : gS} {w wh : Int32}
theorem glS_flk (h : flk σ ρ) (o s : Nat) : glS ρ y o s = glS σ y o s := by
  induction s with
  | zero => rfl
  | succ s ih => simp only [glS, ih, h 58 0 _ rfl (by decide) (by decide) (by decide)]
theorem glO_flk (h : flk σ ρ) (o : Nat) : glO ρ S y o = glO σ S y o := by
  induction o with
  | zero => rfl
  | succ o ih => simp only [glO, ih, glS_flk h]
theorem fit_flk (h : flk σ ρ) (go : Nat → Nat) : fitR ρ S nL y go = fitR σ S nL y go := by
  have hK : ∀ K, 44 ≤ K → K ≤ 60 → ∀ j, ρ K 0 j = σ K 0 j := by
    intro K h1 h2 j
    refine h K 0 j ?_ (by omega) (by omega) (by omega)
    unfold g_scr
    rcases (show K = 44 ∨ K = 45 ∨ K = 46 ∨ K = 47 ∨ K = 48 ∨ K = 49 ∨ K = 50 ∨ K = 51 ∨ K = 52 ∨ K = 53 ∨ K = 54 ∨ K = 55 ∨ K = 56 ∨ K = 57 ∨ K = 58 ∨ K = 59 ∨ K = 60 by omega) with e | e | e | e | e | e | e | e | e | e | e | e | e | e | e | e | e <;> subst e <;> rfl
  have e1 : ∀ l o, inB ρ l o y = inB σ l o y := by
    intro l o
    simp only [inB, hK 45 (by omega) (by omega), hK 54 (by omega) (by omega), hK 56 (by omega) (by omega), hK 57 (by omega) (by omega)]
  have e2 : kB ρ = kB σ := by
    funext p q
    simp only [kB, hK 49 (by omega) (by omega)]
  have e3 : ∀ p, hB ρ p = hB σ p := by
    intro p
    funext a y
    simp only [hB, hK 60 (by omega) (by omega), hK 59 (by omega) (by omega)]
  have e4 : ∀ l p o, brB ρ S l p o y = brB σ S l p o y := by
    intro l p o
    simp only [brB, hwB, hkB, hK 53 (by omega) (by omega), hK 55 (by omega) (by omega), hK 47 (by omega) (by omega), hK 46 (by omega) (by omega), hK 58 (by omega) (by omega), hK 59 (by omega) (by omega), e2, e3]
  have e5 : ∀ p o, barS ρ S nL p o y true = barS σ S nL p o y true := by
    intro p o
    simp only [barS, hK 50 (by omega) (by omega), hK 47 (by omega) (by omega), hK 51 (by omega) (by omega), hK 52 (by omega) (by omega), hK 60 (by omega) (by omega), e1, e4]
  have e6 : kbB ρ nL y = kbB σ nL y := by
    funext o
    simp only [kbB, hK 53 (by omega) (by omega), e1]
  unfold fitR
  rw [e2, e6]
  simp only [e5]
theorem gp_flk (h : flk σ ρ) {n : Nat} {go gs : Nat → Nat} (hg : gpP nO n y S go gs σ) : gpP nO n y S go gs ρ := by
  refine ⟨hg.1, fun t ht => ?_, hg.2.2⟩
  rw [h 58 0 _ rfl (by decide) (by decide) (by decide), h 59 0 _ rfl (by decide) (by decide) (by decide)]
  exact hg.2.1 t ht
theorem wM_flk (h : flk σ ρ) (hw : wM nO nL S σ) : wM nO nL S ρ := by
  obtain ⟨⟨hO, hL, m3⟩, w1, w2, w3, w4⟩ := hw
  refine ⟨⟨hO, hL, (h 9 0 3 rfl (by decide) (by decide) (by decide)).trans m3⟩, ?_, ?_, ?_, ?_⟩
  · intro p y' hp hy'
    rw [h 60 0 _ rfl (by decide) (by decide) (by decide)]
    exact w1 p y' hp hy'
  · intro o y' s ho hy' hs
    rw [h 58 0 _ rfl (by decide) (by decide) (by decide)]
    exact w2 o y' s ho hy' hs
  · intro l hl
    rw [h 53 0 l rfl (by decide) (by decide) (by decide), h 54 0 l rfl (by decide) (by decide) (by decide), h 55 0 l rfl (by decide) (by decide) (by decide), h 56 0 l rfl (by decide) (by decide) (by decide)]
    exact w3 l hl
  · intro o ho
    rw [h 44 0 o rfl (by decide) (by decide) (by decide)]
    exact w4 o ho
theorem WM_add {G : List (Nat × Nat)} {μ : gS} {o s : Nat} (h : WM y G μ) : WM y (G ++ [(o, s)]) (g_up (g_up μ 67 0 G.length (nI (ixl o y s))) 9 0 22 (nI (G.length + 1))) := by
  obtain ⟨a, b⟩ := h
  refine ⟨?_, fun j hj => ?_⟩
  · rw [List.length_append]; rfl
  · show g_up μ 67 0 G.length (nI (ixl o y s)) 67 0 j = _
    by_cases e : j = G.length
    · rw [e, up_s, glA_end]
    · have hl : j < G.length := by
        rw [List.length_append] at hj
        have : j < G.length + 1 := hj
        omega
      rw [up_j e, glA_lt hl]
      exact b j hl
theorem m_slots (hwm : wM nO nL S ρ) {o : Nat} (ho : o < nO) (hy : y < 200) (K : gS → Int32 → Option (Int32 × gS)) :
    ∀ (m fuel s : Nat) (μ : gS), m < fuel → s + m = S o → eqv ρ μ → WMs w wh μ → WM y (glO ρ S y o ++ glS ρ y o s) μ → ∃ μ', f_X9_fillYear_L28 ad (nI y) K fuel μ (nI o) (nI s) = K μ' (nI o) ∧ eqv ρ μ' ∧ WMs w wh μ' ∧ WM y (glO ρ S y (o + 1)) μ' := by
  obtain ⟨⟨hO, hL, m3⟩, w1, w2, w3, w4⟩ := id hwm
  obtain ⟨hS, e44⟩ := w4 o ho
  have po := (z_ix (n := 8) (show o < 2147483648 by omega)).mpr (by omega)
  intro m
  induction m with
  | zero =>
    intro fuel s μ hf hs hq hws hw
    obtain ⟨f, rfl⟩ : ∃ f, fuel = f + 1 := ⟨fuel - 1, by omega⟩
    have : s = S o := by omega
    subst this
    refine ⟨μ, ?_, hq, hws, hw⟩
    unfold f_X9_fillYear_L28
    rw [if_pos po, z_clamp (by omega), hq 44 0 o rfl, e44, if_pos (nI_le (by omega) (by omega))]
  | succ m ih =>
    intro fuel s μ hf hs hq hws hw
    obtain ⟨f, rfl⟩ : ∃ f, fuel = f + 1 := ⟨fuel - 1, by omega⟩
    have hix := ix_lt (o := o) (y := y) (s := s) (by omega) hy (by omega)
    have pq := (z_ix (n := 4800) (show ixl o y s < 2147483648 by omega)).mpr (by omega)
    have hlen : (glO ρ S y o ++ glS ρ y o s).length < 24 := by
      have l1 := glO_len (σ := ρ) (S := S) (y := y) (nO := nO) (fun o ho => (w4 o ho).1) o (by omega)
      have l2 := glS_len (σ := ρ) (y := y) (o := o) s
      rw [List.length_append]
      omega
    have pl := (z_ix (n := 24) (show (glO ρ S y o ++ glS ρ y o s).length < 2147483648 by omega)).mpr hlen
    unfold f_X9_fillYear_L28
    rw [if_pos po, z_clamp (by omega), hq 44 0 o rfl, e44, if_neg (nI_ge (by omega) (by omega)), m_at, Option.bind_some, if_pos pq, z_clamp (by omega), hq 58 0 _ rfl]
    by_cases c : ρ 58 0 (ixl o y s) < 0
    · have hg : glS ρ y o (s + 1) = glS ρ y o s ++ [(o, s)] := by
        rw [glS, if_pos c]
      rw [if_pos c, Option.bind_some, hw.1, if_pos pl, z_clamp (by omega)]
      simp only [g_let]
      rw [show g_up μ 67 0 (glO ρ S y o ++ glS ρ y o s).length (nI (ixl o y s)) 9 0 22 = nI (glO ρ S y o ++ glS ρ y o s).length from hw.1, nI_1, nI_1]
      have hw' := WM_add (o := o) (s := s) hw
      rw [List.append_assoc, ← hg] at hw'
      exact ih f (s + 1) _ (by omega) (by omega) (eqv_up (eqv_up hq rfl) rfl) hws hw'
    · have hg : glS ρ y o (s + 1) = glS ρ y o s := by
        rw [glS, if_neg c]
      rw [if_neg c, nI_1]
      exact ih f (s + 1) μ (by omega) (by omega) hq hws (by rw [hg]; exact hw)
theorem m_ready (hwm : wM nO nL S ρ) (h91 : ρ 9 0 1 = nI nO) (hy : y < 200) (K : gS → Option (Int32 × gS)) :
    ∀ (m fuel o : Nat) (μ : gS), m < fuel → o + m = nO → eqv ρ μ → WMs w wh μ → WM y (glO ρ S y o) μ → ∃ μ', f_X9_fillYear_L17 ad (nI y) K fuel μ (nI o) = K μ' ∧ eqv ρ μ' ∧ WMs w wh μ' ∧ WM y (glO ρ S y nO) μ' := by
  have hO := hwm.1.1
  intro m
  induction m with
  | zero =>
    intro fuel o μ hf ho hq hws hw
    obtain ⟨f, rfl⟩ : ∃ f, fuel = f + 1 := ⟨fuel - 1, by omega⟩
    have : o = nO := by omega
    subst this
    refine ⟨μ, ?_, hq, hws, hw⟩
    unfold f_X9_fillYear_L17
    rw [hq 9 0 1 rfl, h91, if_pos (nI_le (by omega) (by omega))]
  | succ m ih =>
    intro fuel o μ hf ho hq hws hw
    obtain ⟨f, rfl⟩ : ∃ f, fuel = f + 1 := ⟨fuel - 1, by omega⟩
    have hSo := (hwm.2.2.2.2 o (by omega)).1
    unfold f_X9_fillYear_L17
    rw [hq 9 0 1 rfl, h91, if_neg (nI_ge (by omega) (by omega))]
    obtain ⟨a, a1, a2, a3, a4⟩ := m_slots (ad := ad) (w := w) (wh := wh) hwm (show o < nO by omega) hy (f_X9_fillYear_P91 (f_X9_fillYear_L17 ad (nI y) K f)) (S o) g_fuel 0 μ (by unfold g_fuel; omega) (by omega) hq hws (by rw [glS, List.append_nil]; exact hw)
    rw [show f_X9_fillYear_L28 ad (nI y) (f_X9_fillYear_P91 (f_X9_fillYear_L17 ad (nI y) K f)) g_fuel μ (nI o) 0 = _ from a1]
    unfold f_X9_fillYear_P91
    rw [nI_1]
    exact ih f (o + 1) a (by omega) (by omega) a2 a3 a4
/-- the reference's search, from a state that is like σ but for what the class alone reads -/
theorem m_fillYear (hJ : gJ nO nP nL S L ad σ) (hy : y < 200) (h : flk σ ρ) {one : Bool} {a2 : Int32} (ha2 : a2 = if one then 0 else 1) (st : qS) (hst : st = pl (fitR σ S nL y (gO σ S y nO)) (gO σ S y nO) one (hitF (ρ 9 0 24) (ρ 9 0 25) (gO σ S y nO) (gN σ S y nO)) nP (gN σ S y nO) 0 st0) :
    (st.2.2.2.1 = 0 ∧ ∃ μ, f_X9_fillYear ad ρ (nI y) a2 = some (nI st.2.1, μ) ∧ eqv ρ μ ∧ μ 9 0 26 = nI st.2.2.1) ∨
    (st.2.2.2.1 = 1 ∧ ∃ μ, f_X9_fillYear ad ρ (nI y) a2 = some (-8, μ) ∧ eqv ρ μ) ∨
    (st.2.2.2.1 = 2 ∧ ∃ μ, f_X9_fillYear ad ρ (nI y) a2 = some (1, μ) ∧ RMe ρ S nL nP (gN σ S y nO) y (gO σ S y nO) (gQ σ S y nO) st μ) := by
  obtain ⟨h1, h2, h3, h4, h5, h6, h7, h8, h9, h10, h11, h12, h13, h14, h15⟩ := id hJ
  obtain ⟨⟨hO, hP, hL⟩, ⟨m1, m2, m3⟩, ⟨x1, x2, x3⟩⟩ := id h1
  have hwm := wM_flk h (wM_of hJ)
  have h91 : ρ 9 0 1 = nI nO := (h 9 0 1 rfl (by decide) (by decide) (by decide)).trans m1
  have h92 : ρ 9 0 2 = nI nP := (h 9 0 2 rfl (by decide) (by decide) (by decide)).trans m2
  have hg := gp_flk h (gp_of hJ hy)
  obtain ⟨a, a1, a2', a3, a4⟩ := m_ready (ad := ad) (w := ρ 9 0 24) (wh := ρ 9 0 25) hwm h91 hy (f_X9_fillYear_P97 ad (nI y) a2) nO g_fuel 0 (g_up (g_up (g_up ρ 9 0 22 0) 9 0 23 0) 9 0 26 0) (by unfold g_fuel; omega) (by omega) (eqv_up (eqv_up (eqv_up (eqv_rfl ρ) rfl) rfl) rfl) ⟨rfl, rfl, rfl, rfl⟩ ⟨rfl, fun j hj => absurd hj (by show ¬ j < 0; omega)⟩
  have hfy : f_X9_fillYear ad ρ (nI y) a2 = f_X9_fillYear_L109 ad (nI y) a2 f_X9_fillYear_P358 g_fuel (g_up a 68 0 0 (-1)) (nI 0) (nI 0) := by
    have t := a1
    rw [nI_0] at t
    unfold f_X9_fillYear
    rw [g_let_eq, g_let_eq, g_let_eq, t]
    unfold f_X9_fillYear_P97
    rw [g_let_eq, nI_0, show (0 : Int32).toNatClampNeg = 0 from rfl]
  rw [glO_flk h] at a4
  have hRM : RM ρ S nL nP (gN σ S y nO) y (gO σ S y nO) (gQ σ S y nO) (ρ 9 0 24) (ρ 9 0 25) 0 st0 (g_up a 68 0 0 (-1)) := ⟨PW_scr rfl (by decide) (PW_nil a2'), ⟨a4.1, a3⟩, a4.2, fun j hj => absurd hj (by omega), fun j hj => absurd hj (by omega), fun j hj => absurd hj (by omega)⟩
  have hOM := m_place (ad := ad) (one := one) (a2 := a2) hwm hP h92 hg ha2 (gN σ S y nO) 0 g_fuel st0 (g_up a 68 0 0 (-1)) (by omega) (st0_ok one) rfl hRM (by show 40001 ≤ g_fuel + 2 * 0; unfold g_fuel; omega) (fun _ => by rw [up_s, show q_start (gO σ S y nO) 0 st0.2.2.2.2 = 0 from if_neg (fun h => absurd h.1 (by omega))]; decide)
  rw [fit_flk h, ← hst] at hOM
  have hok : stK one 0 1 st0 st := by
    rw [hst]
    exact pl_ok _ _ _ (st0_ok one) rfl
  rw [show st0.2.1 = 0 from rfl, ← hfy] at hOM
  rcases hOM with ⟨o1, fu, μ', o2, o3, o4⟩ | ⟨o1, μ', o2, o3⟩ | ⟨o1, μ', o2, o3⟩
  · refine Or.inl ⟨o1, μ', ?_, PW_eqv o3.1, o3.2.1.2.2.2.2⟩
    have hT := hok.1.1
    have o2 : g_fuel + 2 * 0 ≤ fu + 2 * st.1 + 1 := o2
    obtain ⟨f, rfl⟩ : ∃ f, fu = f + 1 := ⟨fu - 1, by unfold g_fuel at o2; omega⟩
    rw [o4]
    unfold bkM
    rw [if_pos (show nI 0 + (-1 : Int32) < 0 by decide)]
    unfold f_X9_fillYear_L109
    rw [if_pos (show nI 0 + (-1 : Int32) < 0 by decide)]
    rfl
  · exact Or.inr (Or.inl ⟨o1, μ', o2, o3⟩)
  · exact Or.inr (Or.inr ⟨o1, μ', o2, o3⟩)
end
theorem z_eqm8 {a : Nat} (ha : a < 2147483648) : (nI a = (-8 : Int32)) = False := by
  apply eq_false
  intro h
  have h1 := nI_pos ha
  rw [h] at h1
  exact h1 (by decide)
theorem ok_fillings : sim_fillings gI := by
  intro L ad σ ⟨nO, nP, nL, S, hJ⟩ a1
  obtain ⟨h1, h2, h3, h4, h5, h6, h7, h8, h9, h10, h11, h12, h13, h14, h15⟩ := id hJ
  obtain ⟨⟨hO, hP, hL⟩, ⟨m1, m2, m3⟩, ⟨x1, x2, x3⟩⟩ := id h1
  rcases z_cases a1 (n := 200) (by omega) with hy | ⟨y, hy, rfl⟩
  · refine ⟨-1, σ, σ, ?_, ?_, nO, nP, nL, S, hJ⟩
    · unfold f_X8_fillings; rw [x_year0 hy]; rfl
    · unfold f_X9_fillings; rw [m_year0 hy]; rfl
  obtain ⟨x0, t1, -, -⟩ := x_search (ask := false) (ap := -1) (ao := -1) (one := false) (hit := fun _ => false) hJ hy (Or.inl ⟨rfl, rfl⟩)
  obtain ⟨x, t2, hs, hd⟩ := x_search (ask := false) (ap := -1) (ao := -1) (one := false) (hit := hitF (x0 9 0 24) (x0 9 0 25) (gO σ S y nO) (gN σ S y nO)) hJ hy (Or.inl ⟨rfl, rfl⟩)
  have ex : x0 = x := Option.some.inj (t1.symm.trans t2)
  subst ex
  have hq := hs.1
  have hm := m_fillYear (ρ := x0) (one := false) (a2 := 1) hJ hy (flk_eqv hq) rfl _ rfl
  have hok : stK false 0 1 st0 _ := pl_ok (fit := fitR σ S nL y (gO σ S y nO)) (go := gO σ S y nO) (hit := hitF (x0 9 0 24) (x0 9 0 25) (gO σ S y nO) (gN σ S y nO)) (nP := nP) (gN σ S y nO) 0 st0 (st0_ok false) rfl
  revert hm hd hok
  generalize pl (fitR σ S nL y (gO σ S y nO)) (gO σ S y nO) false (hitF (x0 9 0 24) (x0 9 0 25) (gO σ S y nO) (gN σ S y nO)) nP (gN σ S y nO) 0 st0 = st
  intro hd hm hok
  have hx : f_X8_fillings ad σ (nI y) = some (if st.2.2.2.1 = 1 then -8 else nI st.2.1, x0) := by
    unfold f_X8_fillings
    rw [x_year1 hy, Option.bind_some, i10, show f_X1_search ad σ (nI y) (-1) (-1) 0 = some x0 from t1, Option.bind_some, hd.1.2.2.1, hd.1.1]
    by_cases c : st.2.2.2.1 = 1
    · rw [if_pos c, if_pos c, i10]
    · rw [if_neg c, if_neg c, i00]
  have hr : ∀ v μ, f_X9_fillYear ad x0 (nI y) 1 = some (v, μ) → f_X9_fillings ad x0 (nI y) = some (v, μ) := by
    intro v μ e
    unfold f_X9_fillings
    rw [m_year1 hy, Option.bind_some, i10, e]; rfl
  rcases hm with ⟨c, μ, e1, e2, -⟩ | ⟨c, μ, e1, e2⟩ | ⟨c, -⟩
  · rw [if_neg (by omega)] at hx
    exact ⟨_, x0, μ, hx, hr _ _ e1, nO, nP, nL, S, gJ_eqv (eqv_trans hq e2) hJ⟩
  · rw [if_pos c] at hx
    exact ⟨_, x0, μ, hx, hr _ _ e1, nO, nP, nL, S, gJ_eqv (eqv_trans hq e2) hJ⟩
  · exact absurd (hok.1.2.2.2 c).1 (by decide)
theorem ok_among : sim_among gI := by
  intro L ad σ ⟨nO, nP, nL, S, hJ⟩ a1 a2 a3
  obtain ⟨h1, h2, h3, h4, h5, h6, h7, h8, h9, h10, h11, h12, h13, h14, h15⟩ := id hJ
  obtain ⟨⟨hO, hP, hL⟩, ⟨m1, m2, m3⟩, ⟨x1, x2, x3⟩⟩ := id h1
  rcases z_cases a1 (n := nP) (by omega) with h | ⟨p, h, rfl⟩
  · refine ⟨-1, σ, σ, ?_, ?_, nO, nP, nL, S, hJ⟩
    · unfold f_X8_among; rw [x_per0 x2 h]; rfl
    · unfold f_X9_among; rw [m_per0 (by omega) m2 h]; rfl
  rcases z_cases a2 (n := nO) (by omega) with ho | ⟨o, ho, rfl⟩
  · refine ⟨-1, σ, σ, ?_, ?_, nO, nP, nL, S, hJ⟩
    · unfold f_X8_among; rw [x_per1 (by omega) x2 h, x_off0 x1 ho]; rfl
    · unfold f_X9_among; rw [m_per1 (by omega) m2 h, m_off0 (by omega) m1 ho]; rfl
  rcases z_cases a3 (n := 200) (by omega) with hy | ⟨y, hy, rfl⟩
  · refine ⟨-1, σ, σ, ?_, ?_, nO, nP, nL, S, hJ⟩
    · unfold f_X8_among; rw [x_per1 (by omega) x2 h, x_off1 (by omega) x1 ho, x_year0 hy]; rfl
    · unfold f_X9_among; rw [m_per1 (by omega) m2 h, m_off1 (by omega) m1 ho, m_year0 hy]; rfl
  obtain ⟨x, t1, hs, hd⟩ := x_search (ask := true) (ap := nI p) (ao := nI o) (one := false) (hit := hitF (nI p) (nI o) (gO σ S y nO) (gN σ S y nO)) hJ hy (Or.inr ⟨p, o, h, ho, rfl, rfl, rfl⟩)
  have hq := hs.1
  have hq5 : eqv σ (g_up (g_up x 9 0 24 (nI p)) 9 0 25 (nI o)) := eqv_up (eqv_up hq rfl) rfl
  have hm := m_fillYear (ρ := g_up (g_up x 9 0 24 (nI p)) 9 0 25 (nI o)) (one := false) (a2 := 1) hJ hy (flk_eqv hq5) rfl _ rfl
  rw [show g_up (g_up x 9 0 24 (nI p)) 9 0 25 (nI o) 9 0 24 = nI p from rfl, show g_up (g_up x 9 0 24 (nI p)) 9 0 25 (nI o) 9 0 25 = nI o from rfl] at hm
  have hok : stK false 0 1 st0 _ := pl_ok (fit := fitR σ S nL y (gO σ S y nO)) (go := gO σ S y nO) (hit := hitF (nI p) (nI o) (gO σ S y nO) (gN σ S y nO)) (nP := nP) (gN σ S y nO) 0 st0 (st0_ok false) rfl
  revert hm hd hok
  generalize pl (fitR σ S nL y (gO σ S y nO)) (gO σ S y nO) false (hitF (nI p) (nI o) (gO σ S y nO) (gN σ S y nO)) nP (gN σ S y nO) 0 st0 = st
  intro hd hm hok
  have hx : f_X8_among ad σ (nI p) (nI o) (nI y) = some (if st.2.2.2.1 = 1 then -8 else nI st.2.2.1, x) := by
    unfold f_X8_among
    rw [x_per1 (by omega) x2 h, x_off1 (by omega) x1 ho, x_year1 hy, Option.bind_some, i10, Option.bind_some, i10, Option.bind_some, i10, show f_X1_search ad σ (nI y) (nI p) (nI o) 0 = some x from t1, Option.bind_some, hd.1.2.2.1, hd.1.2.1 rfl]
    by_cases c : st.2.2.2.1 = 1
    · rw [if_pos c, if_pos c, i10]
    · rw [if_neg c, if_neg c, i00]
  have hr : ∀ v μ, f_X9_fillYear ad (g_up (g_up x 9 0 24 (nI p)) 9 0 25 (nI o)) (nI y) 1 = some (v, μ) → f_X9_among ad x (nI p) (nI o) (nI y) = if v = -8 then some (-8, μ) else some (μ 9 0 26, μ) := by
    intro v μ e
    unfold f_X9_among
    rw [m_per1 (by omega) ((hq 9 0 2 rfl).trans m2) h, m_off1 (by omega) ((hq 9 0 1 rfl).trans m1) ho, m_year1 hy, Option.bind_some, i10, Option.bind_some, i10, Option.bind_some, i10]
    simp only [g_let]
    rw [e, Option.bind_some]
  rcases hm with ⟨c, μ, e1, e2, e3⟩ | ⟨c, μ, e1, e2⟩ | ⟨c, -⟩
  · rw [if_neg (by omega)] at hx
    have hF := hok.2.2.2
    have hT := hok.1.1
    have hF : st.2.1 + 0 ≤ 0 + st.1 + 1 := hF
    refine ⟨_, x, μ, hx, ?_, nO, nP, nL, S, gJ_eqv (eqv_trans hq5 e2) hJ⟩
    rw [hr _ _ e1, if_neg (by rw [z_eqm8 (by omega)]; exact id), e3]
  · rw [if_pos c] at hx
    refine ⟨_, x, μ, hx, ?_, nO, nP, nL, S, gJ_eqv (eqv_trans hq5 e2) hJ⟩
    rw [hr _ _ e1, if_pos rfl]
  · exact absurd (hok.1.2.2.2 c).1 (by decide)
/-! fill: the filling is put in -/
def xputs (S go gs : Nat → Nat) (y : Nat) (c : Nat → Nat) : Nat → Nat → gS → gS
  | 0, _, z => z
  | m + 1, k, z => xputs S go gs y c m (k + 1) (xput S z (c k) (go k) y (gs k))
def mputs (go gs : Nat → Nat) (y : Nat) (c : Nat → Nat) : Nat → Nat → gS → gS
  | 0, _, z => z
  | m + 1, k, z => mputs go gs y c m (k + 1) (mput z (c k) (go k) y (gs k))
def bputs (S go gs : Nat → Nat) (y : Nat) (c : Nat → Nat) : Nat → Nat → gS → gS
  | 0, _, z => z
  | m + 1, k, z => bputs S go gs y c m (k + 1) (mput (xput S z (c k) (go k) y (gs k)) (c k) (go k) y (gs k))
section
variable {nO nP nL n y : Nat} {S go gs : Nat → Nat} {L : gL} {ad : gA} {c : Nat → Nat}
theorem xm_comm (z : gS) (p o s p' o' s' : Nat) : xput S (mput z p o y s) p' o' y s' = mput (xput S z p' o' y s') p o y s := by
  funext K i j
  unfold xput mput
  by_cases e1 : K = 6
  · subst e1; rfl
  · by_cases e2 : K = 24
    · subst e2; rfl
    · by_cases e3 : K = 23
      · subst e3; rfl
      · rw [up_K e1, up_K e2, up_K e3]
        by_cases e4 : K = 60
        · subst e4; rfl
        · rw [up_K e4, up_K e4]
          by_cases e5 : K = 58
          · subst e5; rfl
          · rw [up_K e5, up_K e5, up_K e1, up_K e2, up_K e3]
theorem xputs_m : ∀ (m k : Nat) (z : gS) (p o s : Nat), xputs S go gs y c m k (mput z p o y s) = mput (xputs S go gs y c m k z) p o y s := by
  intro m
  induction m with
  | zero => intro k z p o s; rfl
  | succ m ih =>
    intro k z p o s
    unfold xputs
    rw [xm_comm, ih]
theorem bputs_eq : ∀ (m k : Nat) (z : gS), bputs S go gs y c m k z = mputs go gs y c m k (xputs S go gs y c m k z) := by
  intro m
  induction m with
  | zero => intro k z; rfl
  | succ m ih =>
    intro k z
    unfold bputs mputs xputs
    rw [ih, xputs_m]
theorem xputs_K {K : Nat} (h1 : K ≠ 23) (h2 : K ≠ 24) (h3 : K ≠ 6) : ∀ (m k : Nat) (z : gS), xputs S go gs y c m k z K = z K := by
  intro m
  induction m with
  | zero => intro k z; rfl
  | succ m ih =>
    intro k z
    unfold xputs
    rw [ih]
    unfold xput
    rw [up_K h3, up_K h2, up_K h1]
theorem xput_eqv {σ x : gS} (h : eqv σ x) (p o s : Nat) : eqv (xput S σ p o y s) (xput S x p o y s) := by
  have e : x 6 0 6 = σ 6 0 6 := h 6 0 6 rfl
  intro K i j q
  unfold xput g_up
  rw [e]
  split
  · rfl
  · split
    · rfl
    · split
      · rfl
      · exact h K i j q
theorem xputs_eqv : ∀ (m k : Nat) (σ x : gS), eqv σ x → eqv (xputs S go gs y c m k σ) (xputs S go gs y c m k x) := by
  intro m
  induction m with
  | zero => intro k σ x h; exact h
  | succ m ih =>
    intro k σ x h
    unfold xputs
    exact ih _ _ _ (xput_eqv h _ _ _)
theorem mputs_PW {z : gS} (hS : ∀ o, o < nO → S o ≤ 3) (hg : gpP nO n y S go gs z) (hd : ∀ t u, t < n → u < n → t ≠ u → c t ≠ c u) : ∀ (m k : Nat) (w : gS), k + m = n → PW go gs y 0 k c z w → PW go gs y 0 n c z (mputs go gs y c m k w) := by
  intro m
  induction m with
  | zero =>
    intro k w hk h
    have : k = n := by omega
    subst this
    exact h
  | succ m ih =>
    intro k w hk h
    unfold mputs
    exact ih (k + 1) _ (by omega) (PW_put hS hg (by omega) h (fun t ht => hd t k (by omega) (by omega) (by omega)))
theorem PW_uniq {z z' w w' : gS} (h : PW go gs y 0 n c z w) (h' : PW go gs y 0 n c z' w') (hz : eqv z z') : eqv w w' := by
  intro K i j q
  by_cases e : K = 58
  · subst e
    by_cases e : i = 0 ∧ ∃ t, t < n ∧ j = ixl (go t) y (gs t)
    · obtain ⟨rfl, t, ht, rfl⟩ := e
      rw [(h.2.2.2 t (by omega) ht).1, (h'.2.2.2 t (by omega) ht).1]
    · have hh : i = 0 → ∀ t, 0 ≤ t → t < n → j ≠ ixl (go t) y (gs t) := fun hi t _ ht ej => e ⟨hi, t, ht, ej⟩
      rw [h.2.1 i j hh, h'.2.1 i j hh]
      exact hz 58 i j q
  · by_cases e' : K = 60
    · subst e'
      by_cases e : i = 0 ∧ ∃ t, t < n ∧ j = 200 * c t + y
      · obtain ⟨rfl, t, ht, rfl⟩ := e
        rw [(h.2.2.2 t (by omega) ht).2, (h'.2.2.2 t (by omega) ht).2]
      · have hh : i = 0 → ∀ t, 0 ≤ t → t < n → j ≠ 200 * c t + y := fun hi t _ ht ej => e ⟨hi, t, ht, ej⟩
        rw [h.2.2.1 i j hh, h'.2.2.1 i j hh]
        exact hz 60 i j q
    · rw [h.1 K i j q e e', h'.1 K i j q e e']
      exact hz K i j q
theorem J_bputs {σ0 : gS} (hS : ∀ o, o < nO → S o ≤ 3) (hg : gpP nO n y S go gs σ0) (hc : ∀ t, t < n → c t < nP) (hd : ∀ t u, t < n → u < n → t ≠ u → c t ≠ c u) :
    ∀ (m k : Nat) (z : gS), k + m = n → gJ nO nP nL S L ad z → (∀ t, k ≤ t → t < n → z 58 0 (ixl (go t) y (gs t)) = -1 ∧ z 60 0 (200 * c t + y) = -1) → gJ nO nP nL S L ad (bputs S go gs y c m k z) := by
  intro m
  induction m with
  | zero => intro k z _ h _; exact h
  | succ m ih =>
    intro k z hk hJ he
    unfold bputs
    have g1 := hg.2.1 k (by omega)
    refine ih (k + 1) _ (by omega) (J_put hJ (hc k (by omega)) g1.1 hg.1.2 g1.2.1 (he k (by omega) (by omega)).1 (he k (by omega) (by omega)).2) (fun t h1 h2 => ?_)
    have he' := he t (by omega) h2
    have n1 := gp_ne hS hg (t := t) (u := k) h2 (by omega) (by omega)
    have n2 := hd t k h2 (by omega) (by omega)
    refine ⟨?_, ?_⟩
    · show g_up (xput S z (c k) (go k) y (gs k)) 58 0 (ixl (go k) y (gs k)) (nI (c k)) 58 0 (ixl (go t) y (gs t)) = -1
      rw [up_j n1]
      exact he'.1
    · show g_up (xput S z (c k) (go k) y (gs k)) 60 0 (200 * c k + y) (nI (ixl (go k) y (gs k))) 60 0 (200 * c t + y) = -1
      rw [up_j (by omega)]
      exact he'.2
theorem x_putIn (hO : nO ≤ 8) (hP : nP ≤ 24) (hn : n ≤ 24) (hy : y < 200) (hg : ∀ t, t < n → go t < nO ∧ gs t < S (go t)) (hc : ∀ t, t < n → c t < nP) :
    ∀ (m fuel k : Nat) (x : gS), m < fuel → k + m = n → J_ref nO nP nL x → J_off nO S ad x → x 1 0 0 = nI n → (∀ j, j < n → x 17 0 j = nI (go j)) → (∀ j, j < n → x 18 0 j = nI (gs j)) → (∀ j, j < n → x 19 0 j = nI (c j)) → f_X1_putIn_L2 ad (nI y) f_X1_putIn_P39 fuel x (nI k) = some (xputs S go gs y c m k x) := by
  intro m
  induction m with
  | zero =>
    intro fuel k x hf hk h2 h3 e0 e17 e18 e19
    obtain ⟨f, rfl⟩ : ∃ f, fuel = f + 1 := ⟨fuel - 1, by omega⟩
    unfold f_X1_putIn_L2
    rw [e0, if_pos (nI_le (by omega) (by omega))]; rfl
  | succ m ih =>
    intro fuel k x hf hk h2 h3 e0 e17 e18 e19
    obtain ⟨f, rfl⟩ : ∃ f, fuel = f + 1 := ⟨fuel - 1, by omega⟩
    have pk := (z_ix (n := 24) (show k < 2147483648 by omega)).mpr (by omega)
    have g1 := hg k (by omega)
    unfold f_X1_putIn_L2 xputs
    rw [e0, if_neg (nI_ge (by omega) (by omega)), if_pos pk, if_pos pk, if_pos pk, z_clamp (by omega), e17 k (by omega), e18 k (by omega), e19 k (by omega), x_put hO hP h2 h3 (hc k (by omega)) g1.1 hy g1.2, Option.bind_some, nI_1]
    exact ih f (k + 1) (xput S x (c k) (go k) y (gs k)) (by omega) (by omega) (K_ref rfl rfl rfl rfl h2) (K_off rfl rfl rfl h3) e0 e17 e18 e19
end
theorem ok_fill : sim_fill gI := by
  intro L ad σ ⟨nO, nP, nL, S, hJ⟩ a1
  obtain ⟨h1, h2, h3, h4, h5, h6, h7, h8, h9, h10, h11, h12, h13, h14, h15⟩ := id hJ
  obtain ⟨⟨hO, hP, hL⟩, ⟨m1, m2, m3⟩, ⟨x1, x2, x3⟩⟩ := id h1
  rcases z_cases a1 (n := 200) (by omega) with hy | ⟨y, hy, rfl⟩
  · refine ⟨-1, σ, σ, ?_, ?_, nO, nP, nL, S, hJ⟩
    · unfold f_X8_fill; rw [x_year0 hy]; rfl
    · unfold f_X9_fill; rw [m_year0 hy]; rfl
  have hS3 : ∀ o, o < nO → S o ≤ 3 := fun o ho => (h3 o ho).1.2
  have hg := gp_of hJ hy
  have hn := hg.1.1
  -- what the class answers, whatever the reference asks for
  have key : ∀ hit, ∃ x, f_X1_search ad σ (nI y) (-1) (-1) 1 = some x ∧ eqv σ x ∧ ∀ st, st = pl (fitR σ S nL y (gO σ S y nO)) (gO σ S y nO) true hit nP (gN σ S y nO) 0 st0 → RXs σ nO nP (gN σ S y nO) (gO σ S y nO) (gQ σ S y nO) (fun p o => decide (barS σ S nL p o y true = -2)) (kbB σ nL y) true (-1) (-1) x ∧ RXd nO (gN σ S y nO) (gO σ S y nO) false 0 st x ∧ stK true 0 1 st0 st := by
    intro hit
    obtain ⟨x, t, hs, hd⟩ := x_search (ask := false) (ap := -1) (ao := -1) (one := true) (hit := hit) hJ hy (Or.inl ⟨rfl, rfl⟩)
    refine ⟨x, t, hs.1, fun st hst => ?_⟩
    subst hst
    exact ⟨hs, hd, pl_ok _ _ _ (st0_ok true) rfl⟩
  have hyx : ∀ x, f_X1_search ad σ (nI y) (-1) (-1) 1 = some x → f_X8_fill ad σ (nI y) = if x 1 0 3 = 0 then (if x 1 0 1 = 0 then some (-9, x) else (f_X1_putIn ad x (nI y)).bind fun σ9 => some (σ9 1 0 0, σ9)) else some (-8, x) := by
    intro x t
    unfold f_X8_fill
    rw [x_year1 hy, Option.bind_some, i10, t, Option.bind_some]
  have hym : ∀ (ρ μ : gS) (v : Int32), f_X9_fillYear ad ρ (nI y) 0 = some (v, μ) → f_X9_fill ad ρ (nI y) = if v = -8 then some (-8, μ) else if v = 0 then some (-9, μ) else some (μ 9 0 22, μ) := by
    intro ρ μ v e
    unfold f_X9_fill
    rw [m_year1 hy, Option.bind_some, i10, e, Option.bind_some]
  obtain ⟨x, t1, hq, k1⟩ := key (fun _ => false)
  by_cases hfound : x 1 0 3 = 0 ∧ ¬ x 1 0 1 = 0
  · -- a filling is put in
    obtain ⟨hs1, hd1, hok1⟩ := k1 _ rfl
    -- where the class ends
    have hxr : ∀ c, (∀ j, j < gN σ S y nO → x 19 0 j = nI (c j)) → (∀ t, t < gN σ S y nO → c t < nP) → f_X1_putIn ad x (nI y) = some (xputs S (gO σ S y nO) (gQ σ S y nO) y c (gN σ S y nO) 0 x) := fun c e19 hc => x_putIn hO hP hn hy (fun t ht => ⟨(hg.2.1 t ht).1, (hg.2.1 t ht).2.1⟩) hc (gN σ S y nO) g_fuel 0 x (by unfold g_fuel; omega) (by omega) (gJ_eqv hq hJ).2.1 (gJ_eqv hq hJ).2.2.1 hs1.2.1.1 hs1.2.2.1 hs1.2.2.2.1 e19
    have hflk : ∀ c, flk σ (xputs S (gO σ S y nO) (gQ σ S y nO) y c (gN σ S y nO) 0 x) := by
      intro c K i j q n1 n2 n3
      rw [xputs_K n1 n2 n3]
      exact hq K i j q
    have hw9 : ∀ c j, xputs S (gO σ S y nO) (gQ σ S y nO) y c (gN σ S y nO) 0 x 9 0 j = x 9 0 j := fun c j => by rw [xputs_K (by decide) (by decide) (by decide)]
    obtain ⟨x', t2, -, k2⟩ := key (hitF (x 9 0 24) (x 9 0 25) (gO σ S y nO) (gN σ S y nO))
    have ex : x = x' := Option.some.inj (t1.symm.trans t2)
    subst ex
    obtain ⟨hs, hd, hok⟩ := k2 _ rfl
    have hm := fun c => m_fillYear (ρ := xputs S (gO σ S y nO) (gQ σ S y nO) y c (gN σ S y nO) 0 x) (one := true) (a2 := 0) hJ hy (hflk c) rfl _ rfl
    simp only [hw9] at hm
    revert hm hd hok
    generalize pl (fitR σ S nL y (gO σ S y nO)) (gO σ S y nO) true (hitF (x 9 0 24) (x 9 0 25) (gO σ S y nO) (gN σ S y nO)) nP (gN σ S y nO) 0 st0 = st
    intro hd hok hm
    have hX : st.2.2.2.1 = 2 := by
      obtain ⟨o1, o2, o3, o4⟩ := hok.1
      rcases (show st.2.2.2.1 = 0 ∨ st.2.2.2.1 = 1 ∨ st.2.2.2.1 = 2 by omega) with e | e | e
      · have := o3 (by omega) rfl
        rw [hd.1.1, this] at hfound
        exact absurd rfl hfound.2
      · rw [hd.1.2.2.1, if_pos e] at hfound
        exact absurd hfound.1 (by decide)
      · exact e
    have e19 := hd.2.2.2.2 hX
    rcases hm st.2.2.2.2 with ⟨e, -⟩ | ⟨e, -⟩ | ⟨-, μ, e1, e2⟩
    · omega
    · omega
    · obtain ⟨b1, b2, b5, b6⟩ := e2
      have hdis := fit_dist b6
      have hxp := hxr st.2.2.2.2 e19 b5
      have hwl := wM_of hJ
      rw [fit_flk (hflk st.2.2.2.2)] at b6
      refine ⟨nI (gN σ S y nO), xputs S (gO σ S y nO) (gQ σ S y nO) y st.2.2.2.2 (gN σ S y nO) 0 x, μ, ?_, ?_, nO, nP, nL, S, ?_⟩
      · rw [hyx x t1, if_pos hfound.1, if_neg hfound.2, hxp, Option.bind_some, xputs_K (by decide) (by decide) (by decide), hs.2.1.1]
      · rw [hym _ _ _ e1, if_neg (by decide), if_neg (by decide), b2]
      · have hB := J_bputs (nP := nP) (nL := nL) (L := L) (ad := ad) hS3 hg b5 hdis (gN σ S y nO) 0 σ (by omega) hJ (fun t _ ht => ⟨(hg.2.1 t ht).2.2.1, fit_free hL hwl.2.1 hy (Nat.lt_of_lt_of_le (b5 t ht) hP) (b6 t ht)⟩)
        rw [bputs_eq] at hB
        have hz : eqv (xputs S (gO σ S y nO) (gQ σ S y nO) y st.2.2.2.2 (gN σ S y nO) 0 σ) (xputs S (gO σ S y nO) (gQ σ S y nO) y st.2.2.2.2 (gN σ S y nO) 0 x) := xputs_eqv _ _ _ _ hq
        have hgz : gpP nO (gN σ S y nO) y S (gO σ S y nO) (gQ σ S y nO) (xputs S (gO σ S y nO) (gQ σ S y nO) y st.2.2.2.2 (gN σ S y nO) 0 σ) := gp_flk (fun K i j q n1 n2 n3 => by rw [xputs_K n1 n2 n3]) hg
        exact gJ_eqv (PW_uniq (mputs_PW hS3 hgz hdis _ 0 _ (by omega) (PW_nil (eqv_rfl _))) b1 hz) hB
  · -- nothing is put in
    obtain ⟨x', t2, -, k2⟩ := key (hitF (x 9 0 24) (x 9 0 25) (gO σ S y nO) (gN σ S y nO))
    have ex : x = x' := Option.some.inj (t1.symm.trans t2)
    subst ex
    obtain ⟨hs, hd, hok⟩ := k2 _ rfl
    have hm := m_fillYear (ρ := x) (one := true) (a2 := 0) hJ hy (flk_eqv hq) rfl _ rfl
    revert hm hd hok
    generalize pl (fitR σ S nL y (gO σ S y nO)) (gO σ S y nO) true (hitF (x 9 0 24) (x 9 0 25) (gO σ S y nO) (gN σ S y nO)) nP (gN σ S y nO) 0 st0 = st
    intro hd hok hm
    obtain ⟨o1, o2, o3, o4⟩ := hok.1
    rcases hm with ⟨c, μ, e1, e2, -⟩ | ⟨c, μ, e1, e2⟩ | ⟨c, -⟩
    · have hF := o3 (by omega) rfl
      have d3 : x 1 0 3 = 0 := by rw [hd.1.2.2.1, if_neg (by omega)]
      have d1 : x 1 0 1 = 0 := by rw [hd.1.1, hF]; rfl
      rw [hF, nI_0] at e1
      refine ⟨-9, x, μ, ?_, ?_, nO, nP, nL, S, gJ_eqv (eqv_trans hq e2) hJ⟩
      · rw [hyx x t1, if_pos d3, if_pos d1]
      · rw [hym _ _ _ e1, if_neg (by decide), if_pos rfl]
    · have d3 : x 1 0 3 = 1 := by rw [hd.1.2.2.1, if_pos c]
      refine ⟨-8, x, μ, ?_, ?_, nO, nP, nL, S, gJ_eqv (eqv_trans hq e2) hJ⟩
      · rw [hyx x t1, d3, i10]
      · rw [hym _ _ _ e1, if_pos rfl]
    · exfalso
      apply hfound
      refine ⟨?_, ?_⟩
      · rw [hd.1.2.2.1, if_neg (by omega)]
      · rw [hd.1.1, (o4 c).2]; decide
