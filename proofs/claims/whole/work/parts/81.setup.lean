/-! PURE: the class makes ready for the search -/
def fr4 (σ τ : gS) : Prop := ∀ K, K ≠ 4 → τ K = σ K
theorem fr4_rfl (σ : gS) : fr4 σ σ := fun _ _ => rfl
theorem fr4_tr {a b c : gS} (h : fr4 a b) (h' : fr4 b c) : fr4 a c := fun K q => (h' K q).trans (h K q)
theorem fr4_of {σ τ : gS} {i j : Nat} {v : Int32} (h : fr4 (g_up σ 4 i j v) τ) : fr4 σ τ := fun K q => (h K q).trans (up_K q)
theorem fr4_up {σ : gS} {i j : Nat} {v : Int32} : fr4 σ (g_up σ 4 i j v) := fun K q => up_K q
theorem fr4_eqv {σ τ : gS} (h : fr4 σ τ) : eqv σ τ := by
  intro K i j q
  by_cases e : K = 4
  · subst e; cases q
  · rw [h K e]
theorem g_let_eq {α β : Type} (x : β) (k : β → Option α) : g_let x k = k x := rfl
theorem look_fr1 {ad : gA} {a1 a2 : Nat} {a4 : Int32} {σ τ : gS} (h : f_X4_look_P91 ad a1 a2 a4 σ = some τ) : fr4 σ τ := by
  unfold f_X4_look_P91 at h
  simp only [g_let] at h
  obtain ⟨q, -, h⟩ := Option.bind_eq_some_iff.mp h
  split at h
  · rw [← Option.some.inj h]; exact fr4_up
  · rw [← Option.some.inj h]; exact fr4_up
theorem look_fr2 {a1 : Nat} {a3 a4 : Int32} {K : gS → Option gS} (hK : ∀ σ τ, K σ = some τ → fr4 σ τ) : ∀ (fuel : Nat) (σ τ : gS) (v : Int32), f_X4_look_L18 a1 a3 a4 K fuel σ v = some τ → fr4 σ τ := by
  intro fuel
  induction fuel with
  | zero =>
    intro σ τ v h
    unfold f_X4_look_L18 at h
    cases h
  | succ n ih =>
    intro σ τ v h
    unfold f_X4_look_L18 at h
    simp only [g_let] at h
    split at h
    · exact hK _ _ h
    · split at h
      · split at h
        · exact ih _ _ _ h
        · split at h
          · exact ih _ _ _ h
          · split at h
            · exact fr4_of (fr4_of (fr4_of (ih _ _ _ h)))
            · exact fr4_of (fr4_of (fr4_of (ih _ _ _ h)))
      · cases h
theorem look_fr {ad : gA} {a1 a2 : Nat} {a3 a4 : Int32} {σ τ : gS} (h : f_X4_look ad σ a1 a2 a3 a4 = some τ) : fr4 σ τ := by
  unfold f_X4_look at h
  rw [g_let_eq, g_let_eq, g_let_eq] at h
  exact fr4_of (fr4_of (fr4_of (look_fr2 (fun _ _ h => look_fr1 h) _ _ _ _ h)))
theorem bar_fr1 {ad : gA} {a2 a3 : Int32} : ∀ (fuel : Nat) (σ τ : gS) (v5 : Nat) (v6 r : Int32), f_X6_firstBar_L107 ad a2 a3 f_X6_firstBar_P160 fuel σ v5 v6 = some (r, τ) → fr4 σ τ := by
  intro fuel
  induction fuel with
  | zero =>
    intro σ τ v5 v6 r h
    unfold f_X6_firstBar_L107 at h
    cases h
  | succ n ih =>
    intro σ τ v5 v6 r h
    unfold f_X6_firstBar_L107 at h
    split at h
    · unfold f_X6_firstBar_P160 at h
      rw [← (Prod.mk.inj (Option.some.inj h)).2]; exact fr4_rfl _
    · split at h
      · split at h
        · cases h
        · obtain ⟨q, -, h⟩ := Option.bind_eq_some_iff.mp h
          split at h
          · exact ih _ _ _ _ _ h
          · obtain ⟨q, -, h⟩ := Option.bind_eq_some_iff.mp h
            split at h
            · exact ih _ _ _ _ _ h
            · rw [← (Prod.mk.inj (Option.some.inj h)).2]; exact fr4_rfl _
      · cases h
theorem bar_fr2 {ad : gA} {a2 a3 r : Int32} {σ τ : gS} {v5 : Nat} (h : f_X6_firstBar_P72 ad a2 a3 σ v5 = some (r, τ)) : fr4 σ τ := by
  unfold f_X6_firstBar_P72 at h
  split at h
  · split at h
    · cases h
    · split at h
      · obtain ⟨q, hq, h⟩ := Option.bind_eq_some_iff.mp h
        exact fr4_tr (look_fr hq) (bar_fr1 _ _ _ _ _ _ h)
      · rw [← (Prod.mk.inj (Option.some.inj h)).2]; exact fr4_rfl _
  · cases h
theorem bar_fr3 {ad : gA} {a2 a3 a4 r : Int32} {σ τ : gS} {v5 : Nat} (h : f_X6_firstBar_P53 ad a2 a3 a4 σ v5 = some (r, τ)) : fr4 σ τ := by
  unfold f_X6_firstBar_P53 at h
  split at h
  · exact bar_fr2 h
  · split at h
    · split at h
      · exact bar_fr2 h
      · rw [← (Prod.mk.inj (Option.some.inj h)).2]; exact fr4_rfl _
    · cases h
theorem bar_fr {ad : gA} {a1 a2 a3 a4 r : Int32} {σ τ : gS} (h : f_X6_firstBar ad σ a1 a2 a3 a4 = some (r, τ)) : fr4 σ τ := by
  unfold f_X6_firstBar at h
  split at h
  · split at h
    · cases h
    · split at h
      · split at h
        · split at h
          · exact bar_fr3 h
          · split at h
            · exact bar_fr3 h
            · rw [← (Prod.mk.inj (Option.some.inj h)).2]; exact fr4_rfl _
        · rw [← (Prod.mk.inj (Option.some.inj h)).2]; exact fr4_rfl _
      · rw [← (Prod.mk.inj (Option.some.inj h)).2]; exact fr4_rfl _
  · cases h
def WX (G : List (Nat × Nat)) (x : gS) : Prop := x 1 0 0 = nI G.length ∧ ∀ j, j < G.length → x 17 0 j = nI (glA G j).1 ∧ x 18 0 j = nI (glA G j).2
theorem WX_add {G : List (Nat × Nat)} {x : gS} {o s : Nat} (h : WX G x) : WX (G ++ [(o, s)]) (g_up (g_up (g_up x 17 0 G.length (nI o)) 18 0 G.length (nI s)) 1 0 0 (nI (G.length + 1))) := by
  obtain ⟨a, b⟩ := h
  refine ⟨?_, fun j hj => ?_⟩
  · rw [List.length_append]; rfl
  · show g_up x 17 0 G.length (nI o) 17 0 j = _ ∧ g_up x 18 0 G.length (nI s) 18 0 j = _
    by_cases e : j = G.length
    · rw [e, up_s, up_s, glA_end]
      exact ⟨rfl, rfl⟩
    · have hl : j < G.length := by
        rw [List.length_append] at hj
        have : j < G.length + 1 := hj
        omega
      rw [up_j e, up_j e, glA_lt hl]
      exact b j hl
/-- what the seats of an office leave as it was -/
def frG (σ τ : gS) : Prop := (∀ K, K ≠ 1 → K ≠ 17 → K ≠ 18 → τ K = σ K) ∧ ∀ j, j ≠ 0 → τ 1 0 j = σ 1 0 j
theorem frG_rfl (σ : gS) : frG σ σ := ⟨fun _ _ _ _ => rfl, fun _ _ => rfl⟩
theorem frG_of {σ τ : gS} {a b d : Nat} {u v w : Int32} (h : frG (g_up (g_up (g_up σ 17 0 a u) 18 0 b v) 1 0 0 w) τ) : frG σ τ := by
  refine ⟨fun K q1 q2 q3 => (h.1 K q1 q2 q3).trans ?_, fun j q => (h.2 j q).trans ?_⟩
  · rw [up_K q1, up_K q3, up_K q2]
  · rw [up_j q]; rfl
section
variable {nO nP nL : Nat} {S : Nat → Nat} {L : gL} {ad : gA} {σ : gS}
theorem x_slots (hJ : gJ nO nP nL S L ad σ) {o y : Nat} (ho : o < nO) (hy : y < 200) :
    ∀ (m fuel s : Nat) (x : gS), m < fuel → s + m = S o → eqv σ x → WX (glO σ S y o ++ glS σ y o s) x → ∃ x', f_X1_addSlots_L3 ad o (nI o) (nI y) f_X1_addSlots_P60 fuel x (nI s) = some x' ∧ eqv σ x' ∧ WX (glO σ S y (o + 1)) x' ∧ frG x x' := by
  obtain ⟨h1, h2, h3, h4, h5, h6, h7, h8, h9, h10, h11, h12, h13, h14, h15⟩ := id hJ
  obtain ⟨⟨hO, hP, hL⟩, ⟨m1, m2, m3⟩, ⟨x1, x2, x3⟩⟩ := id h1
  have hS := (h3 o ho).1
  have e3 := (h3 o ho).2.2.2.1
  intro m
  induction m with
  | zero =>
    intro fuel s x hf hs hq hw
    obtain ⟨f, rfl⟩ : ∃ f, fuel = f + 1 := ⟨fuel - 1, by omega⟩
    have : s = S o := by omega
    subst this
    refine ⟨x, ?_, hq, hw, frG_rfl x⟩
    unfold f_X1_addSlots_L3
    rw [hq 3 o 0 rfl, e3, if_pos (nI_le (by omega) (by omega))]; rfl
  | succ m ih =>
    intro fuel s x hf hs hq hw
    obtain ⟨f, rfl⟩ : ∃ f, fuel = f + 1 := ⟨fuel - 1, by omega⟩
    have hJ' := gJ_eqv hq hJ
    have q58 := hq 58 0 (ixl o y s) rfl
    have hlen : (glO σ S y o ++ glS σ y o s).length < 24 := by
      have l1 := glO_len (σ := σ) (S := S) (y := y) (nO := nO) (fun o ho => (h3 o ho).1.2) o (by omega)
      have l2 := glS_len (σ := σ) (y := y) (o := o) s
      rw [List.length_append]
      omega
    have pl := (z_ix (n := 24) (show (glO σ S y o ++ glS σ y o s).length < 2147483648 by omega)).mpr hlen
    unfold f_X1_addSlots_L3
    rw [hq 3 o 0 rfl, e3, if_neg (nI_ge (by omega) (by omega))]
    rcases x_seatv hO hP hJ'.2.2.1 hJ'.2.2.2.2.2.2.2.1 hJ'.2.2.2.2.2.2.2.2.2.1 ho hy (show s < S o by omega) with ⟨e1, -, e⟩ | ⟨p, hp, e1, -, e⟩
    · rw [q58] at e1
      have hg : glS σ y o (s + 1) = glS σ y o s ++ [(o, s)] := by
        rw [glS, if_pos (by rw [e1]; decide)]
      rw [e, Option.bind_some, im1, hw.1, if_pos pl, z_clamp (by omega)]
      simp only [g_let]
      rw [show g_up x 17 0 (glO σ S y o ++ glS σ y o s).length (nI o) 1 0 0 = nI (glO σ S y o ++ glS σ y o s).length from hw.1, if_pos pl, z_clamp (by omega), show g_up (g_up x 17 0 (glO σ S y o ++ glS σ y o s).length (nI o)) 18 0 (glO σ S y o ++ glS σ y o s).length (nI s) 1 0 0 = nI (glO σ S y o ++ glS σ y o s).length from hw.1, nI_1, nI_1]
      have hw' := WX_add (o := o) (s := s) hw
      rw [List.append_assoc, ← hg] at hw'
      obtain ⟨x', t1, t2, t3, t4⟩ := ih f (s + 1) _ (by omega) (by omega) (eqv_up (eqv_up (eqv_up hq rfl) rfl) rfl) hw'
      exact ⟨x', t1, t2, t3, frG_of (d := 0) t4⟩
    · rw [q58] at e1
      have hg : glS σ y o (s + 1) = glS σ y o s := by
        rw [glS, if_neg (by rw [e1]; exact nI_pos (by omega))]
      have hne : ((f_X3_code ad x o (nI y) (nI s)).bind fun q1 => (if q1 = (-1 : Int32) then (if g_ix (x 1 0 0) 24 then (g_let (g_up x 17 0 ((x 1 0 0).toNatClampNeg) (nI o)) fun σ4 => (if g_ix (σ4 1 0 0) 24 then (g_let (g_up σ4 18 0 ((σ4 1 0 0).toNatClampNeg) (nI s)) fun σ7 => (g_let (g_up σ7 1 0 0 ((σ7 1 0 0) + (1 : Int32))) fun σ8 => (f_X1_addSlots_L3 ad o (nI o) (nI y) f_X1_addSlots_P60 f σ8 (nI s + (1 : Int32))))) else none)) else none) else (f_X1_addSlots_L3 ad o (nI o) (nI y) f_X1_addSlots_P60 f x (nI s + (1 : Int32))))) = f_X1_addSlots_L3 ad o (nI o) (nI y) f_X1_addSlots_P60 f x (nI (s + 1)) := by
        rcases e with ⟨-, e⟩ | ⟨-, e⟩
        · rw [e, Option.bind_some, if_neg (by rw [z_eqm1 (by omega)]; exact id), nI_1]
        · rw [e, Option.bind_some, if_neg (by rw [z_eqm1 (by omega)]; exact id), nI_1]
      rw [hne]
      exact ih f (s + 1) x (by omega) (by omega) hq (by rw [hg]; exact hw)
theorem kbB_eqv {τ : gS} (h : eqv σ τ) (y o : Nat) : kbB τ nL y o = kbB σ nL y o := by
  unfold kbB
  apply exB_congr
  intro l _
  rw [inB_eqv h, h 53 0 l rfl]
theorem x_kinLaw (hJ : gJ nO nP nL S L ad σ) {o y : Nat} (ho : o < nO) : f_X6_kinLawBinds ad σ (nI o) (nI y) = some (if kbB σ nL y o then 1 else 0) := by
  obtain ⟨h1, h2, h3, h4, h5, h6, h7, h8, h9, h10, h11, h12, h13, h14, h15⟩ := id hJ
  obtain ⟨⟨hO, hP, hL⟩, ⟨m1, m2, m3⟩, ⟨x1, x2, x3⟩⟩ := id h1
  have e25 := h2.1 o ho
  have e31 := (h3 o ho).2.2.2.2.1
  have po := (z_ix (n := 8) (show o < 2147483648 by omega)).mpr (by omega)
  unfold f_X6_kinLawBinds
  rw [if_pos po, z_clamp (by omega), e25, i0l, e31]
  by_cases hfree : σ 45 0 o = 0
  · rw [if_pos hfree]
    have hl : ∀ (m fuel j : Nat), m < fuel → j + m = nL → exB (fun l => inB σ l o y && decide (σ 53 0 l = 5)) j = false → f_X6_kinLawBinds_L16 ad σ (nI o) (nI y) f_X6_kinLawBinds_P59 fuel (nI j) = some (if kbB σ nL y o then 1 else 0) := by
      intro m
      induction m with
      | zero =>
        intro fuel j hf hj hz
        obtain ⟨f, rfl⟩ : ∃ f, fuel = f + 1 := ⟨fuel - 1, by omega⟩
        have : j = nL := by omega
        subst this
        unfold f_X6_kinLawBinds_L16 kbB
        rw [x3, if_pos (nI_le (by omega) (by omega)), hz]; rfl
      | succ m ih =>
        intro fuel j hf hj hz
        obtain ⟨f, rfl⟩ : ∃ f, fuel = f + 1 := ⟨fuel - 1, by omega⟩
        have pj := (z_ix (n := 20) (show j < 2147483648 by omega)).mpr (by omega)
        have e27 := h2.2.2.1 j (by omega)
        obtain ⟨-, q1, -⟩ := h7 j (by omega)
        have st : (inB σ j o y && decide (σ 53 0 j = 5)) = false → f_X6_kinLawBinds_L16 ad σ (nI o) (nI y) f_X6_kinLawBinds_P59 f (nI (j + 1)) = some (if kbB σ nL y o then 1 else 0) := fun hb => ih f (j + 1) (by omega) (by omega) (by rw [exB, hz, hb]; rfl)
        unfold f_X6_kinLawBinds_L16
        rw [x3, if_neg (nI_ge (by omega) (by omega))]
        simp only [if_pos pj, z_clamp (show j < 2147483648 by omega), e27, i0l, q1, nI_1, x_binds h6 h7 hO (show j < nL by omega) hfree (eqv_rfl σ), Option.bind_some]
        by_cases c1 : σ 53 0 j = 5
        · rw [if_pos c1]
          cases hin : inB σ j o y
          · simp only [Bool.false_eq_true, if_false, i00]
            exact st (by rw [hin]; rfl)
          · simp only [if_true, i10]
            unfold kbB
            rw [exB_iff.mpr ⟨j, by omega, by simp [hin, c1]⟩]; rfl
        · rw [if_neg c1]
          exact st (by simp [c1])
    exact hl nL g_fuel 0 (by unfold g_fuel; omega) (by omega) rfl
  · rw [if_neg hfree]
    have : kbB σ nL y o = false := by
      unfold kbB
      rw [exB_no]
      intro l _
      simp [inB, hfree]
    rw [this]; rfl
theorem x_able (hJ : gJ nO nP nL S L ad σ) {o y : Nat} (ho : o < nO) (hy : y < 200) {x : gS} (hq : eqv σ x) : ∃ v x', f_X1_ableIn ad x (nI o) (nI y) = some (v, x') ∧ fr4 x x' ∧ ((∃ s, s < S o ∧ σ 58 0 (ixl o y s) < 0) → ∀ p, p < nP → bt v p = decide (barS σ S nL p o y true = -2)) := by
  obtain ⟨h1, h2, h3, h4, h5, h6, h7, h8, h9, h10, h11, h12, h13, h14, h15⟩ := id hJ
  obtain ⟨⟨hO, hP, hL⟩, ⟨m1, m2, m3⟩, ⟨x1, x2, x3⟩⟩ := id h1
  have hS := (h3 o ho).1
  have po := (z_ix (n := 8) (show o < 2147483648 by omega)).mpr (by omega)
  have e25 : x 25 0 o = 0 := (hq 25 0 o rfl).trans (h2.1 o ho)
  have hJ' := gJ_eqv hq hJ
  have hl : ∀ (m fuel p : Nat) (v : Int32) (x : gS), m < fuel → p + m = nP → eqv σ x → (∀ r, r < p → bt v r = decide (barS σ S nL r o y true = -2)) → (∀ r, p ≤ r → r < 32 → bt v r = false) → ∃ v' x', f_X1_ableIn_L21 ad (nI o) (nI y) f_X1_ableIn_P57 fuel x v (nI p) = some (v', x') ∧ fr4 x x' ∧ ∀ r, r < nP → bt v' r = decide (barS σ S nL r o y true = -2) := by
    intro m
    induction m with
    | zero =>
      intro fuel p v x hf hp hq hv hv0
      obtain ⟨f, rfl⟩ : ∃ f, fuel = f + 1 := ⟨fuel - 1, by omega⟩
      have : p = nP := by omega
      subst this
      refine ⟨v, x, ?_, fr4_rfl x, hv⟩
      unfold f_X1_ableIn_L21
      rw [hq 6 0 4 rfl, x2, if_pos (nI_le (by omega) (by omega))]; rfl
    | succ m ih =>
      intro fuel p v x hf hp hq hv hv0
      obtain ⟨f, rfl⟩ : ∃ f, fuel = f + 1 := ⟨fuel - 1, by omega⟩
      obtain ⟨τ, t1, t2⟩ := x_bar (gJ_eqv hq hJ) (show p < nP by omega) ho hy true
      have t3 := bar_fr t1
      rw [barS_eqv hq] at t1
      unfold f_X1_ableIn_L21
      rw [hq 6 0 4 rfl, x2, if_neg (nI_ge (by omega) (by omega)), show f_X6_firstBar ad x (nI p) (nI o) (nI y) 1 = _ from t1, Option.bind_some, nI_1]
      by_cases c : barS σ S nL p o y true = -2
      · rw [if_pos c]
        obtain ⟨v', x', r1, r2, r3⟩ := ih f (p + 1) (v ||| ((1 : Int32) <<< (nI p &&& 31))) τ (by omega) (by omega) (eqv_trans hq t2) (by
          intro r hr
          rw [b_or, b_one (by omega) (by omega)]
          by_cases e : r = p
          · subst e; simp [c]
          · rw [hv r (by omega)]; simp [e]) (by
          intro r h1 h2
          rw [b_or, b_one (by omega) (by omega), hv0 r (by omega) h2]
          have : ¬ r = p := by omega
          simp [this])
        exact ⟨v', x', r1, fr4_tr t3 r2, r3⟩
      · rw [if_neg c]
        obtain ⟨v', x', r1, r2, r3⟩ := ih f (p + 1) v τ (by omega) (by omega) (eqv_trans hq t2) (by
          intro r hr
          by_cases e : r = p
          · subst e; rw [hv0 r (by omega) (by omega)]; simp [c]
          · exact hv r (by omega)) (fun r h1 h2 => hv0 r (by omega) h2)
        exact ⟨v', x', r1, fr4_tr t3 r2, r3⟩
  unfold f_X1_ableIn
  rw [if_pos po, z_clamp (by omega), e25, i0l]
  rcases x_first hJ' ho hy (S o) g_fuel 0 (by unfold g_fuel; omega) (by omega) with ⟨r1, r2⟩ | ⟨s, b1, b2, r1, r2, r3⟩
  · rw [show f_X3_firstEmpty ad x o (nI y) = some (-1) from r1, Option.bind_some, im1]
    refine ⟨0, x, rfl, fr4_rfl x, ?_⟩
    rintro ⟨s, hs, hn⟩
    exact absurd hn (by rw [← hq 58 0 _ rfl]; exact r2 s (by omega) hs)
  · rw [show f_X3_firstEmpty ad x o (nI y) = some (nI s) from r1, Option.bind_some, if_neg (by rw [z_eqm1 (by omega)]; exact id)]
    obtain ⟨v', x', t1, t2, t3⟩ := hl nP g_fuel 0 0 x (by unfold g_fuel; omega) (by omega) hq (fun r hr => by omega) (fun r _ _ => b_0 r)
    exact ⟨v', x', t1, t2, fun _ => t3⟩
def SX (σ : gS) (S : Nat → Nat) (nL nP y : Nat) (one : Bool) (ap ao : Int32) (o : Nat) (x : gS) : Prop := eqv σ x ∧ WX (glO σ S y o) x ∧ (x 1 0 5 = (if one then 1 else 0) ∧ x 1 0 6 = ap ∧ x 1 0 7 = ao) ∧ (x 1 0 1 = 0 ∧ x 1 0 2 = 0 ∧ x 1 0 3 = 0 ∧ x 1 0 4 = 0 ∧ x 1 0 8 = 0) ∧ ∀ o', o' < o → x 22 0 o' = 0 ∧ x 21 0 o' = (if kbB σ nL y o' then 1 else 0) ∧ ((∃ s, s < S o' ∧ σ 58 0 (ixl o' y s) < 0) → ∀ p, p < nP → bt (x 20 0 o') p = decide (barS σ S nL p o' y true = -2))
theorem x_ready (hJ : gJ nO nP nL S L ad σ) {y : Nat} (hy : y < 200) {one : Bool} {ap ao : Int32} (K : gS → Option gS) :
    ∀ (m fuel o : Nat) (x : gS), m < fuel → o + m = nO → SX σ S nL nP y one ap ao o x → ∃ x', f_X1_search_L50 ad (nI y) K fuel x (nI o) = K x' ∧ SX σ S nL nP y one ap ao nO x' := by
  obtain ⟨h1, h2, h3, h4, h5, h6, h7, h8, h9, h10, h11, h12, h13, h14, h15⟩ := id hJ
  obtain ⟨⟨hO, hP, hL⟩, ⟨m1, m2, m3⟩, ⟨x1, x2, x3⟩⟩ := id h1
  intro m
  induction m with
  | zero =>
    intro fuel o x hf ho h
    obtain ⟨f, rfl⟩ : ∃ f, fuel = f + 1 := ⟨fuel - 1, by omega⟩
    have : o = nO := by omega
    subst this
    refine ⟨x, ?_, h⟩
    unfold f_X1_search_L50
    rw [h.1 6 0 3 rfl, x1, if_pos (nI_le (by omega) (by omega))]
  | succ m ih =>
    intro fuel o x hf ho h
    obtain ⟨f, rfl⟩ : ∃ f, fuel = f + 1 := ⟨fuel - 1, by omega⟩
    obtain ⟨hq, hw, ⟨s5, s6, s7⟩, ⟨s1, s2, s3, s4, s8⟩, ho'⟩ := h
    have po := (z_ix (n := 8) (show o < 2147483648 by omega)).mpr (by omega)
    have q1 : eqv σ (g_up x 22 0 o 0) := eqv_up hq rfl
    have hSo := (h3 o (by omega)).1
    obtain ⟨a, a1, a2, a3, a4⟩ := x_slots hJ (show o < nO by omega) hy (S o) g_fuel 0 (g_up x 22 0 o 0) (by unfold g_fuel; omega) (by omega) q1 (by rw [glS, List.append_nil]; exact hw)
    have b1 : f_X6_kinLawBinds ad a (nI o) (nI y) = some (if kbB σ nL y o then 1 else 0) := by
      rw [x_kinLaw (gJ_eqv a2 hJ) (by omega), kbB_eqv a2]
    have b2 : vp_nar .boolean (if kbB σ nL y o then (1 : Int32) else 0) = if kbB σ nL y o then 1 else 0 := z_bo (by cases kbB σ nL y o; exact Or.inl rfl; exact Or.inr rfl)
    obtain ⟨v, c, c1, c2, c3⟩ := x_able hJ (show o < nO by omega) hy (x := g_up a 21 0 o (if kbB σ nL y o then 1 else 0)) (eqv_up a2 rfl)
    have e25 : g_up x 22 0 o 0 25 0 o = 0 := (q1 25 0 o rfl).trans (h2.1 o (by omega))
    unfold f_X1_search_L50
    rw [hq 6 0 3 rfl, x1, if_neg (nI_ge (by omega) (by omega))]
    simp only [if_pos po, z_clamp (show o < 2147483648 by omega), g_let, e25, i0l]
    rw [show f_X1_addSlots ad (g_up x 22 0 o 0) o (nI o) (nI y) = some a from a1, Option.bind_some, b1, Option.bind_some, b2, c1, Option.bind_some, nI_1]
    refine ih f (o + 1) _ (by omega) (by omega) ?_
    show SX σ S nL nP y one ap ao (o + 1) (g_up c 20 0 o v)
    have cK : ∀ K, K ≠ 4 → K ≠ 21 → c K = a K := fun K n1 n2 => (c2 K n1).trans (up_K n2)
    have f1 : ∀ j, j ≠ 0 → c 1 0 j = x 1 0 j := fun j hj => by
      rw [cK 1 (by decide) (by decide), a4.2 j hj]; rfl
    refine ⟨eqv_up (eqv_trans (eqv_up a2 rfl) (fr4_eqv c2)) rfl, ?_, ⟨(f1 5 (by decide)).trans s5, (f1 6 (by decide)).trans s6, (f1 7 (by decide)).trans s7⟩, ⟨(f1 1 (by decide)).trans s1, (f1 2 (by decide)).trans s2, (f1 3 (by decide)).trans s3, (f1 4 (by decide)).trans s4, (f1 8 (by decide)).trans s8⟩, ?_⟩
    · show WX (glO σ S y (o + 1)) (g_up c 20 0 o v)
      unfold WX
      rw [up_K (K' := 1) (by decide), up_K (K' := 17) (by decide), up_K (K' := 18) (by decide), cK 1 (by decide) (by decide), cK 17 (by decide) (by decide), cK 18 (by decide) (by decide)]
      exact a3
    · intro o2 ho2
      have g22 : g_up c 20 0 o v 22 0 o2 = g_up x 22 0 o 0 22 0 o2 := by
        show c 22 0 o2 = _
        rw [cK 22 (by decide) (by decide), a4.1 22 (by decide) (by decide) (by decide)]
      have g21 : g_up c 20 0 o v 21 0 o2 = g_up a 21 0 o (if kbB σ nL y o then 1 else 0) 21 0 o2 := by
        show c 21 0 o2 = _
        rw [c2 21 (by decide)]
      rw [g22, g21]
      by_cases e : o2 = o
      · subst e
        rw [up_s, up_s, up_s]
        exact ⟨rfl, rfl, c3⟩
      · rw [up_j e, up_j e, up_j e]
        obtain ⟨k1, k2, k3⟩ := ho' o2 (by omega)
        have e21 : a 21 0 o2 = x 21 0 o2 := by rw [a4.1 21 (by decide) (by decide) (by decide)]; rfl
        have e20 : c 20 0 o2 = x 20 0 o2 := by rw [cK 20 (by decide) (by decide), a4.1 20 (by decide) (by decide) (by decide)]; rfl
        rw [e21, e20]
        exact ⟨k1, k2, k3⟩
end
def gN (σ : gS) (S : Nat → Nat) (y nO : Nat) : Nat := (glO σ S y nO).length
def gO (σ : gS) (S : Nat → Nat) (y nO : Nat) (j : Nat) : Nat := (glA (glO σ S y nO) j).1
def gQ (σ : gS) (S : Nat → Nat) (y nO : Nat) (j : Nat) : Nat := (glA (glO σ S y nO) j).2
def st0 : qS := (0, 0, 0, 0, fun _ => 0)
theorem st0_ok (one : Bool) : okS one st0 := ⟨Nat.zero_le _, Nat.zero_le _, fun _ _ => rfl, fun h => absurd h (by decide)⟩
theorem gp_of {nO nP nL y : Nat} {S : Nat → Nat} {L : gL} {ad : gA} {σ : gS} (hJ : gJ nO nP nL S L ad σ) (hy : y < 200) : gpP nO (gN σ S y nO) y S (gO σ S y nO) (gQ σ S y nO) σ := by
  obtain ⟨h1, h2, h3, h4, h5, h6, h7, h8, h9, h10, h11, h12, h13, h14, h15⟩ := id hJ
  obtain ⟨⟨hO, hP, hL⟩, ⟨m1, m2, m3⟩, ⟨x1, x2, x3⟩⟩ := id h1
  refine ⟨⟨?_, hy⟩, fun t ht => ?_, fun t u ht hu e1 e2 => ?_⟩
  · have := glO_len (σ := σ) (S := S) (y := y) (nO := nO) (fun o ho => (h3 o ho).1.2) nO (Nat.le_refl _)
    show (glO σ S y nO).length ≤ 24
    omega
  · obtain ⟨b1, b2, b3⟩ := glO_mem nO _ (glA_mem (show t < (glO σ S y nO).length from ht))
    have hS := (h3 _ b1).1
    rcases h8 (gO σ S y nO t) y (gQ σ S y nO t) (Nat.lt_of_lt_of_le b1 hO) hy (Nat.lt_of_lt_of_le b2 hS.2) with ⟨c1, c2⟩ | ⟨-, -, p, hp, c1, -⟩
    · exact ⟨b1, b2, c1, c2⟩
    · rw [show σ 58 0 (ixl (glA (glO σ S y nO) t).1 y (glA (glO σ S y nO) t).2) = nI p from c1, z_lt0 (by omega)] at b3
      exact b3.elim
  · exact glA_inj (glO_nd nO) ht hu (Prod.ext e1 e2)
theorem x_search {nO nP nL y : Nat} {S : Nat → Nat} {L : gL} {ad : gA} {σ : gS} (hJ : gJ nO nP nL S L ad σ) (hy : y < 200) {one ask : Bool} {ap ao : Int32} {hit : (Nat → Nat) → Bool} (ha : askP nO nP (gN σ S y nO) (gO σ S y nO) ask ap ao hit) :
    ∃ x', f_X1_search ad σ (nI y) ap ao (if one then 1 else 0) = some x' ∧ RXs σ nO nP (gN σ S y nO) (gO σ S y nO) (gQ σ S y nO) (fun p o => decide (barS σ S nL p o y true = -2)) (kbB σ nL y) one ap ao x' ∧ RXd nO (gN σ S y nO) (gO σ S y nO) ask 0 (pl (fitR σ S nL y (gO σ S y nO)) (gO σ S y nO) one hit nP (gN σ S y nO) 0 st0) x' := by
  obtain ⟨h1, h2, h3, h4, h5, h6, h7, h8, h9, h10, h11, h12, h13, h14, h15⟩ := id hJ
  obtain ⟨⟨hO, hP, hL⟩, ⟨m1, m2, m3⟩, ⟨x1, x2, x3⟩⟩ := id h1
  obtain ⟨⟨hn, -⟩, hg1, -⟩ := gp_of hJ hy
  have hb : g_bo (if one then (1 : Int32) else 0) := by cases one; exact Or.inl rfl; exact Or.inr rfl
  obtain ⟨x, e1, hq, hw, ⟨s5, s6, s7⟩, ⟨s1, s2, s3, s4, s8⟩, hoo⟩ := x_ready hJ hy (one := one) (ap := ap) (ao := ao) (f_X1_search_P115 ad) nO g_fuel 0 (g_up (g_up (g_up (g_up (g_up (g_up (g_up (g_up (g_up σ 1 0 6 ap) 1 0 7 ao) 1 0 5 (if one then 1 else 0)) 1 0 1 0) 1 0 2 0) 1 0 4 0) 1 0 3 0) 1 0 8 0) 1 0 0 0) (by unfold g_fuel; omega) (by omega) ⟨eqv_up (eqv_up (eqv_up (eqv_up (eqv_up (eqv_up (eqv_up (eqv_up (eqv_up (eqv_rfl σ) rfl) rfl) rfl) rfl) rfl) rfl) rfl) rfl) rfl, ⟨rfl, fun j hj => absurd hj (by show ¬ j < 0; omega)⟩, ⟨rfl, rfl, rfl⟩, ⟨rfl, rfl, rfl, rfl, rfl⟩, fun o' h => absurd h (by omega)⟩
  have hs : RXs σ nO nP (gN σ S y nO) (gO σ S y nO) (gQ σ S y nO) (fun p o => decide (barS σ S nL p o y true = -2)) (kbB σ nL y) one ap ao x := by
    refine ⟨hq, ⟨hw.1, s5, s6, s7⟩, fun j hj => (hw.2 j hj).1, fun j hj => (hw.2 j hj).2, fun o ho => (hoo o ho).2.1, fun j hj p hp => ?_⟩
    obtain ⟨b1, b2, b3, -⟩ := hg1 j hj
    exact (hoo _ b1).2.2 ⟨_, b2, by rw [b3]; decide⟩ p hp
  have hd : RXd nO (gN σ S y nO) (gO σ S y nO) ask 0 st0 x := by
    refine ⟨⟨s1, fun _ => s2, s3, s4⟩, fun p _ => ?_, fun o ho p _ => ?_, fun j hj => absurd hj (by omega), fun h => absurd h (by decide)⟩
    · rw [s8]; exact b_0 p
    · rw [(hoo o ho).1]; exact b_0 p
  obtain ⟨z, z1, z2, z3⟩ := x_placeD hJ hn (fun j hj => (hg1 j hj).1) ha (gN σ S y nO) 26 0 st0 x (by omega) (by omega) (st0_ok one) rfl (fun j hj => absurd hj (by omega)) hs hd
  refine ⟨z, ?_, z2, z3⟩
  unfold f_X1_search
  simp only [g_let, if_pos hb]
  rw [show f_X1_search_L50 ad (nI y) (f_X1_search_P115 ad) g_fuel _ 0 = f_X1_search_P115 ad x from e1]
  unfold f_X1_search_P115
  rw [show f_X1_placeD ad 26 x 0 = some z from z1]; rfl
