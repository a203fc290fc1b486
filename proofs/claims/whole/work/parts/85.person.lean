/-! PURE: one of the people comes -/
def xp5 (σ : gS) (n : Nat) (a1 a2 a3 a4 : Int32) : gS := g_row (g_up (g_up (g_up (g_up (g_up (g_up (g_up (g_up (g_up (g_row (g_row σ 105 n (g_z 5)) 24 n (fun _ => 0)) 105 n 2 0) 105 n 5 200) 105 n 6 0) 105 n 7 (-1)) 105 n 8 0) 105 n 0 a1) 105 n 3 a2) 105 n 4 a3) 105 n 1 a4) 24 n (fun j => if j < 200 then -1 else 0)
def xp7 (σ : gS) (n : Nat) (a1 a2 a3 a4 : Int32) : gS := g_up (g_up (g_row (xp5 σ n a1 a2 a3 a4) 5 n (xp5 σ n a1 a2 a3 a4 105 n)) 26 0 n 0) 6 0 4 (nI (n + 1))
def mp8 (σ : gS) (n : Nat) (a1 a2 a3 a4 : Int32) : gS := g_up (g_up (g_up (g_up (g_up (g_up (g_up (g_up σ 46 0 n a1) 47 0 n a2) 48 0 n a3) 49 0 n a4) 50 0 n 200) 51 0 n 0) 52 0 n (-1)) 9 0 2 (nI (n + 1))
theorem x_initP {ad : gA} {σ : gS} {n : Nat} {a1 a2 a3 a4 : Int32} : f_X5_init ad (g_row σ 105 n (g_z 5)) n a1 a2 a3 a4 = some (xp5 σ n a1 a2 a3 a4) := by
  unfold f_X5_init
  rw [g_let_eq, g_let_eq, g_let_eq, g_let_eq, g_let_eq, g_let_eq, g_let_eq, g_let_eq, g_let_eq, g_let_eq]
  rw [if_neg (by simp [g_up]), x_fillB (by omega), z_b1]
  show some _ = some _
  unfold xp5
  congr 1
  apply congrArg
  funext j
  by_cases c : j < 200
  · rw [if_pos c, if_pos c]
  · rw [if_neg c, if_neg c]
    show g_row _ 24 n (fun _ => 0) 24 n j = 0
    rw [row_s]
/-- ties, with others -/
def TIE (n : Nat) (T : Nat → Bool) (x0 x : gS) : Prop := (∀ K i j, ¬ (K = 5 ∧ j = 8) → x K i j = x0 K i j) ∧ ∀ i q, q < 32 → bt (x 5 i 8) q = (bt (x0 5 i 8) q || ((decide (i = n) && T q) || (decide (q = n) && T i)))
theorem TIE_nil (n : Nat) (x : gS) : TIE n (fun _ => false) x x := ⟨fun _ _ _ _ => rfl, fun i q _ => by simp⟩
theorem TIE_congr {n : Nat} {T T' : Nat → Bool} {x0 x : gS} (h : TIE n T x0 x) (e : ∀ q, T' q = T q) : TIE n T' x0 x := by
  have : T' = T := funext e
  rw [this]; exact h
theorem x_tie {ad : gA} {n o : Nat} {T : Nat → Bool} {x0 x : gS} (hn : n < 24) (ho : o < n) (e1 : x0 26 0 n = 0) (e2 : x0 26 0 o = 0) (h : TIE n T x0 x) : ∃ x', f_X6_tie ad x (nI n) (nI o) = some x' ∧ TIE n (fun q => T q || decide (q = o)) x0 x' := by
  have pn := (z_ix (n := 24) (show n < 2147483648 by omega)).mpr (by omega)
  have po := (z_ix (n := 24) (show o < 2147483648 by omega)).mpr (by omega)
  have hno : o ≠ n := by omega
  have f1 : x 26 0 n = 0 := (h.1 26 0 n (by omega)).trans e1
  have f2 : x 26 0 o = 0 := (h.1 26 0 o (by omega)).trans e2
  refine ⟨g_up (g_up x 5 n 8 (x 5 n 8 ||| ((1 : Int32) <<< (nI o &&& 31)))) 5 o 8 (x 5 o 8 ||| ((1 : Int32) <<< (nI n &&& 31))), ?_, ?_, ?_⟩
  · unfold f_X6_tie
    rw [if_pos pn, z_clamp (by omega), f1, i0l, g_let_eq, if_pos po, z_clamp (by omega), show g_up x 5 n 8 (x 5 n 8 ||| ((1 : Int32) <<< (nI o &&& 31))) 26 0 o = 0 from f2, i0l, g_let_eq, up_i hno]
  · intro K i j hk
    by_cases c1 : K = 5
    · subst c1
      have : j ≠ 8 := fun e => hk ⟨rfl, e⟩
      rw [up_j this, up_j this]
      exact h.1 5 i j hk
    · rw [up_K c1, up_K c1]
      exact h.1 K i j hk
  · intro i q hq
    have hh := h.2 i q hq
    by_cases c1 : i = o
    · subst c1
      rw [up_s, b_or, hh, b_one (by omega) hq]
      have : ¬ i = n := hno
      cases bt (x0 5 i 8) q <;> cases T i <;> by_cases e : q = n <;> simp [this, e]
    · rw [up_i c1]
      by_cases c2 : i = n
      · subst c2
        rw [up_s, b_or, hh, b_one (by omega) hq]
        have : ¬ i = o := c1
        simp only [decide_true, Bool.true_and, decide_eq_false this, Bool.or_false]
        generalize bt (x0 5 i 8) q = b
        generalize T q = t
        generalize (decide (q = i) && T i) = u
        generalize decide (q = o) = v
        cases b <;> cases t <;> cases u <;> cases v <;> rfl
      · rw [up_i c2, hh]
        simp [c1, c2]
theorem x_tieL {ad : gA} {n f : Nat} {x0 : gS} (hn : n < 24) (hf : f < n) (e26 : ∀ j, j ≤ n → x0 26 0 j = 0) :
    ∀ (m fuel j : Nat) (x : gS), m < fuel → j + m = n → TIE n (fun q => decide (q = f) || (decide (q < j) && decide (x0 5 q 1 = x0 5 n 1))) x0 x → ∃ x', f_X6_addPerson_L41 ad n f_X6_addPerson_P74 fuel x (nI n) (nI j) = some (nI n, x') ∧ TIE n (fun q => decide (q = f) || (decide (q < n) && decide (x0 5 q 1 = x0 5 n 1))) x0 x' := by
  intro m
  induction m with
  | zero =>
    intro fuel j x hfu hj h
    obtain ⟨g, rfl⟩ : ∃ g, fuel = g + 1 := ⟨fuel - 1, by omega⟩
    have : j = n := by omega
    subst this
    refine ⟨x, ?_, h⟩
    unfold f_X6_addPerson_L41
    rw [if_pos (nI_le (by omega) (by omega))]; rfl
  | succ m ih =>
    intro fuel j x hfu hj h
    obtain ⟨g, rfl⟩ : ∃ g, fuel = g + 1 := ⟨fuel - 1, by omega⟩
    have pj := (z_ix (n := 24) (show j < 2147483648 by omega)).mpr (by omega)
    unfold f_X6_addPerson_L41
    rw [if_neg (nI_ge (by omega) (by omega)), if_pos pj, z_clamp (by omega), (h.1 26 0 j (by omega)).trans (e26 j (by omega)), i0l, h.1 5 j 1 (by omega), h.1 5 n 1 (by omega)]
    by_cases c : x0 5 j 1 = x0 5 n 1
    · rw [if_pos c]
      obtain ⟨x', t1, t2⟩ := x_tie (ad := ad) hn (show j < n by omega) (e26 n (by omega)) (e26 j (by omega)) h
      rw [t1, Option.bind_some, nI_1]
      refine ih g (j + 1) x' (by omega) (by omega) (TIE_congr t2 fun q => ?_)
      by_cases e : q = j
      · subst e
        simp [c]
      · have : (decide (q < j + 1)) = decide (q < j) := decide_eq_decide.mpr (by omega)
        rw [this]
        simp [e]
    · rw [if_neg c, nI_1]
      refine ih g (j + 1) x (by omega) (by omega) (TIE_congr h fun q => ?_)
      by_cases e : q = j
      · subst e
        simp [c]
      · have : (decide (q < j + 1)) = decide (q < j) := decide_eq_decide.mpr (by omega)
        rw [this]
def pK (K : Nat) : Bool := decide (K = 5) || decide (K = 6) || decide (K = 9) || decide (K = 24) || decide (K = 26) || decide (K = 46) || decide (K = 47) || decide (K = 48) || decide (K = 49) || decide (K = 50) || decide (K = 51) || decide (K = 52) || decide (K = 105)
theorem J_person {nO nP nL : Nat} {S : Nat → Nat} {L : gL} {ad : gA} {σ : gS} (hJ : gJ nO nP nL S L ad σ) {a1 a2 a3 a4 : Int32} (hp24 : nP < 24) (ha4 : a4 = -1 ∨ ∃ f, f < nP ∧ a4 = nI f) {T : Nat → Bool} (hT : ∀ q, q < nP → (T q = true ↔ (a4 = nI q ∨ (¬ a4 < 0 ∧ a4 = σ 49 0 q)))) (hT0 : ∀ q, nP ≤ q → T q = false) {x : gS} (hx : TIE nP T (xp7 σ nP a1 a2 a3 a4) x) : gJ nO (nP + 1) nL S (L ++ [(5, nP), (24, nP)]) ad (mp8 x nP a1 a2 a3 a4) := by
  obtain ⟨h1, h2, h3, h4, h5, h6, h7, h8, h9, h10, h11, h12, h13, h14, h15⟩ := id hJ
  obtain ⟨⟨hO, hP, hL⟩, ⟨m1, m2, m3⟩, ⟨x1, x2, x3⟩⟩ := id h1
  have hK : ∀ K, pK K = false → mp8 x nP a1 a2 a3 a4 K = σ K := by
    intro K hk
    simp only [pK, Bool.or_eq_false_iff, decide_eq_false_iff_not] at hk
    obtain ⟨⟨⟨⟨⟨⟨⟨⟨⟨⟨⟨⟨k5, k6⟩, k9⟩, k24⟩, k26⟩, k46⟩, k47⟩, k48⟩, k49⟩, k50⟩, k51⟩, k52⟩, k105⟩ := hk
    unfold mp8
    rw [up_K k9, up_K k52, up_K k51, up_K k50, up_K k49, up_K k48, up_K k47, up_K k46]
    funext i j
    rw [hx.1 K i j (fun h => k5 h.1)]
    unfold xp7 xp5
    rw [up_K k6, up_K k26, row_K k5, row_K k24]
    rw [up_K k105, up_K k105, up_K k105, up_K k105, up_K k105, up_K k105, up_K k105, up_K k105, up_K k105, row_K k24, row_K k105]
  have h9 : ∀ j, j ≠ 2 → mp8 x nP a1 a2 a3 a4 9 0 j = σ 9 0 j := by
    intro j hj
    unfold mp8
    rw [up_j hj]
    show x 9 0 j = _
    rw [hx.1 9 0 j (by omega)]; rfl
  have h6 : ∀ j, j ≠ 4 → mp8 x nP a1 a2 a3 a4 6 0 j = σ 6 0 j := by
    intro j hj
    show x 6 0 j = _
    rw [hx.1 6 0 j (by omega)]
    unfold xp7
    rw [up_j hj]; rfl
  have h5j : ∀ i j, j ≠ 8 → mp8 x nP a1 a2 a3 a4 5 i j = if i = nP then xp5 σ nP a1 a2 a3 a4 105 nP j else σ 5 i j := by
    intro i j hj
    show x 5 i j = _
    rw [hx.1 5 i j (fun h => hj h.2)]
    show g_row (xp5 σ nP a1 a2 a3 a4) 5 nP (xp5 σ nP a1 a2 a3 a4 105 nP) 5 i j = _
    by_cases e : i = nP
    · rw [e, row_s, if_pos rfl]
    · rw [row_i e, if_neg e]; rfl
  have hM : ∀ K v, (K = 46 ∧ v = a1) ∨ (K = 47 ∧ v = a2) ∨ (K = 48 ∧ v = a3) ∨ (K = 49 ∧ v = a4) ∨ (K = 50 ∧ v = 200) ∨ (K = 51 ∧ v = 0) ∨ (K = 52 ∧ v = -1) → ∀ p, mp8 x nP a1 a2 a3 a4 K 0 p = if p = nP then v else σ K 0 p := by
    intro K v hk p
    rcases hk with ⟨rfl, rfl⟩ | ⟨rfl, rfl⟩ | ⟨rfl, rfl⟩ | ⟨rfl, rfl⟩ | ⟨rfl, rfl⟩ | ⟨rfl, rfl⟩ | ⟨rfl, rfl⟩
    · show g_up x 46 0 nP v 46 0 p = _
      by_cases e : p = nP
      · rw [e, up_s, if_pos rfl]
      · rw [up_j e, if_neg e, hx.1 46 0 p (by omega)]; rfl
    · show g_up (g_up x 46 0 nP a1) 47 0 nP v 47 0 p = _
      by_cases e : p = nP
      · rw [e, up_s, if_pos rfl]
      · rw [up_j e, if_neg e]
        show x 47 0 p = _
        rw [hx.1 47 0 p (by omega)]; rfl
    · show g_up (g_up (g_up x 46 0 nP a1) 47 0 nP a2) 48 0 nP v 48 0 p = _
      by_cases e : p = nP
      · rw [e, up_s, if_pos rfl]
      · rw [up_j e, if_neg e]
        show x 48 0 p = _
        rw [hx.1 48 0 p (by omega)]; rfl
    · show g_up (g_up (g_up (g_up x 46 0 nP a1) 47 0 nP a2) 48 0 nP a3) 49 0 nP v 49 0 p = _
      by_cases e : p = nP
      · rw [e, up_s, if_pos rfl]
      · rw [up_j e, if_neg e]
        show x 49 0 p = _
        rw [hx.1 49 0 p (by omega)]; rfl
    · show g_up (g_up (g_up (g_up (g_up x 46 0 nP a1) 47 0 nP a2) 48 0 nP a3) 49 0 nP a4) 50 0 nP 200 50 0 p = _
      by_cases e : p = nP
      · rw [e, up_s, if_pos rfl]
      · rw [up_j e, if_neg e]
        show x 50 0 p = _
        rw [hx.1 50 0 p (by omega)]; rfl
    · show g_up (g_up (g_up (g_up (g_up (g_up x 46 0 nP a1) 47 0 nP a2) 48 0 nP a3) 49 0 nP a4) 50 0 nP 200) 51 0 nP 0 51 0 p = _
      by_cases e : p = nP
      · rw [e, up_s, if_pos rfl]
      · rw [up_j e, if_neg e]
        show x 51 0 p = _
        rw [hx.1 51 0 p (by omega)]; rfl
    · show g_up (g_up (g_up (g_up (g_up (g_up (g_up x 46 0 nP a1) 47 0 nP a2) 48 0 nP a3) 49 0 nP a4) 50 0 nP 200) 51 0 nP 0) 52 0 nP (-1) 52 0 p = _
      by_cases e : p = nP
      · rw [e, up_s, if_pos rfl]
      · rw [up_j e, if_neg e]
        show x 52 0 p = _
        rw [hx.1 52 0 p (by omega)]; rfl
  have e46 := hM 46 a1 (Or.inl ⟨rfl, rfl⟩)
  have e47 := hM 47 a2 (Or.inr (Or.inl ⟨rfl, rfl⟩))
  have e48 := hM 48 a3 (Or.inr (Or.inr (Or.inl ⟨rfl, rfl⟩)))
  have e49 := hM 49 a4 (Or.inr (Or.inr (Or.inr (Or.inl ⟨rfl, rfl⟩))))
  have e50 := hM 50 200 (Or.inr (Or.inr (Or.inr (Or.inr (Or.inl ⟨rfl, rfl⟩)))))
  have e51 := hM 51 0 (Or.inr (Or.inr (Or.inr (Or.inr (Or.inr (Or.inl ⟨rfl, rfl⟩))))))
  have e52 := hM 52 (-1) (Or.inr (Or.inr (Or.inr (Or.inr (Or.inr (Or.inr ⟨rfl, rfl⟩))))))
  have e24 : ∀ p y, mp8 x nP a1 a2 a3 a4 24 p y = if p = nP then (if y < 200 then -1 else 0) else σ 24 p y := by
    intro p y
    show x 24 p y = _
    rw [hx.1 24 p y (by omega)]
    show xp5 σ nP a1 a2 a3 a4 24 p y = _
    unfold xp5
    by_cases e : p = nP
    · rw [e, row_s, if_pos rfl]
    · rw [row_i e, if_neg e]
      show g_row (g_row σ 105 nP (g_z 5)) 24 nP (fun _ => 0) 24 p y = _
      rw [row_i e]; rfl
  have e58 := hK 58 rfl
  have e59 := hK 59 rfl
  have e60 := hK 60 rfl
  refine ⟨?_, ?_, K_off (hK 44 rfl) (hK 45 rfl) (hK 3 rfl) h3, ?_, ?_, K_lawM (hK 53 rfl) (hK 54 rfl) (hK 55 rfl) (hK 56 rfl) ‹J_lawM nO nL σ›, K_lawX (hK 2 rfl) (hK 53 rfl) (hK 54 rfl) (hK 55 rfl) (hK 56 rfl) (hK 57 rfl) h7, ?_, ?_, K_code (hK 23 rfl) e58 e59 h10, ?_, K_num (h6 6 (by decide)) (h6 7 (by decide)) e58 e59 h12, K_el (by rw [hK 0 rfl]) (by rw [hK 0 rfl]) (by rw [hK 0 rfl]) (h9 29 (by decide)) (h9 30 (by decide)) (hK 12 rfl) (hK 71 rfl) h13, K_sh (hK 7 rfl) (hK 28 rfl) (hK 29 rfl) (hK 80 rfl) (hK 81 rfl) (hK 82 rfl) (hK 83 rfl) h14, ?_⟩
  · refine ⟨⟨hO, by omega, hL⟩, ⟨(h9 1 (by decide)).trans m1, rfl, (h9 3 (by decide)).trans m3⟩, ⟨(h6 3 (by decide)).trans x1, ?_, (h6 5 (by decide)).trans x3⟩⟩
    show x 6 0 4 = _
    rw [hx.1 6 0 4 (by omega)]; rfl
  · refine ⟨?_, fun j hj => ?_, ?_, ?_⟩
    · rw [hK 25 rfl]; exact h2.1
    · show x 26 0 j = 0
      rw [hx.1 26 0 j (by omega)]
      show g_up (g_row (xp5 σ nP a1 a2 a3 a4) 5 nP (xp5 σ nP a1 a2 a3 a4 105 nP)) 26 0 nP 0 26 0 j = 0
      by_cases e : j = nP
      · rw [e, up_s]
      · rw [up_j e]
        exact h2.2.1 j (by omega)
    · rw [hK 27 rfl]; exact h2.2.2.1
    · rw [hK 30 rfl]; exact h2.2.2.2
  · intro p hp
    rw [h5j p 0 (by decide), h5j p 1 (by decide), h5j p 3 (by decide), h5j p 4 (by decide), h5j p 5 (by decide), h5j p 6 (by decide), h5j p 7 (by decide), e46, e47, e48, e49, e50, e51, e52]
    by_cases e : p = nP
    · simp only [if_pos e]
      refine ⟨?_, ?_, ?_, ?_, ?_, ?_, ?_⟩ <;> simp [xp5, g_up, g_row]
    · simp only [if_neg e]
      exact h4 p (by omega)
  · have hfa : ∀ q, q < nP → ¬ σ 49 0 q = nI nP := by
      intro q hq e
      rcases h5.1 q hq with e1 | ⟨f, hf, e1⟩
      · rw [e1] at e
        exact absurd e.symm (by rw [z_eqm1 (by omega)]; exact id)
      · rw [e1] at e
        have := (z_eq (by omega) (by omega)).mp e
        omega
    have ha4n : ¬ a4 = nI nP := by
      rcases ha4 with e | ⟨f, hf, e⟩
      · rw [e]; exact fun h => absurd h.symm (by rw [z_eqm1 (by omega)]; exact id)
      · rw [e]; exact fun h => absurd ((z_eq (by omega) (by omega)).mp h) (by omega)
    have h58 : ∀ i q, q < 32 → bt (mp8 x nP a1 a2 a3 a4 5 i 8) q = (bt (if i = nP then 0 else σ 5 i 8) q || ((decide (i = nP) && T q) || (decide (q = nP) && T i))) := by
      intro i q hq
      show bt (x 5 i 8) q = _
      rw [hx.2 i q hq]
      congr 2
      show g_row (xp5 σ nP a1 a2 a3 a4) 5 nP (xp5 σ nP a1 a2 a3 a4 105 nP) 5 i 8 = _
      by_cases e : i = nP
      · rw [e, row_s, if_pos rfl]
        simp [xp5, g_up, g_row]
      · rw [row_i e, if_neg e]; rfl
    refine ⟨fun p hp => ?_, fun p hp q hq => ?_⟩
    · rw [e49]
      by_cases e : p = nP
      · rw [if_pos e, e]; exact ha4
      · rw [if_neg e]; exact h5.1 p (by omega)
    · rw [h58 p q hq]
      unfold kinP
      rw [e49, e49]
      by_cases e : p = nP
      · subst e
        rw [if_pos rfl, if_pos rfl, b_0]
        by_cases e' : q = p
        · subst e'
          have := hT0 q (Nat.le_refl _)
          simp [this]
        · rw [if_neg e']
          by_cases hqn : q < p
          · have ht := hT q hqn
            have hf := hfa q hqn
            have hpn : ¬ p = q := fun h => e' h.symm
            constructor
            · intro hh
              have : T q = true := by simpa [e'] using hh
              exact ⟨by omega, e', (ht.mp this).elim (fun h => Or.inl h) (fun h => Or.inr (Or.inr h))⟩
            · rintro ⟨-, -, hh⟩
              have : T q = true := by
                rcases hh with hh | hh | hh
                · exact ht.mpr (Or.inl hh)
                · exact absurd hh hf
                · exact ht.mpr (Or.inr hh)
              simp [this]
          · have := hT0 q (by omega)
            constructor
            · intro hh
              simp [this, e'] at hh
            · rintro ⟨h1, h2, -⟩
              omega
      · rw [if_neg e, if_neg e]
        have hold := h5.2 p (by omega) q hq
        unfold kinP at hold
        by_cases e' : q = nP
        · subst e'
          rw [if_pos rfl]
          have hb : bt (σ 5 p 8) q = false := by
            cases hb : bt (σ 5 p 8) q
            · rfl
            · have := (hold.mp hb).1; omega
          have ht := hT p (by omega)
          have hf := hfa p (by omega)
          rw [hb]
          constructor
          · intro hh
            have : T p = true := by simpa [e] using hh
            refine ⟨by omega, fun h => e h.symm, ?_⟩
            rcases ht.mp this with h | ⟨h1, h2⟩
            · exact Or.inr (Or.inl h)
            · exact Or.inr (Or.inr ⟨h2 ▸ h1, h2.symm⟩)
          · rintro ⟨-, -, hh⟩
            have : T p = true := by
              rcases hh with hh | hh | ⟨h1, h2⟩
              · exact absurd hh hf
              · exact ht.mpr (Or.inl hh)
              · exact ht.mpr (Or.inr ⟨h2 ▸ h1, h2.symm⟩)
            simp [this]
        · rw [if_neg e']
          have : (bt (σ 5 p 8) q || ((decide (p = nP) && T q) || (decide (q = nP) && T p))) = bt (σ 5 p 8) q := by simp [e, e']
          rw [this, hold]
          constructor
          · rintro ⟨b1, b2, b3⟩
            exact ⟨by omega, b2, b3⟩
          · rintro ⟨b1, b2, b3⟩
            exact ⟨by omega, b2, b3⟩
  · intro o y t ho hy ht
    rw [e58, e59, e60]
    rcases h8 o y t ho hy ht with e | ⟨b1, b2, p, hp, b3⟩
    · exact Or.inl e
    · exact Or.inr ⟨b1, b2, p, by omega, b3⟩
  · intro p y hp hy
    rw [e58, e60]
    rcases ‹J_place nO nP S σ› p y hp hy with e | ⟨b1, b2⟩
    · exact Or.inl e
    · exact Or.inr ⟨by omega, b2⟩
  · intro p y hp hy
    rw [e59, e60, e24]
    by_cases e : p = nP
    · rw [if_pos e, if_pos hy]
      rcases ‹J_place nO nP S σ› p y (by omega) hy with e1 | ⟨b1, -⟩
      · rw [e1]; rfl
      · omega
    · rw [if_neg e]
      exact h11 p y (by omega) hy
  · obtain ⟨⟨l8, l9⟩, lO, lP, lL, lT⟩ := id h15
    refine ⟨⟨List.mem_append_left _ l8, List.mem_append_left _ l9⟩, ?_, ?_, ?_, ?_⟩
    · intro i hi
      refine lO i ?_
      simp only [List.mem_append, List.mem_cons, Prod.mk.injEq, List.not_mem_nil, or_false] at hi
      rcases hi with (hi | hi) | (hi | hi) | (hi | hi)
      · exact Or.inl hi
      · omega
      · exact Or.inr (Or.inl hi)
      · omega
      · exact Or.inr (Or.inr hi)
      · omega
    · intro i hi
      have : ((5, i) ∈ L ∨ (24, i) ∈ L ∨ (105, i) ∈ L) ∨ i = nP := by
        simp only [List.mem_append, List.mem_cons, Prod.mk.injEq, List.not_mem_nil, or_false] at hi
        rcases hi with (hi | hi) | (hi | hi) | (hi | hi)
        · exact Or.inl (Or.inl hi)
        · exact Or.inr (by omega)
        · exact Or.inl (Or.inr (Or.inl hi))
        · exact Or.inr (by omega)
        · exact Or.inl (Or.inr (Or.inr hi))
        · omega
      rcases this with e | e
      · have := lP i e; omega
      · omega
    · intro i hi
      refine lL i ?_
      simp only [List.mem_append, List.mem_cons, Prod.mk.injEq, List.not_mem_nil, or_false] at hi
      rcases hi with (hi | hi) | (hi | hi)
      · exact Or.inl hi
      · omega
      · exact Or.inr hi
      · omega
    · intro K i hi
      simp only [List.mem_append, List.mem_cons, Prod.mk.injEq, List.not_mem_nil, or_false] at hi
      rcases hi with hi | hi | hi
      · exact lT K i hi
      · exact Or.inl (by omega)
      · rw [hi.1]; exact Or.inr (by decide)
theorem ord_ok {ad : gA} {σ : gS} (a : Int32) : (f_X8_isOrder ad σ a = some 0 ∧ ∀ σ', f_X9_in ad σ' a 0 1 = some 0) ∨ (f_X8_isOrder ad σ a = some 1 ∧ ∀ σ', f_X9_in ad σ' a 0 1 = some 1) := by
  unfold f_X9_in f_X8_isOrder
  rcases z_cases a (n := 2) (by omega) with (e | e) | ⟨j, hj, e⟩
  · refine Or.inl ⟨?_, fun σ' => by rw [if_pos e]⟩
    rw [if_neg (fun h => by rw [h] at e; exact absurd e (by decide)), if_neg (fun h => by rw [h] at e; exact absurd e (by decide))]
  · have h0 : ¬ a < 0 := z_nI_le (by omega) e
    have e1 : (1 : Int32) < a := Int32.lt_of_lt_of_le (by decide : (1 : Int32) < nI 2) e
    refine Or.inl ⟨?_, fun σ' => by rw [if_neg h0, if_pos e1]⟩
    rw [if_neg (fun h => by rw [h] at e1; exact absurd e1 (by decide)), if_neg (fun h => by rw [h] at e1; exact absurd e1 (by decide))]
  · right
    rcases (show j = 0 ∨ j = 1 by omega) with h | h <;> subst h <;> rw [e]
    · exact ⟨rfl, fun _ => rfl⟩
    · exact ⟨rfl, fun _ => rfl⟩
theorem ok_person : sim_person gI := by
  intro L ad σ h ⟨nO, nP, nL, S, hJ⟩ a1 a2 a3 a4
  obtain ⟨h1, h2, h3, h4, h5, h6, h7, h8, h9, h10, h11, h12, h13, h14, h15⟩ := id hJ
  obtain ⟨⟨hO, hP, hL⟩, ⟨m1, m2, m3⟩, ⟨x1, x2, x3⟩⟩ := id h1
  obtain ⟨⟨l8, l9⟩, lO, lP, lL, lT⟩ := id h15
  have n105 : (105, nP) ∉ L := fun hh => absurd (lP nP (Or.inr (Or.inr hh))) (by omega)
  have n24 : (24, nP) ∉ L := fun hh => absurd (lP nP (Or.inr (Or.inl hh))) (by omega)
  have n5 : (5, nP) ∉ L := fun hh => absurd (lP nP (Or.inl hh)) (by omega)
  have a0 : ∀ K i, (K, i) ∈ L → adN ad nP h 0 105 5 24 K i = ad K i := by
    intro K i hm
    unfold adN
    by_cases e : i = nP
    · subst e
      rw [if_pos rfl, if_neg (show ¬ K = 105 from fun e => n105 (e ▸ hm)), if_neg (show ¬ K = 5 from fun e => n5 (e ▸ hm)), if_neg (show ¬ K = 24 from fun e => n24 (e ▸ hm)), if_neg (show ¬ (K = 33 ∧ 24 = 23) from fun e => absurd e.2 (by decide))]
    · rw [if_neg e]
  have a33 : ∀ i, adN ad nP h 0 105 5 24 33 i = ad 33 i := fun i => by
    unfold adN
    by_cases e : i = nP
    · rw [if_pos e]; rfl
    · rw [if_neg e]
  have hfr : adN ad nP h 0 105 5 24 105 nP = h + 0 ∧ adN ad nP h 0 105 5 24 24 nP = h + 1 ∧ (105, nP) ∉ L ∧ (24, nP) ∉ L ∧ (5, nP) ∉ L ∧ adN ad nP h 0 105 5 24 5 nP = adN ad nP h 0 105 5 24 105 nP := by
    refine ⟨?_, ?_, n105, n24, n5, ?_⟩ <;> simp [adN]
  have hJ' : gJ nO nP nL S L (adN ad nP h 0 105 5 24) σ := gJ_ad (fun o ho => a33 o) hJ
  refine ⟨adN ad nP h 0 105 5 24, nP, ?_⟩
  revert hJ' hfr a33 a0
  generalize adN ad nP h 0 105 5 24 = ad'
  intro a0 a33 hfr hJ'
  have no : ∀ r, f_X8_person ad' σ a1 a2 a3 a4 L nP = some (r, L, σ) → f_X9_person ad' σ a1 a2 a3 a4 = some (r, σ) → ∃ (r : Int32) (L1 : gL) (σ1 σ2 : gS), (∀ K i, (K, i) ∈ L → ad' K i = ad K i) ∧ (∀ i, (23, i) ∈ L → ad' 33 i = ad 33 i) ∧ (ad' 105 nP = h + 0 ∧ ad' 24 nP = h + 1 ∧ (105, nP) ∉ L ∧ (24, nP) ∉ L ∧ (5, nP) ∉ L ∧ ad' 5 nP = ad' 105 nP) ∧ f_X8_person ad' σ a1 a2 a3 a4 L nP = some (r, L1, σ1) ∧ f_X9_person ad' σ1 a1 a2 a3 a4 = some (r, σ2) ∧ gI L1 ad' σ2 :=
    fun r e1 e2 => ⟨r, L, σ, σ, a0, fun i _ => a33 i, hfr, e1, e2, nO, nP, nL, S, hJ'⟩
  rcases ord_ok (ad := ad') (σ := σ) a1 with ⟨o1, o2⟩ | ⟨o1, o2⟩
  · exact no (-1) (by unfold f_X8_person; rw [o1, Option.bind_some, i00]) (by unfold f_X9_person; rw [o2, Option.bind_some, i00])
  rcases z_birth a2 a3 with hb | hb
  · exact no (-1) (by unfold f_X8_person; rw [o1, Option.bind_some, i10, (hb _ _).1, Option.bind_some, i00]) (by unfold f_X9_person; rw [o2, Option.bind_some, i10, (hb _ _).2, Option.bind_some, i00])
  -- the father
  have hfa : (¬ a4 = -1 ∧ f_X6_hasPerson ad' σ a4 = some 0 ∧ f_X9_in ad' σ a4 (-1) (σ 9 0 2 - 1) = some 0) ∨ ((∀ σ', σ' 9 0 2 = nI nP → f_X9_in ad' σ' a4 (-1) (σ' 9 0 2 - 1) = some 1) ∧ (a4 = -1 ∨ (¬ a4 = -1 ∧ f_X6_hasPerson ad' σ a4 = some 1 ∧ ∃ f, f < nP ∧ a4 = nI f))) := by
    by_cases c : a4 = -1
    · exact Or.inr ⟨fun σ' e => by rw [e, c]; exact m_inm (by omega), Or.inl c⟩
    · rcases z_cases a4 (n := nP) (by omega) with hh | ⟨f, hf, e⟩
      · exact Or.inl ⟨c, x_per0 x2 hh, by rw [m2]; exact m_inm0 (by omega) c hh⟩
      · subst e
        exact Or.inr ⟨fun σ' e => by rw [e]; exact m_inm1 (by omega) hf, Or.inr ⟨c, x_per1 (by omega) x2 hf, f, hf, rfl⟩⟩
  rcases hfa with ⟨f0, f1, f2⟩ | ⟨fm, fx⟩
  · exact no (-1) (by unfold f_X8_person; rw [o1, Option.bind_some, i10, (hb _ _).1, Option.bind_some, i10, if_neg f0, f1, Option.bind_some, i00]) (by unfold f_X9_person; rw [o2, Option.bind_some, i10, (hb _ _).2, Option.bind_some, i10, f2, Option.bind_some, i00])
  have hM : ∀ σ', σ' 9 0 2 = nI nP → f_X9_person ad' σ' a1 a2 a3 a4 = if nI nP = 24 then some (-2, σ') else some (nI nP, mp8 σ' nP a1 a2 a3 a4) := by
    intro σ' h'
    unfold f_X9_person
    rw [o2, Option.bind_some, i10, (hb _ _).2, Option.bind_some, i10, fm σ' h', Option.bind_some, i10, h']
    by_cases c : nI nP = 24
    · rw [if_pos c, if_pos c]
    · rw [if_neg c, if_neg c]
      have hn24 : nP < 24 := by
        rcases Nat.lt_or_ge nP 24 with e | e
        · exact e
        · have : nP = 24 := by omega
          rw [this] at c
          exact absurd rfl c
      have pp := (z_ix (n := 24) (show nP < 2147483648 by omega)).mpr hn24
      have q : ∀ σ' : gS, σ' 9 0 2 = nI nP → ∀ K j v, K ≠ 9 → g_up σ' K 0 j v 9 0 2 = nI nP := fun σ' h K j v hK => by
        rw [up_K (fun e => hK e.symm)]; exact h
      have q1 := q _ h' 46 nP a1 (by decide)
      have q2 := q _ q1 47 nP a2 (by decide)
      have q3 := q _ q2 48 nP a3 (by decide)
      have q4 := q _ q3 49 nP a4 (by decide)
      have q5 := q _ q4 50 nP 200 (by decide)
      have q6 := q _ q5 51 nP 0 (by decide)
      have q7 := q _ q6 52 nP (-1) (by decide)
      rw [if_pos pp, z_clamp (by omega), g_let_eq, q1, if_pos pp, z_clamp (by omega), g_let_eq, q2, if_pos pp, z_clamp (by omega), g_let_eq, q3, if_pos pp, z_clamp (by omega), g_let_eq, q4, if_pos pp, z_clamp (by omega), g_let_eq, q5, if_pos pp, z_clamp (by omega), g_let_eq, q6, if_pos pp, z_clamp (by omega), g_let_eq, q7, g_let_eq, up_s, nI_1, nI_pred]
      rfl
  have hX : f_X8_person ad' σ a1 a2 a3 a4 L nP = if σ 6 0 4 < 24 then (f_X6_addPerson ad' (g_row (xp5 σ nP a1 a2 a3 a4) 5 nP (xp5 σ nP a1 a2 a3 a4 105 nP)) nP).bind fun q9 => some (q9.1, L ++ [(5, nP), (24, nP)], q9.2) else some (-2, L, σ) := by
    have hx5 : ¬ xp5 σ nP a1 a2 a3 a4 105 nP 2 < 0 := by
      rw [show xp5 σ nP a1 a2 a3 a4 105 nP 2 = 0 by simp [xp5, g_up, g_row]]
      decide
    unfold f_X8_person
    rw [o1, Option.bind_some, i10, (hb _ _).1, Option.bind_some, i10]
    rcases fx with c | ⟨c, c1, -⟩
    · rw [if_pos c, g_let_eq, x_initP, Option.bind_some, if_pos (as5 hx5), g_let_eq]
    · rw [if_neg c, c1, Option.bind_some, i10, g_let_eq, x_initP, Option.bind_some, if_pos (as5 hx5), g_let_eq]
  by_cases c24 : nP = 24
  · refine no (-2) ?_ ?_
    · rw [hX, x2, if_neg (by rw [c24]; decide)]
    · rw [hM σ m2, if_pos (by rw [c24]; rfl)]
  have pp := (z_ix (n := 24) (show nP < 2147483648 by omega)).mpr (by omega)
  have hadd : f_X6_addPerson ad' (g_row (xp5 σ nP a1 a2 a3 a4) 5 nP (xp5 σ nP a1 a2 a3 a4 105 nP)) nP = if a4 = -1 then some (nI nP, xp7 σ nP a1 a2 a3 a4) else ((f_X6_tie ad' (xp7 σ nP a1 a2 a3 a4) (nI nP) a4).bind fun σ6 => f_X6_addPerson_L41 ad' nP f_X6_addPerson_P74 g_fuel σ6 (nI nP) 0) := by
    have e51 : xp7 σ nP a1 a2 a3 a4 5 nP 1 = a4 := by
      show g_row (xp5 σ nP a1 a2 a3 a4) 5 nP (xp5 σ nP a1 a2 a3 a4 105 nP) 5 nP 1 = a4
      rw [row_s]
      simp [xp5, g_up, g_row]
    unfold f_X6_addPerson
    rw [show g_row (xp5 σ nP a1 a2 a3 a4) 5 nP (xp5 σ nP a1 a2 a3 a4 105 nP) 6 0 4 = nI nP from x2, if_pos pp, if_pos (z_clamp (by omega)), g_let_eq, g_let_eq]
    rw [show g_up (g_row (xp5 σ nP a1 a2 a3 a4) 5 nP (xp5 σ nP a1 a2 a3 a4 105 nP)) 26 0 nP 0 6 0 4 = nI nP from x2, nI_1]
    rw [show g_up (g_up (g_row (xp5 σ nP a1 a2 a3 a4) 5 nP (xp5 σ nP a1 a2 a3 a4 105 nP)) 26 0 nP 0) 6 0 4 (nI (nP + 1)) = xp7 σ nP a1 a2 a3 a4 from rfl, e51]
    unfold f_X6_addPerson_P74
    rfl
  have key : ∃ (T : Nat → Bool) (x : gS), f_X6_addPerson ad' (g_row (xp5 σ nP a1 a2 a3 a4) 5 nP (xp5 σ nP a1 a2 a3 a4 105 nP)) nP = some (nI nP, x) ∧ (a4 = -1 ∨ ∃ f, f < nP ∧ a4 = nI f) ∧ (∀ q, q < nP → (T q = true ↔ (a4 = nI q ∨ (¬ a4 < 0 ∧ a4 = σ 49 0 q)))) ∧ (∀ q, nP ≤ q → T q = false) ∧ TIE nP T (xp7 σ nP a1 a2 a3 a4) x := by
    rw [hadd]
    rcases fx with c | ⟨c, -, f, hf, e⟩
    · refine ⟨fun _ => false, xp7 σ nP a1 a2 a3 a4, if_pos c, Or.inl c, fun q hq => ?_, fun _ _ => rfl, TIE_nil _ _⟩
      rw [c]
      constructor
      · intro hh; cases hh
      · rintro (hh | ⟨hh, -⟩)
        · exact absurd hh.symm (by rw [z_eqm1 (by omega)]; exact id)
        · exact absurd (by decide) hh
    · subst e
      rw [if_neg c]
      have e26 : ∀ j, j ≤ nP → xp7 σ nP a1 a2 a3 (nI f) 26 0 j = 0 := by
        intro j hj
        show g_up (g_row (xp5 σ nP a1 a2 a3 (nI f)) 5 nP (xp5 σ nP a1 a2 a3 (nI f) 105 nP)) 26 0 nP 0 26 0 j = 0
        by_cases e : j = nP
        · rw [e, up_s]
        · rw [up_j e]
          exact h2.2.1 j (by omega)
      have e5n : xp7 σ nP a1 a2 a3 (nI f) 5 nP 1 = nI f := by
        show g_row (xp5 σ nP a1 a2 a3 (nI f)) 5 nP (xp5 σ nP a1 a2 a3 (nI f) 105 nP) 5 nP 1 = nI f
        rw [row_s]
        simp [xp5, g_up, g_row]
      have e5q : ∀ q, q < nP → xp7 σ nP a1 a2 a3 (nI f) 5 q 1 = σ 49 0 q := by
        intro q hq
        show g_row (xp5 σ nP a1 a2 a3 (nI f)) 5 nP (xp5 σ nP a1 a2 a3 (nI f) 105 nP) 5 q 1 = _
        rw [row_i (by omega)]
        exact (h4 q hq).2.1
      obtain ⟨y, y1, y2⟩ := x_tie (ad := ad') (show nP < 24 by omega) hf (e26 nP (by omega)) (e26 f (by omega)) (TIE_nil nP (xp7 σ nP a1 a2 a3 (nI f)))
      obtain ⟨z, z1, z2⟩ := x_tieL (ad := ad') (show nP < 24 by omega) hf e26 nP g_fuel 0 y (by unfold g_fuel; omega) (by omega) (TIE_congr y2 fun q => by simp)
      rw [nI_0] at z1
      refine ⟨_, z, by rw [y1, Option.bind_some, z1], Or.inr ⟨f, hf, rfl⟩, fun q hq => ?_, fun q hq => ?_, z2⟩
      · have e1 := e5q q hq
        have hzf : ¬ nI f < 0 := nI_pos (by omega)
        rw [Bool.or_eq_true, Bool.and_eq_true, decide_eq_true_eq, decide_eq_true_eq, decide_eq_true_eq, e1, e5n]
        constructor
        · rintro (hh | ⟨-, hh⟩)
          · exact Or.inl (by rw [hh])
          · exact Or.inr ⟨hzf, hh.symm⟩
        · rintro (hh | ⟨-, hh⟩)
          · exact Or.inl ((z_eq (by omega) (by omega)).mp hh).symm
          · exact Or.inr ⟨hq, hh.symm⟩
      · have h1 : ¬ q = f := by omega
        have h2 : ¬ q < nP := by omega
        simp [h1, h2]
  obtain ⟨T, x, k1, k2, k3, k4, k5⟩ := key
  have e92 : x 9 0 2 = nI nP := (k5.1 9 0 2 (by omega)).trans m2
  refine ⟨nI nP, L ++ [(5, nP), (24, nP)], x, mp8 x nP a1 a2 a3 a4, a0, fun i _ => a33 i, hfr, ?_, ?_, nO, nP + 1, nL, S, J_person hJ' (by omega) k2 k3 k4 k5⟩
  · rw [hX, x2, if_pos (show nI nP < (24 : Int32) from nI_lt (b := 24) (by omega) (by omega)), k1, Option.bind_some]
  · rw [hM x e92, if_neg (show ¬ nI nP = 24 from fun e => by have := (z_eq (by omega) (by omega)).mp (show nI nP = nI 24 from e); omega)]
