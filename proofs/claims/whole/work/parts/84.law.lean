/-! PURE: a law comes -/
def xl6 (σ : gS) (n : Nat) (k o a2 a3 a4 : Int32) : gS := g_up (g_up (g_up (g_up (g_up (g_up (g_row σ 102 n (g_z 2)) 102 n 0 (nI n)) 102 n 1 k) 102 n 2 o) 102 n 3 a2) 102 n 4 a3) 102 n 5 a4
def xl8 (σ : gS) (n : Nat) (k o a2 a3 a4 : Int32) : gS := g_up (g_up (g_row (xl6 σ n k o a2 a3 a4) 2 n (xl6 σ n k o a2 a3 a4 102 n)) 27 0 n 0) 6 0 5 (nI (n + 1))
def ml6 (σ : gS) (n : Nat) (k o a2 a3 a4 : Int32) : gS := g_up (g_up (g_up (g_up (g_up (g_up σ 53 0 n k) 54 0 n o) 55 0 n a2) 56 0 n a3) 57 0 n a4) 9 0 3 (nI (n + 1))
theorem J_law {nO nP nL : Nat} {S : Nat → Nat} {L : gL} {ad : gA} {σ : gS} (hJ : gJ nO nP nL S L ad σ) {k f : Nat} {o a2 a4 : Int32} (hl20 : nL < 20) (hk : k ≤ 5) (ho : o = -1 ∨ ∃ o', o' < nO ∧ o = nI o') (hn : ∃ n : Nat, (k = 1 → n < 8 ∧ a2 = nI n) ∧ (k = 2 ∨ k = 3 → 1 ≤ n ∧ n ≤ 99 ∧ a2 = nI n)) (hf : f < 200) : gJ nO nP (nL + 1) S (L ++ [(2, nL)]) ad (ml6 (xl8 σ nL (nI k) o a2 (nI f) a4) nL (nI k) o a2 (nI f) a4) := by
  obtain ⟨h1, h2, h3, h4, h5, h6, h7, h8, h9, h10, h11, h12, h13, h14, h15⟩ := id hJ
  obtain ⟨⟨hO, hP, hL⟩, ⟨m1, m2, m3⟩, ⟨x1, x2, x3⟩⟩ := id h1
  refine ⟨?_, ?_, K_off rfl rfl rfl h3, K_per rfl rfl rfl rfl rfl rfl rfl rfl h4, K_kin (σ := σ) (fun q => rfl) rfl h5, ?_, ?_, K_seat rfl rfl rfl h8, K_place rfl rfl h9, K_code rfl rfl rfl h10, K_post rfl rfl rfl h11, K_num rfl rfl rfl rfl h12, K_el rfl rfl rfl rfl rfl rfl rfl h13, ?_, ?_⟩
  · exact ⟨⟨hO, hP, by omega⟩, ⟨m1, m2, rfl⟩, ⟨x1, x2, rfl⟩⟩
  · refine ⟨h2.1, h2.2.1, fun j hj => ?_, h2.2.2.2⟩
    show g_up (g_row (xl6 σ nL (nI k) o a2 (nI f) a4) 2 nL (xl6 σ nL (nI k) o a2 (nI f) a4 102 nL)) 27 0 nL 0 27 0 j = 0
    by_cases e : j = nL
    · rw [e, up_s]
    · rw [up_j e]
      exact h2.2.2.1 j (by omega)
  · intro l hl
    by_cases e : l = nL
    · subst e
      obtain ⟨n, hn1, hn2⟩ := hn
      have e53 : ml6 (xl8 σ l (nI k) o a2 (nI f) a4) l (nI k) o a2 (nI f) a4 53 0 l = nI k := by simp [ml6, g_up]
      have e54 : ml6 (xl8 σ l (nI k) o a2 (nI f) a4) l (nI k) o a2 (nI f) a4 54 0 l = o := by simp [ml6, g_up]
      have e55 : ml6 (xl8 σ l (nI k) o a2 (nI f) a4) l (nI k) o a2 (nI f) a4 55 0 l = a2 := by simp [ml6, g_up]
      have e56 : ml6 (xl8 σ l (nI k) o a2 (nI f) a4) l (nI k) o a2 (nI f) a4 56 0 l = nI f := by simp [ml6, g_up]
      refine ⟨k, n, f, hk, e53, ?_, ?_, ?_, hf, e56⟩
      · rw [e54]; exact ho
      · rw [e55]; exact hn1
      · rw [e55]; exact hn2
    · have e53 : ml6 (xl8 σ nL (nI k) o a2 (nI f) a4) nL (nI k) o a2 (nI f) a4 53 0 l = σ 53 0 l := by
        show g_up (xl8 σ nL (nI k) o a2 (nI f) a4) 53 0 nL (nI k) 53 0 l = _
        rw [up_j e]; rfl
      have e54 : ml6 (xl8 σ nL (nI k) o a2 (nI f) a4) nL (nI k) o a2 (nI f) a4 54 0 l = σ 54 0 l := by
        show g_up _ 54 0 nL o 54 0 l = _
        rw [up_j e]; rfl
      have e55 : ml6 (xl8 σ nL (nI k) o a2 (nI f) a4) nL (nI k) o a2 (nI f) a4 55 0 l = σ 55 0 l := by
        show g_up _ 55 0 nL a2 55 0 l = _
        rw [up_j e]; rfl
      have e56 : ml6 (xl8 σ nL (nI k) o a2 (nI f) a4) nL (nI k) o a2 (nI f) a4 56 0 l = σ 56 0 l := by
        show g_up _ 56 0 nL (nI f) 56 0 l = _
        rw [up_j e]; rfl
      rw [e53, e54, e55, e56]
      exact h6 l (by omega)
  · intro l hl
    by_cases e : l = nL
    · subst e
      refine ⟨?_, ?_, ?_, ?_, ?_, ?_⟩ <;> simp [ml6, xl8, xl6, g_up, g_row]
    · have q2 : ml6 (xl8 σ nL (nI k) o a2 (nI f) a4) nL (nI k) o a2 (nI f) a4 2 l = σ 2 l := by
        show g_row (xl6 σ nL (nI k) o a2 (nI f) a4) 2 nL _ 2 l = _
        rw [row_i e]; rfl
      have hx := h7 l (by omega)
      rw [q2]
      refine ⟨hx.1, hx.2.1.trans ?_, hx.2.2.1.trans ?_, hx.2.2.2.1.trans ?_, hx.2.2.2.2.1.trans ?_, hx.2.2.2.2.2.trans ?_⟩ <;> simp [ml6, xl8, xl6, g_up, g_row, e]
  · refine ⟨fun d hd => ?_, h14.2⟩
    obtain ⟨a, b⟩ := h14.1 d hd
    refine ⟨a, ?_⟩
    rcases b with b | ⟨b1, l, hl, b2⟩ | b | b
    · exact Or.inl b
    · exact Or.inr (Or.inl ⟨b1, l, by omega, b2⟩)
    · exact Or.inr (Or.inr (Or.inl b))
    · exact Or.inr (Or.inr (Or.inr b))
  · obtain ⟨⟨l8, l9⟩, lO, lP, lL, lT⟩ := id h15
    refine ⟨⟨List.mem_append_left _ l8, List.mem_append_left _ l9⟩, ?_, ?_, ?_, ?_⟩
    · intro i hi
      refine lO i ?_
      simp only [List.mem_append, List.mem_cons, Prod.mk.injEq, List.not_mem_nil, or_false] at hi
      rcases hi with (hi | hi) | (hi | hi) | (hi | hi)
      · exact Or.inl hi
      · omega
      · exact Or.inr (Or.inl hi)
      · omega
      · exact Or.inr (Or.inr hi)
      · omega
    · intro i hi
      refine lP i ?_
      simp only [List.mem_append, List.mem_cons, Prod.mk.injEq, List.not_mem_nil, or_false] at hi
      rcases hi with (hi | hi) | (hi | hi) | (hi | hi)
      · exact Or.inl hi
      · omega
      · exact Or.inr (Or.inl hi)
      · omega
      · exact Or.inr (Or.inr hi)
      · omega
    · intro i hi
      have : ((2, i) ∈ L ∨ (102, i) ∈ L) ∨ i = nL := by
        simp only [List.mem_append, List.mem_cons, Prod.mk.injEq, List.not_mem_nil, or_false] at hi
        rcases hi with (hi | hi) | (hi | hi)
        · exact Or.inl (Or.inl hi)
        · exact Or.inr (by omega)
        · exact Or.inl (Or.inr hi)
        · omega
      rcases this with e | e
      · have := lL i e; omega
      · omega
    · intro K i hi
      simp only [List.mem_append, List.mem_cons, Prod.mk.injEq, List.not_mem_nil, or_false] at hi
      rcases hi with hi | hi
      · exact lT K i hi
      · exact Or.inl (by omega)
/-- both sides ask alike for a law's number -/
theorem num_ok {nO nP nL : Nat} {S : Nat → Nat} {L : gL} {ad : gA} {σ : gS} (hJ : gJ nO nP nL S L ad σ) {k : Nat} (hk : k ≤ 5) (a2 a3 a4 v6 : Int32) :
    (f_X6_isNumberOf ad σ (nI k) a2 = some 0 ∧ ∀ σ', σ' 9 0 1 = nI nO → f_X9_law_P77 ad a2 a3 a4 σ' (nI k) v6 1 = f_X9_law_P160 a2 a3 a4 σ' (nI k) v6 0) ∨
    (f_X6_isNumberOf ad σ (nI k) a2 = some 1 ∧ (∀ σ', σ' 9 0 1 = nI nO → f_X9_law_P77 ad a2 a3 a4 σ' (nI k) v6 1 = f_X9_law_P160 a2 a3 a4 σ' (nI k) v6 1) ∧ ∃ n : Nat, (k = 1 → n < 8 ∧ a2 = nI n) ∧ (k = 2 ∨ k = 3 → 1 ≤ n ∧ n ≤ 99 ∧ a2 = nI n)) := by
  obtain ⟨h1, h2, h3, h4, h5, h6, h7, h8, h9, h10, h11, h12, h13, h14, h15⟩ := id hJ
  obtain ⟨⟨hO, hP, hL⟩, ⟨m1, m2, m3⟩, ⟨x1, x2, x3⟩⟩ := id h1
  unfold f_X6_isNumberOf f_X9_law_P77 f_X9_law_P126 f_X9_law_P153 f_X9_law_P158
  have t99 : (99 : Int32) < a2 ↔ nI 100 ≤ a2 := by
    rw [Int32.le_iff_toInt_le, Int32.lt_iff_toInt_lt]
    show (99 : Int) < a2.toInt ↔ (100 : Int) ≤ a2.toInt
    omega
  rcases (show k = 0 ∨ k = 1 ∨ k = 2 ∨ k = 3 ∨ k = 4 ∨ k = 5 by omega) with e | e | e | e | e | e <;> subst e
  · rw [if_pos (show nI 0 = 0 from rfl)]
    by_cases c1 : a2 < 0
    · refine Or.inl ⟨by rw [if_pos c1], fun σ' h' => ?_⟩
      rw [i10, if_pos (show nI 0 = 0 from rfl)]
      unfold f_X9_in
      rw [if_pos c1]; rfl
    by_cases c2 : (99 : Int32) < a2
    · refine Or.inl ⟨by rw [if_neg c1, if_pos c2], fun σ' h' => ?_⟩
      rw [i10, if_pos (show nI 0 = 0 from rfl)]
      unfold f_X9_in
      rw [if_neg c1, if_pos c2]; rfl
    · refine Or.inr ⟨by rw [if_neg c1, if_neg c2], fun σ' h' => ?_, 0, fun h => absurd h (by omega), fun h => absurd h (by omega)⟩
      rw [i10, if_pos (show nI 0 = 0 from rfl)]
      unfold f_X9_in
      rw [if_neg c1, if_neg c2]; rfl
  · rw [if_neg (show ¬ nI 1 = 0 by decide), if_pos (show nI 1 = 1 from rfl)]
    rcases z_cases a2 (n := nO) (by omega) with h | ⟨o, h, rfl⟩
    · refine Or.inl ⟨by rw [x_off0 x1 h]; rfl, fun σ' h' => ?_⟩
      rw [i10, if_neg (show ¬ nI 1 = 0 by decide), if_pos (show nI 1 = 1 from rfl), m_off0 (by omega) h' h]; rfl
    · refine Or.inr ⟨by rw [x_off1 (by omega) x1 h]; rfl, fun σ' h' => ?_, o, fun _ => ⟨by omega, rfl⟩, fun h => absurd h (by omega)⟩
      rw [i10, if_neg (show ¬ nI 1 = 0 by decide), if_pos (show nI 1 = 1 from rfl), m_off1 (by omega) h' h]; rfl
  · rw [if_neg (show ¬ nI 2 = 0 by decide), if_neg (show ¬ nI 2 = 1 by decide), if_pos (show nI 2 = 2 from rfl)]
    have hr : ∀ (b : Int32) (σ' : gS), f_X9_in ad σ' a2 1 99 = some b → (if (1 : Int32) = 0 then f_X9_law_P160 a2 a3 a4 σ' (nI 2) v6 1 else if nI 2 = 0 then (f_X9_in ad σ' a2 0 99).bind fun q7 => f_X9_law_P160 a2 a3 a4 σ' (nI 2) v6 q7 else if nI 2 = 1 then (f_X9_isOffice ad σ' a2).bind fun q6 => f_X9_law_P160 a2 a3 a4 σ' (nI 2) v6 q6 else if nI 2 = 2 then (f_X9_in ad σ' a2 1 99).bind fun q8 => f_X9_law_P160 a2 a3 a4 σ' (nI 2) v6 q8 else if nI 2 = 3 then (f_X9_in ad σ' a2 1 99).bind fun q8 => f_X9_law_P160 a2 a3 a4 σ' (nI 2) v6 q8 else if nI 2 = 5 then f_X9_law_P160 a2 a3 a4 σ' (nI 2) v6 1 else (f_X9_in ad σ' a2 0 1).bind fun q5 => if q5 = 0 then f_X9_law_P160 a2 a3 a4 σ' (nI 2) v6 0 else f_X9_law_P160 a2 a3 a4 σ' (nI 2) v6 1) = f_X9_law_P160 a2 a3 a4 σ' (nI 2) v6 b := by
      intro b σ' h
      rw [i10, if_neg (show ¬ nI 2 = 0 by decide), if_neg (show ¬ nI 2 = 1 by decide), if_pos (show nI 2 = 2 from rfl), h]; rfl
    by_cases c1 : a2 < 1
    · exact Or.inl ⟨by rw [if_pos c1], fun σ' h' => hr 0 σ' (by unfold f_X9_in; rw [if_pos c1])⟩
    by_cases c2 : (99 : Int32) < a2
    · exact Or.inl ⟨by rw [if_neg c1, if_pos c2], fun σ' h' => hr 0 σ' (by unfold f_X9_in; rw [if_neg c1, if_pos c2])⟩
    · refine Or.inr ⟨by rw [if_neg c1, if_neg c2], fun σ' h' => hr 1 σ' (by unfold f_X9_in; rw [if_neg c1, if_neg c2]), ?_⟩
      rcases z_cases a2 (n := 100) (by omega) with (e | e) | ⟨j, hj, e⟩
      · exact absurd (Int32.lt_trans e (by decide)) c1
      · exact absurd (t99.mpr e) c2
      · refine ⟨j, fun h => absurd h (by omega), fun _ => ⟨?_, by omega, e⟩⟩
        rcases Nat.eq_zero_or_pos j with e' | e'
        · rw [e, e'] at c1
          exact absurd (by decide) c1
        · exact e'
  · rw [if_neg (show ¬ nI 3 = 0 by decide), if_neg (show ¬ nI 3 = 1 by decide), if_neg (show ¬ nI 3 = 2 by decide), if_pos (show nI 3 = 3 from rfl)]
    have hr : ∀ (b : Int32) (σ' : gS), f_X9_in ad σ' a2 1 99 = some b → (if (1 : Int32) = 0 then f_X9_law_P160 a2 a3 a4 σ' (nI 3) v6 1 else if nI 3 = 0 then (f_X9_in ad σ' a2 0 99).bind fun q7 => f_X9_law_P160 a2 a3 a4 σ' (nI 3) v6 q7 else if nI 3 = 1 then (f_X9_isOffice ad σ' a2).bind fun q6 => f_X9_law_P160 a2 a3 a4 σ' (nI 3) v6 q6 else if nI 3 = 2 then (f_X9_in ad σ' a2 1 99).bind fun q8 => f_X9_law_P160 a2 a3 a4 σ' (nI 3) v6 q8 else if nI 3 = 3 then (f_X9_in ad σ' a2 1 99).bind fun q8 => f_X9_law_P160 a2 a3 a4 σ' (nI 3) v6 q8 else if nI 3 = 5 then f_X9_law_P160 a2 a3 a4 σ' (nI 3) v6 1 else (f_X9_in ad σ' a2 0 1).bind fun q5 => if q5 = 0 then f_X9_law_P160 a2 a3 a4 σ' (nI 3) v6 0 else f_X9_law_P160 a2 a3 a4 σ' (nI 3) v6 1) = f_X9_law_P160 a2 a3 a4 σ' (nI 3) v6 b := by
      intro b σ' h
      rw [i10, if_neg (show ¬ nI 3 = 0 by decide), if_neg (show ¬ nI 3 = 1 by decide), if_neg (show ¬ nI 3 = 2 by decide), if_pos (show nI 3 = 3 from rfl), h]; rfl
    by_cases c1 : a2 < 1
    · exact Or.inl ⟨by rw [if_pos c1], fun σ' h' => hr 0 σ' (by unfold f_X9_in; rw [if_pos c1])⟩
    by_cases c2 : (99 : Int32) < a2
    · exact Or.inl ⟨by rw [if_neg c1, if_pos c2], fun σ' h' => hr 0 σ' (by unfold f_X9_in; rw [if_neg c1, if_pos c2])⟩
    · refine Or.inr ⟨by rw [if_neg c1, if_neg c2], fun σ' h' => hr 1 σ' (by unfold f_X9_in; rw [if_neg c1, if_neg c2]), ?_⟩
      rcases z_cases a2 (n := 100) (by omega) with (e | e) | ⟨j, hj, e⟩
      · exact absurd (Int32.lt_trans e (by decide)) c1
      · exact absurd (t99.mpr e) c2
      · refine ⟨j, fun h => absurd h (by omega), fun _ => ⟨?_, by omega, e⟩⟩
        rcases Nat.eq_zero_or_pos j with e' | e'
        · rw [e, e'] at c1
          exact absurd (by decide) c1
        · exact e'
  · rw [if_neg (show ¬ nI 4 = 0 by decide), if_neg (show ¬ nI 4 = 1 by decide), if_neg (show ¬ nI 4 = 2 by decide), if_neg (show ¬ nI 4 = 3 by decide), if_pos (show nI 4 = 4 from rfl)]
    have hr : ∀ (b : Int32) (σ' : gS), g_bo b → f_X9_in ad σ' a2 0 1 = some b → (if (1 : Int32) = 0 then f_X9_law_P160 a2 a3 a4 σ' (nI 4) v6 1 else if nI 4 = 0 then (f_X9_in ad σ' a2 0 99).bind fun q7 => f_X9_law_P160 a2 a3 a4 σ' (nI 4) v6 q7 else if nI 4 = 1 then (f_X9_isOffice ad σ' a2).bind fun q6 => f_X9_law_P160 a2 a3 a4 σ' (nI 4) v6 q6 else if nI 4 = 2 then (f_X9_in ad σ' a2 1 99).bind fun q8 => f_X9_law_P160 a2 a3 a4 σ' (nI 4) v6 q8 else if nI 4 = 3 then (f_X9_in ad σ' a2 1 99).bind fun q8 => f_X9_law_P160 a2 a3 a4 σ' (nI 4) v6 q8 else if nI 4 = 5 then f_X9_law_P160 a2 a3 a4 σ' (nI 4) v6 1 else (f_X9_in ad σ' a2 0 1).bind fun q5 => if q5 = 0 then f_X9_law_P160 a2 a3 a4 σ' (nI 4) v6 0 else f_X9_law_P160 a2 a3 a4 σ' (nI 4) v6 1) = f_X9_law_P160 a2 a3 a4 σ' (nI 4) v6 b := by
      intro b σ' hb h
      rw [i10, if_neg (show ¬ nI 4 = 0 by decide), if_neg (show ¬ nI 4 = 1 by decide), if_neg (show ¬ nI 4 = 2 by decide), if_neg (show ¬ nI 4 = 3 by decide), if_neg (show ¬ nI 4 = 5 by decide), h, Option.bind_some]
      rcases hb with hb | hb
      · subst hb; rw [i00]
      · subst hb; rw [i10]
    have hin : ∀ σ', f_X9_in ad σ' a2 0 1 = f_X8_isOrder ad σ a2 := by
      intro σ'
      unfold f_X9_in f_X8_isOrder
      rcases z_cases a2 (n := 2) (by omega) with (e | e) | ⟨j, hj, e⟩
      · rw [if_pos e, if_neg (fun h => by rw [h] at e; exact absurd e (by decide)), if_neg (fun h => by rw [h] at e; exact absurd e (by decide))]
      · have : ¬ a2 < 0 := z_nI_le (by omega) e
        have e1 : (1 : Int32) < a2 := Int32.lt_of_lt_of_le (by decide : (1 : Int32) < nI 2) e
        rw [if_neg this, if_pos e1, if_neg (fun h => by rw [h] at e1; exact absurd e1 (by decide)), if_neg (fun h => by rw [h] at e1; exact absurd e1 (by decide))]
      · rcases (show j = 0 ∨ j = 1 by omega) with h | h <;> subst h <;> rw [e] <;> rfl
    have ho : f_X8_isOrder ad σ a2 = some 0 ∨ f_X8_isOrder ad σ a2 = some 1 := by
      unfold f_X8_isOrder
      by_cases c : a2 = 0
      · rw [if_pos c]; exact Or.inr rfl
      · rw [if_neg c]
        by_cases c : a2 = 1
        · rw [if_pos c]; exact Or.inr rfl
        · rw [if_neg c]; exact Or.inl rfl
    rcases ho with e | e
    · exact Or.inl ⟨by rw [e]; rfl, fun σ' h' => hr 0 σ' (Or.inl rfl) ((hin σ').trans e)⟩
    · exact Or.inr ⟨by rw [e]; rfl, fun σ' h' => hr 1 σ' (Or.inr rfl) ((hin σ').trans e), 0, fun h => absurd h (by omega), fun h => absurd h (by omega)⟩
  · rw [if_neg (show ¬ nI 5 = 0 by decide), if_neg (show ¬ nI 5 = 1 by decide), if_neg (show ¬ nI 5 = 2 by decide), if_neg (show ¬ nI 5 = 3 by decide), if_neg (show ¬ nI 5 = 4 by decide)]
    refine Or.inr ⟨rfl, fun σ' h' => ?_, 0, fun h => absurd h (by omega), fun h => absurd h (by omega)⟩
    rw [i10, if_neg (show ¬ nI 5 = 0 by decide), if_neg (show ¬ nI 5 = 1 by decide), if_neg (show ¬ nI 5 = 2 by decide), if_neg (show ¬ nI 5 = 3 by decide), if_pos (show nI 5 = 5 from rfl)]
theorem ok_law : sim_law gI := by
  intro L ad σ h ⟨nO, nP, nL, S, hJ⟩ a1 a2 a3 a4
  obtain ⟨h1, h2, h3, h4, h5, h6, h7, h8, h9, h10, h11, h12, h13, h14, h15⟩ := id hJ
  obtain ⟨⟨hO, hP, hL⟩, ⟨m1, m2, m3⟩, ⟨x1, x2, x3⟩⟩ := id h1
  obtain ⟨⟨l8, l9⟩, lO, lP, lL, lT⟩ := id h15
  have n102 : (102, nL) ∉ L := fun hh => absurd (lL nL (Or.inr hh)) (by omega)
  have n2 : (2, nL) ∉ L := fun hh => absurd (lL nL (Or.inl hh)) (by omega)
  have a0 : ∀ K i, (K, i) ∈ L → adN ad nL h 0 102 2 102 K i = ad K i := by
    intro K i hm
    unfold adN
    by_cases e : i = nL
    · subst e
      rw [if_pos rfl, if_neg (show ¬ K = 102 from fun e => n102 (e ▸ hm)), if_neg (show ¬ K = 2 from fun e => n2 (e ▸ hm)), if_neg (show ¬ K = 102 from fun e => n102 (e ▸ hm)), if_neg (show ¬ (K = 33 ∧ 102 = 23) from fun e => absurd e.2 (by decide))]
    · rw [if_neg e]
  have a33 : ∀ i, adN ad nL h 0 102 2 102 33 i = ad 33 i := fun i => by
    unfold adN
    by_cases e : i = nL
    · rw [if_pos e]; rfl
    · rw [if_neg e]
  have hfr : adN ad nL h 0 102 2 102 102 nL = h + 0 ∧ (102, nL) ∉ L ∧ (2, nL) ∉ L ∧ adN ad nL h 0 102 2 102 2 nL = adN ad nL h 0 102 2 102 102 nL := by
    refine ⟨?_, n102, n2, ?_⟩ <;> simp [adN]
  have hJ' : gJ nO nP nL S L (adN ad nL h 0 102 2 102) σ := gJ_ad (fun o ho => a33 o) hJ
  refine ⟨adN ad nL h 0 102 2 102, nL, ?_⟩
  revert hJ' hfr a33 a0
  generalize adN ad nL h 0 102 2 102 = ad'
  intro a0 a33 hfr hJ'
  have no : ∀ r, f_X8_law ad' σ a1 a2 a3 a4 L nL = some (r, L, σ) → f_X9_law ad' σ a1 a2 a3 a4 = some (r, σ) → ∃ (r : Int32) (L1 : gL) (σ1 σ2 : gS), (∀ K i, (K, i) ∈ L → ad' K i = ad K i) ∧ (∀ i, (23, i) ∈ L → ad' 33 i = ad 33 i) ∧ (ad' 102 nL = h + 0 ∧ (102, nL) ∉ L ∧ (2, nL) ∉ L ∧ ad' 2 nL = ad' 102 nL) ∧ f_X8_law ad' σ a1 a2 a3 a4 L nL = some (r, L1, σ1) ∧ f_X9_law ad' σ1 a1 a2 a3 a4 = some (r, σ2) ∧ gI L1 ad' σ2 :=
    fun r e1 e2 => ⟨r, L, σ, σ, a0, fun i _ => a33 i, hfr, e1, e2, nO, nP, nL, S, hJ'⟩
  have e76 : ∀ v5 v6, f_X9_law_P76 ad' a2 a3 a4 σ v5 v6 = some (-1, σ) := by
    intro v5 v6
    unfold f_X9_law_P76 f_X9_law_P77 f_X9_law_P160
    rw [i00, i00]
  by_cases ca : a1 < 0
  · exact no (-1) (by unfold f_X8_law; rw [if_pos ca]) (by unfold f_X9_law; rw [if_pos ca, e76])
  obtain ⟨a, ha, rfl⟩ := z_nn ca
  have ediv : nI a / (10 : Int32) = nI (a / 10) := by rw [z_10, z_div ha (by omega) (by omega)]
  have emod : nI a - nI (a / 10) * (10 : Int32) = nI (a % 10) := by
    have := pk_rem (a := a) (d := 10) ha (by omega) (by omega)
    rw [z_div ha (by omega) (by omega)] at this
    exact this
  by_cases ck : 5 < a / 10
  · refine no (-1) ?_ ?_
    · unfold f_X8_law
      rw [if_neg ca, ediv, if_pos (show (5 : Int32) < nI (a / 10) from nI_lt (a := 5) ck (by omega))]
    · unfold f_X9_law f_X9_in
      rw [if_neg ca, ediv, if_neg (nI_pos (by omega)), if_pos (show (5 : Int32) < nI (a / 10) from nI_lt (a := 5) ck (by omega)), Option.bind_some, i00, e76]
  have hk5 : ¬ (5 : Int32) < nI (a / 10) := nI_nlt (a := 5) (by omega) (by omega)
  have hin5 : ∀ σ', f_X9_in ad' σ' (nI (a / 10)) 0 5 = some 1 := by
    intro σ'
    unfold f_X9_in
    rw [if_neg (nI_pos (by omega)), if_neg hk5]
  -- the office
  have hoff : ((∀ σ', σ' 9 0 1 = nI nO → f_X9_in ad' σ' (nI (a % 10) - 1) (-1) (σ' 9 0 1 - 1) = some 0) ∧ ¬ nI (a % 10) - 1 = -1 ∧ f_X6_hasOffice ad' σ (nI (a % 10) - 1) = some 0) ∨ ((∀ σ', σ' 9 0 1 = nI nO → f_X9_in ad' σ' (nI (a % 10) - 1) (-1) (σ' 9 0 1 - 1) = some 1) ∧ (nI (a % 10) - 1 = -1 ∨ ∃ o, o < nO ∧ nI (a % 10) - 1 = nI o)) := by
    by_cases c0 : a % 10 = 0
    · right
      rw [c0]
      exact ⟨fun σ' h' => by rw [h']; exact m_inm (by omega), Or.inl rfl⟩
    · have e : nI (a % 10) - 1 = nI (a % 10 - 1) := by
        have := nI_pred (a % 10 - 1)
        rwa [show a % 10 - 1 + 1 = a % 10 by omega] at this
      rw [e]
      by_cases c1 : a % 10 - 1 < nO
      · exact Or.inr ⟨fun σ' h' => by rw [h']; exact m_inm1 (by omega) c1, Or.inr ⟨_, c1, rfl⟩⟩
      · have hge : nI nO ≤ nI (a % 10 - 1) := nI_le (by omega) (by omega)
        refine Or.inl ⟨fun σ' h' => by rw [h']; exact m_inm0 (by omega) (by rw [Ne, z_eqm1 (by omega)]; exact id) (Or.inr hge), by rw [z_eqm1 (by omega)]; exact id, x_off0 x1 (Or.inr hge)⟩
  -- the years
  have hyr : (∀ σ', ∀ K, ((f_X9_isYear ad' σ' a3).bind fun q3 => if q3 = 0 then K else ((f_X9_in ad' σ' a4 1 200).bind fun q4 => if q4 = 0 then K else if a4 ≤ a3 then K else f_X9_law_P77 ad' a2 a3 a4 σ' (nI (a / 10)) (nI (a % 10) - 1) 1)) = K) ∧ (f_X8_isYear ad' σ a3 = some 0 ∨ (f_X8_isYear ad' σ a3 = some 1 ∧ (a4 ≤ a3 ∨ (¬ a4 ≤ a3 ∧ ¬ a4 ≤ 200)))) ∨ ((∀ σ', ∀ K, ((f_X9_isYear ad' σ' a3).bind fun q3 => if q3 = 0 then K else ((f_X9_in ad' σ' a4 1 200).bind fun q4 => if q4 = 0 then K else if a4 ≤ a3 then K else f_X9_law_P77 ad' a2 a3 a4 σ' (nI (a / 10)) (nI (a % 10) - 1) 1)) = f_X9_law_P77 ad' a2 a3 a4 σ' (nI (a / 10)) (nI (a % 10) - 1) 1) ∧ f_X8_isYear ad' σ a3 = some 1 ∧ ¬ a4 ≤ a3 ∧ a4 ≤ 200 ∧ ∃ f, f < 200 ∧ a3 = nI f) := by
    rcases z_cases a3 (n := 200) (by omega) with hy | ⟨f, hf, e⟩
    · left
      refine ⟨fun σ' K => ?_, Or.inl (x_year0 hy)⟩
      rw [m_year0 hy, Option.bind_some, i00]
    · have hx1 : f_X8_isYear ad' σ a3 = some 1 := by rw [e]; exact x_year1 hf
      have hm1 : ∀ σ', f_X9_isYear ad' σ' a3 = some 1 := fun σ' => by rw [e]; exact m_year1 hf
      by_cases c1 : a4 ≤ a3
      · left
        refine ⟨fun σ' K => ?_, Or.inr ⟨hx1, Or.inl c1⟩⟩
        rw [hm1, Option.bind_some, i10]
        unfold f_X9_in
        by_cases d1 : a4 < 1
        · rw [if_pos d1, Option.bind_some, i00]
        · rw [if_neg d1]
          by_cases d2 : (200 : Int32) < a4
          · rw [if_pos d2, Option.bind_some, i00]
          · rw [if_neg d2, Option.bind_some, i10, if_pos c1]
      · have d1 : ¬ a4 < 1 := by
          intro h'
          have h2 : a3 < a4 := z_not_le.mp c1
          rw [e] at h2
          have h3 := Int32.lt_of_le_of_lt (nI_pos' (show f < 2 ^ 31 by omega)) h2
          rw [Int32.lt_iff_toInt_lt] at h' h3
          have u1 : (1 : Int32).toInt = 1 := by decide
          have u0 : (0 : Int32).toInt = 0 := by decide
          omega
        by_cases c2 : a4 ≤ 200
        · right
          refine ⟨fun σ' K => ?_, hx1, c1, c2, f, hf, e⟩
          rw [hm1, Option.bind_some, i10]
          unfold f_X9_in
          rw [if_neg d1, if_neg (z_not_lt.mpr c2), Option.bind_some, i10, if_neg c1]
        · left
          refine ⟨fun σ' K => ?_, Or.inr ⟨hx1, Or.inr ⟨c1, c2⟩⟩⟩
          rw [hm1, Option.bind_some, i10]
          unfold f_X9_in
          rw [if_neg d1, if_pos (z_not_le.mp c2), Option.bind_some, i00]
  have hM : ∀ σ', σ' 9 0 1 = nI nO → f_X9_law ad' σ' (nI a) a2 a3 a4 = (f_X9_in ad' σ' (nI (a % 10) - 1) (-1) (σ' 9 0 1 - 1)).bind fun q2 => if q2 = 0 then f_X9_law_P76 ad' a2 a3 a4 σ' (nI (a / 10)) (nI (a % 10) - 1) else (f_X9_isYear ad' σ' a3).bind fun q3 => if q3 = 0 then f_X9_law_P76 ad' a2 a3 a4 σ' (nI (a / 10)) (nI (a % 10) - 1) else ((f_X9_in ad' σ' a4 1 200).bind fun q4 => if q4 = 0 then f_X9_law_P76 ad' a2 a3 a4 σ' (nI (a / 10)) (nI (a % 10) - 1) else if a4 ≤ a3 then f_X9_law_P76 ad' a2 a3 a4 σ' (nI (a / 10)) (nI (a % 10) - 1) else f_X9_law_P77 ad' a2 a3 a4 σ' (nI (a / 10)) (nI (a % 10) - 1) 1) := by
    intro σ' h'
    unfold f_X9_law
    rw [if_neg ca, ediv, emod, hin5, Option.bind_some, i10]
  have hX : f_X8_law ad' σ (nI a) a2 a3 a4 L nL = (f_X8_isYear ad' σ a3).bind fun q1 => if q1 = 0 then some (-1, L, σ) else if a4 ≤ a3 then some (-1, L, σ) else if a4 ≤ 200 then (if nI (a % 10) - 1 = -1 then f_X8_law_P69 ad' a2 a3 a4 L nL σ (nI (a / 10)) (nI (a % 10) - 1) else (f_X6_hasOffice ad' σ (nI (a % 10) - 1)).bind fun q3 => if q3 = 0 then some (-1, L, σ) else f_X8_law_P69 ad' a2 a3 a4 L nL σ (nI (a / 10)) (nI (a % 10) - 1)) else some (-1, L, σ) := by
    unfold f_X8_law
    rw [if_neg ca, ediv, if_neg hk5, emod]
  rcases hyr with ⟨ym, yx⟩ | ⟨ym, y1, y2, y3, f, hf, ef⟩
  · refine no (-1) ?_ ?_
    · rw [hX]
      rcases yx with e | ⟨e, e2 | ⟨e2, e3⟩⟩
      · rw [e, Option.bind_some, i00]
      · rw [e, Option.bind_some, i10, if_pos e2]
      · rw [e, Option.bind_some, i10, if_neg e2, if_neg e3]
    · rw [hM σ m1, ym, e76]
      rcases hoff with ⟨e, -⟩ | ⟨e, -⟩
      · rw [e σ m1, Option.bind_some, i00]
      · rw [e σ m1, Option.bind_some, i10]
  rcases hoff with ⟨o1, o2, o3⟩ | ⟨o1, o2⟩
  · refine no (-1) ?_ ?_
    · rw [hX, y1, Option.bind_some, i10, if_neg y2, if_pos y3, if_neg o2, o3, Option.bind_some, i00]
    · rw [hM σ m1, o1 σ m1, Option.bind_some, i00, e76]
  have hX2 : f_X8_law ad' σ (nI a) a2 a3 a4 L nL = f_X8_law_P69 ad' a2 a3 a4 L nL σ (nI (a / 10)) (nI (a % 10) - 1) := by
    rw [hX, y1, Option.bind_some, i10, if_neg y2, if_pos y3]
    rcases o2 with e | ⟨o, ho, e⟩
    · rw [if_pos e]
    · rw [e, if_neg (by rw [z_eqm1 (by omega)]; exact id), x_off1 (by omega) x1 ho, Option.bind_some, i10]
  have hM2 : ∀ σ', σ' 9 0 1 = nI nO → f_X9_law ad' σ' (nI a) a2 a3 a4 = f_X9_law_P77 ad' a2 a3 a4 σ' (nI (a / 10)) (nI (a % 10) - 1) 1 := by
    intro σ' h'
    rw [hM σ' h', o1 σ' h', Option.bind_some, i10, ym]
  rcases num_ok hJ' (show a / 10 ≤ 5 by omega) a2 a3 a4 (nI (a % 10) - 1) with ⟨n1, n2⟩ | ⟨n1, n2', n3⟩
  · refine no (-1) ?_ ?_
    · rw [hX2]
      unfold f_X8_law_P69
      rw [n1, Option.bind_some, i00]
    · rw [hM2 σ m1, n2 σ m1]
      unfold f_X9_law_P160
      rw [i00]
  by_cases c20 : nL = 20
  · refine no (-2) ?_ ?_
    · rw [hX2]
      unfold f_X8_law_P69
      rw [n1, Option.bind_some, i10, x3, if_neg (by rw [c20]; decide)]
    · rw [hM2 σ m1, n2' σ m1]
      unfold f_X9_law_P160
      rw [i10, m3, if_pos (by rw [c20]; rfl)]
  have pl := (z_ix (n := 20) (show nL < 2147483648 by omega)).mpr (by omega)
  subst ef
  refine ⟨nI nL, L ++ [(2, nL)], xl8 σ nL (nI (a / 10)) (nI (a % 10) - 1) a2 (nI f) a4, ml6 (xl8 σ nL (nI (a / 10)) (nI (a % 10) - 1) a2 (nI f) a4) nL (nI (a / 10)) (nI (a % 10) - 1) a2 (nI f) a4, a0, fun i _ => a33 i, hfr, ?_, ?_, nO, nP, nL + 1, S, J_law hJ' (by omega) (by omega) o2 n3 hf⟩
  · rw [hX2]
    unfold f_X8_law_P69
    rw [n1, Option.bind_some, i10, x3, if_pos (show nI nL < (20 : Int32) from nI_lt (b := 20) (by omega) (by omega)), g_let_eq, show g_row σ 102 nL (g_z 2) 6 0 5 = nI nL from x3]
    have hini : f_X2_init ad' (g_row σ 102 nL (g_z 2)) nL (nI nL) (nI (a / 10)) (nI (a % 10) - 1) a2 (nI f) a4 = some (xl6 σ nL (nI (a / 10)) (nI (a % 10) - 1) a2 (nI f) a4) := by
      unfold f_X2_init
      rw [g_let_eq, g_let_eq, g_let_eq, g_let_eq, g_let_eq, g_let_eq]
      rfl
    rw [hini, Option.bind_some, if_pos as2, g_let_eq]
    unfold f_X6_addLaw
    rw [show g_row (xl6 σ nL (nI (a / 10)) (nI (a % 10) - 1) a2 (nI f) a4) 2 nL (xl6 σ nL (nI (a / 10)) (nI (a % 10) - 1) a2 (nI f) a4 102 nL) 6 0 5 = nI nL from x3, if_pos pl, if_pos (z_clamp (by omega)), g_let_eq, g_let_eq, Option.bind_some]
    rw [show g_up (g_row (xl6 σ nL (nI (a / 10)) (nI (a % 10) - 1) a2 (nI f) a4) 2 nL (xl6 σ nL (nI (a / 10)) (nI (a % 10) - 1) a2 (nI f) a4 102 nL)) 27 0 nL 0 6 0 5 = nI nL from x3, up_s, nI_1, nI_pred]
    rfl
  · rw [hM2 (xl8 σ nL (nI (a / 10)) (nI (a % 10) - 1) a2 (nI f) a4) m1, n2' (xl8 σ nL (nI (a / 10)) (nI (a % 10) - 1) a2 (nI f) a4) m1]
    unfold f_X9_law_P160
    have q : ∀ σ' : gS, σ' 9 0 3 = nI nL → ∀ K j v, K ≠ 9 → g_up σ' K 0 j v 9 0 3 = nI nL := fun σ' h K j v hK => by
      rw [up_K (fun e => hK e.symm)]; exact h
    have q0 : xl8 σ nL (nI (a / 10)) (nI (a % 10) - 1) a2 (nI f) a4 9 0 3 = nI nL := m3
    have q1 := q _ q0 53 nL (nI (a / 10)) (by decide)
    have q2 := q _ q1 54 nL (nI (a % 10) - 1) (by decide)
    have q3 := q _ q2 55 nL a2 (by decide)
    have q4 := q _ q3 56 nL (nI f) (by decide)
    have q5 := q _ q4 57 nL a4 (by decide)
    rw [i10, q0, if_neg (show ¬ nI nL = 20 from fun e => by have := (z_eq (by omega) (by omega)).mp (show nI nL = nI 20 from e); omega), if_pos pl, z_clamp (by omega), g_let_eq, q1, if_pos pl, z_clamp (by omega), g_let_eq, q2, if_pos pl, z_clamp (by omega), g_let_eq, q3, if_pos pl, z_clamp (by omega), g_let_eq, q4, if_pos pl, z_clamp (by omega), g_let_eq, q5, g_let_eq, up_s, nI_1, nI_pred]
    rfl
