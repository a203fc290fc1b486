/-! PURE: who passes the gates -/
theorem z_pred {n : Nat} (hn : n < 2147483648) (a : Int32) : nI n - 1 < a ↔ nI n ≤ a := by
  rcases n with _ | k
  · rw [nI_0]
    show (-1 : Int32) < a ↔ 0 ≤ a
    rw [Int32.lt_iff_toInt_lt, Int32.le_iff_toInt_le]
    show (-1 : Int) < a.toInt ↔ (0 : Int) ≤ a.toInt
    omega
  · rw [nI_pred, Int32.lt_iff_toInt_lt, Int32.le_iff_toInt_le, nI_toInt (by omega), nI_toInt (by omega)]
    omega
theorem z_nI_le {n : Nat} (hn : n < 2147483648) {a : Int32} (h : nI n ≤ a) : ¬ a < 0 := by
  have := Int32.le_trans (nI_pos' hn) h
  rw [z_not_lt]; exact this
theorem m_in0 {ad : gA} {σ : gS} {n : Nat} (hn : n < 2147483648) {a : Int32} (h : a < 0 ∨ nI n ≤ a) : f_X9_in ad σ a 0 (nI n - 1) = some 0 := by
  unfold f_X9_in
  rcases h with h | h
  · rw [if_pos h]
  · rw [if_neg (z_nI_le hn h), if_pos ((z_pred hn a).mpr h)]
theorem m_in1 {ad : gA} {σ : gS} {n j : Nat} (hn : n < 2147483648) (hj : j < n) : f_X9_in ad σ (nI j) 0 (nI n - 1) = some 1 := by
  unfold f_X9_in
  rw [if_neg (nI_pos (by omega)), if_neg]
  rw [z_pred hn, z_le (by omega) (by omega)]
  omega
/-- from -1 on -/
theorem m_inm {ad : gA} {σ : gS} {n : Nat} (hn : n < 2147483648) : f_X9_in ad σ (-1) (-1) (nI n - 1) = some 1 := by
  unfold f_X9_in
  rw [if_neg (by decide), if_neg]
  rw [z_pred hn, z_not_le]
  exact Int32.lt_of_lt_of_le (by decide : (-1 : Int32) < 0) (nI_pos' hn)
theorem m_inm1 {ad : gA} {σ : gS} {n j : Nat} (hn : n < 2147483648) (hj : j < n) : f_X9_in ad σ (nI j) (-1) (nI n - 1) = some 1 := by
  unfold f_X9_in
  rw [if_neg, if_neg]
  · rw [z_pred hn, z_le (by omega) (by omega)]
    omega
  · rw [z_ltm (by omega)]
    exact id
theorem m_inm0 {ad : gA} {σ : gS} {n : Nat} (hn : n < 2147483648) {a : Int32} (hm : a ≠ -1) (h : a < 0 ∨ nI n ≤ a) : f_X9_in ad σ a (-1) (nI n - 1) = some 0 := by
  unfold f_X9_in
  rcases h with h | h
  · rw [if_pos]
    rw [Int32.lt_iff_toInt_lt] at h ⊢
    have : a.toInt ≠ (-1 : Int32).toInt := fun e => hm (Int32.toInt_inj.mp e)
    have e1 : (-1 : Int32).toInt = -1 := by decide
    have e2 : (0 : Int32).toInt = 0 := by decide
    omega
  · rw [if_neg, if_pos ((z_pred hn a).mpr h)]
    have := Int32.le_trans (nI_pos' hn) h
    rw [z_not_lt]
    exact Int32.le_trans (by decide) this
theorem m_bo0 : g_bo (0 : Int32) := Or.inl rfl
theorem m_bo1 : g_bo (1 : Int32) := Or.inr rfl
section
variable {ad : gA} {σ : gS} {a : Int32}
theorem x_per0 {n : Nat} (e : σ 6 0 4 = nI n) (h : a < 0 ∨ nI n ≤ a) : f_X6_hasPerson ad σ a = some 0 := by
  unfold f_X6_hasPerson
  rw [e]
  rcases h with h | h
  · rw [if_pos h]
  · by_cases q : a < 0
    · rw [if_pos q]
    · rw [if_neg q, if_pos h]
theorem x_per1 {n j : Nat} (hn : n < 2147483648) (e : σ 6 0 4 = nI n) (h : j < n) : f_X6_hasPerson ad σ (nI j) = some 1 := by
  unfold f_X6_hasPerson
  rw [e, if_neg (nI_pos (by omega)), if_neg]
  rw [z_le (by omega) (by omega)]
  omega
theorem x_off0 {n : Nat} (e : σ 6 0 3 = nI n) (h : a < 0 ∨ nI n ≤ a) : f_X6_hasOffice ad σ a = some 0 := by
  unfold f_X6_hasOffice
  rw [e]
  rcases h with h | h
  · rw [if_pos h]
  · by_cases q : a < 0
    · rw [if_pos q]
    · rw [if_neg q, if_pos h]
theorem x_off1 {n j : Nat} (hn : n < 2147483648) (e : σ 6 0 3 = nI n) (h : j < n) : f_X6_hasOffice ad σ (nI j) = some 1 := by
  unfold f_X6_hasOffice
  rw [e, if_neg (nI_pos (by omega)), if_neg]
  rw [z_le (by omega) (by omega)]
  omega
theorem x_law0 {n : Nat} (e : σ 6 0 5 = nI n) (h : a < 0 ∨ nI n ≤ a) : f_X6_hasLaw ad σ a = some 0 := by
  unfold f_X6_hasLaw
  rw [e]
  rcases h with h | h
  · rw [if_pos h]
  · by_cases q : a < 0
    · rw [if_pos q]
    · rw [if_neg q, if_pos h]
theorem x_law1 {n j : Nat} (hn : n < 2147483648) (e : σ 6 0 5 = nI n) (h : j < n) : f_X6_hasLaw ad σ (nI j) = some 1 := by
  unfold f_X6_hasLaw
  rw [e, if_neg (nI_pos (by omega)), if_neg]
  rw [z_le (by omega) (by omega)]
  omega
theorem x_year0 (h : a < 0 ∨ nI 200 ≤ a) : f_X8_isYear ad σ a = some 0 := by
  unfold f_X8_isYear
  rcases h with h | h
  · rw [if_pos h]
  · by_cases q : a < 0
    · rw [if_pos q]
    · rw [if_neg q, z_200, if_pos h]
theorem x_year1 {j : Nat} (h : j < 200) : f_X8_isYear ad σ (nI j) = some 1 := by
  unfold f_X8_isYear
  rw [if_neg (nI_pos (by omega)), z_200, if_neg]
  rw [z_le (by omega) (by omega)]
  omega
theorem x_sh0 (h : a < 0 ∨ nI 8 ≤ a) : f_X8_isShelf ad σ a = some 0 := by
  unfold f_X8_isShelf
  rcases h with h | h
  · rw [if_pos h]
  · by_cases q : a < 0
    · rw [if_pos q]
    · rw [if_neg q, z_8, if_pos h]
theorem x_sh1 {j : Nat} (h : j < 8) : f_X8_isShelf ad σ (nI j) = some 1 := by
  unfold f_X8_isShelf
  rw [if_neg (nI_pos (by omega)), z_8, if_neg]
  rw [z_le (by omega) (by omega)]
  omega
theorem m_per0 {n : Nat} (hn : n < 2147483648) (e : σ 9 0 2 = nI n) (h : a < 0 ∨ nI n ≤ a) : f_X9_isPerson ad σ a = some 0 := by
  unfold f_X9_isPerson
  rw [e, m_in0 hn h, Option.bind_some, if_pos m_bo0]
theorem m_per1 {n j : Nat} (hn : n < 2147483648) (e : σ 9 0 2 = nI n) (h : j < n) : f_X9_isPerson ad σ (nI j) = some 1 := by
  unfold f_X9_isPerson
  rw [e, m_in1 hn h, Option.bind_some, if_pos m_bo1]
theorem m_off0 {n : Nat} (hn : n < 2147483648) (e : σ 9 0 1 = nI n) (h : a < 0 ∨ nI n ≤ a) : f_X9_isOffice ad σ a = some 0 := by
  unfold f_X9_isOffice
  rw [e, m_in0 hn h, Option.bind_some, if_pos m_bo0]
theorem m_off1 {n j : Nat} (hn : n < 2147483648) (e : σ 9 0 1 = nI n) (h : j < n) : f_X9_isOffice ad σ (nI j) = some 1 := by
  unfold f_X9_isOffice
  rw [e, m_in1 hn h, Option.bind_some, if_pos m_bo1]
theorem m_year0 (h : a < 0 ∨ nI 200 ≤ a) : f_X9_isYear ad σ a = some 0 := by
  unfold f_X9_isYear
  rw [show (199 : Int32) = nI 200 - 1 from rfl, m_in0 (by omega) h, Option.bind_some, if_pos m_bo0]
theorem m_year1 {j : Nat} (h : j < 200) : f_X9_isYear ad σ (nI j) = some 1 := by
  unfold f_X9_isYear
  rw [show (199 : Int32) = nI 200 - 1 from rfl, m_in1 (by omega) h, Option.bind_some, if_pos m_bo1]
theorem m_sh0 (h : a < 0 ∨ nI 8 ≤ a) : f_X9_isShelf ad σ a = some 0 := by
  unfold f_X9_isShelf
  rw [show (7 : Int32) = nI 8 - 1 from rfl, m_in0 (by omega) h, Option.bind_some, if_pos m_bo0]
theorem m_sh1 {j : Nat} (h : j < 8) : f_X9_isShelf ad σ (nI j) = some 1 := by
  unfold f_X9_isShelf
  rw [show (7 : Int32) = nI 8 - 1 from rfl, m_in1 (by omega) h, Option.bind_some, if_pos m_bo1]
end
theorem z_ne10 : ¬ ((1 : Int32) = 0) := by decide
theorem i10 {α : Type} {x y : α} : (if (1 : Int32) = 0 then x else y) = y := if_neg z_ne10
theorem i00 {α : Type} {x y : α} : (if (0 : Int32) = 0 then x else y) = x := if_pos rfl
theorem i0l {α : Type} {x y : α} : (if (0 : Int32) < 0 then x else y) = y := if_neg (by decide)
theorem im1 {α : Type} {x y : α} : (if (-1 : Int32) = -1 then x else y) = x := if_pos rfl
theorem iml {α : Type} {x y : α} : (if (-1 : Int32) < 0 then x else y) = x := if_pos (by decide)
theorem iml' {α : Type} {x y : α} : (if (0 : Int32) ≤ (-1 : Int32) then x else y) = y := if_neg (by decide)
theorem ib0 {α : Type} {x y : α} : (if g_bo (0 : Int32) then x else y) = x := if_pos m_bo0
theorem ib1 {α : Type} {x y : α} : (if g_bo (1 : Int32) then x else y) = x := if_pos m_bo1
/-- the seats: either both sides say no, or the three are numbers of a seat -/
theorem x_seat {nO nP nL : Nat} {S : Nat → Nat} {L : gL} {ad : gA} {σ : gS} (hJ : gJ nO nP nL S L ad σ) (a b c : Int32) :
    (f_X6_hasSeat ad σ a b c = some 0 ∧ f_X9_isSeat ad σ a b c = some 0) ∨ ∃ o y s : Nat, o < nO ∧ y < 200 ∧ s < S o ∧ a = nI o ∧ b = nI y ∧ c = nI s ∧ f_X6_hasSeat ad σ a b c = some 1 ∧ f_X9_isSeat ad σ a b c = some 1 := by
  obtain ⟨⟨hn, hm, hx⟩, hr, ho, -⟩ := hJ
  unfold f_X6_hasSeat f_X9_isSeat
  rcases z_cases a (n := nO) (by omega) with h | ⟨o, h, rfl⟩
  · rw [x_off0 hx.1 h, m_off0 (by omega) hm.1 h]
    exact Or.inl ⟨rfl, rfl⟩
  rw [x_off1 (by omega) hx.1 h, m_off1 (by omega) hm.1 h]
  rcases z_cases b (n := 200) (by omega) with h2 | ⟨y, h2, rfl⟩
  · rw [x_year0 h2, m_year0 h2]
    exact Or.inl ⟨rfl, rfl⟩
  rw [x_year1 h2, m_year1 h2]
  obtain ⟨hS, e44, -, e3, -, -⟩ := ho o h
  have e25 := hr.1 o h
  simp only [Option.bind_some, z_clamp (show o < 2147483648 by omega), e25, e3, e44, if_pos ((z_ix (show o < 2147483648 by omega)).mpr (show o < 8 by omega))]
  simp only [if_true, if_false, reduceIte, i10, i00, i0l, im1, iml, iml', ib0, ib1]
  rcases z_cases c (n := S o) (by omega) with h3 | ⟨s, h3, rfl⟩
  · rw [m_in0 (by omega) h3]
    refine Or.inl ⟨?_, rfl⟩
    rcases h3 with h3 | h3
    · rw [if_pos h3]
    · rw [if_neg (z_nI_le (by omega) h3), if_pos h3]
  · refine Or.inr ⟨o, y, s, h, h2, h3, rfl, rfl, rfl, ?_, ?_⟩
    · rw [if_neg (nI_pos (by omega)), if_neg]
      rw [z_le (by omega) (by omega)]
      omega
    · rw [m_in1 (by omega) h3]
      rfl
