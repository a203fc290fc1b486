/-! PURE: who is barred, by the reference -/
def exB (f : Nat → Bool) : Nat → Bool
  | 0 => false
  | n + 1 => exB f n || f n
theorem exB_iff {f : Nat → Bool} {n : Nat} : exB f n = true ↔ ∃ j, j < n ∧ f j = true := by
  induction n with
  | zero => simp [exB]
  | succ n ih =>
    simp only [exB, Bool.or_eq_true, ih]
    constructor
    · rintro (⟨j, hj, h⟩ | h)
      · exact ⟨j, by omega, h⟩
      · exact ⟨n, by omega, h⟩
    · rintro ⟨j, hj, h⟩
      by_cases e : j = n
      · subst e; exact Or.inr h
      · exact Or.inl ⟨j, by omega, h⟩
theorem exB_no {f : Nat → Bool} {n : Nat} : exB f n = false ↔ ∀ j, j < n → f j = false := by
  constructor
  · intro h j hj
    cases hf : f j
    · rfl
    · rw [exB_iff.mpr ⟨j, hj, hf⟩] at h; cases h
  · intro h
    cases hx : exB f n
    · rfl
    · obtain ⟨j, hj, hf⟩ := exB_iff.mp hx
      rw [h j hj] at hf; cases hf
theorem exB_congr {f g : Nat → Bool} {n : Nat} (h : ∀ j, j < n → f j = g j) : exB f n = exB g n := by
  induction n with
  | zero => rfl
  | succ n ih => simp only [exB, ih (fun j hj => h j (by omega)), h n (by omega)]
def inB (σ : gS) (l o y : Nat) : Bool := decide (σ 45 0 o = 0) && (decide (σ 54 0 l < 0) || decide (σ 54 0 l = nI o)) && !decide (nI y < σ 56 0 l) && !decide (σ 57 0 l ≤ nI y)
def hwB (σ : gS) (p : Nat) (a : Int32) (y n : Nat) : Bool := exB (fun j => hB σ p a j && decide (y - j ≤ n)) y
def kB (σ : gS) (p q : Nat) : Bool := decide (σ 49 0 p = nI q) || decide (σ 49 0 q = nI p) || (!decide (σ 49 0 p < 0) && decide (σ 49 0 p = σ 49 0 q))
def hkB (σ : gS) (S : Nat → Nat) (p o y : Nat) : Bool := exB (fun s => !decide (σ 58 0 (ixl o y s) < 0) && !decide (σ 58 0 (ixl o y s) = nI p) && decide (σ 59 0 (ixl o y s) = 0) && kB σ p (σ 58 0 (ixl o y s)).toNatClampNeg) (S o)
def brB (σ : gS) (S : Nat → Nat) (l p o y : Nat) : Bool := if σ 53 0 l = 0 then !decide (σ 55 0 l ≤ nI y - σ 47 0 p) else if σ 53 0 l = 1 then !(exB (hB σ p (σ 55 0 l)) y) else if σ 53 0 l = 2 then hwB σ p (-1) y (σ 55 0 l).toNatClampNeg else if σ 53 0 l = 3 then hwB σ p (nI o) y (σ 55 0 l).toNatClampNeg else if σ 53 0 l = 4 then decide (σ 46 0 p = σ 55 0 l) else hkB σ S p o y
def fLw (f : Nat → Bool) : Nat → Nat → Int32
  | 0, _ => -2
  | k + 1, j => if f j then nI j else fLw f k (j + 1)
def barS (σ : gS) (S : Nat → Nat) (nL p o y : Nat) (own : Bool) : Int32 := if nI y < σ 50 0 p then (if σ 47 0 p ≤ nI y then (if ¬ nI y < σ 51 0 p ∧ ¬ σ 52 0 p < nI y then -6 else if own = true ∧ ¬ σ 60 0 (200 * p + y) < 0 then -7 else fLw (fun l => inB σ l o y && brB σ S l p o y) nL 0) else -5) else -4
def dbB (σ : gS) (p o y l : Nat) : Bool := inB σ l o y && decide (σ 53 0 l = 0) && !decide (σ 55 0 l ≤ nI y - σ 48 0 p)
def couldS (σ : gS) (S : Nat → Nat) (nL p o y : Nat) : Int32 := if barS σ S nL p o y true = -2 then (if exB (dbB σ p o y) nL then 1 else 2) else 0
def lsc (σ : gS) : Prop := ∀ o y s, o < 8 → y < 200 → s < 3 → σ 58 0 (ixl o y s) = -1 ∨ ∃ q, q < 24 ∧ σ 58 0 (ixl o y s) = nI q
def wM (nO nL : Nat) (S : Nat → Nat) (σ : gS) : Prop := (nO ≤ 8 ∧ nL ≤ 20 ∧ σ 9 0 3 = nI nL) ∧ plc σ ∧ lsc σ ∧ J_lawM nO nL σ ∧ (∀ o, o < nO → S o ≤ 3 ∧ σ 44 0 o = nI (S o))
theorem wM_of {nO nP nL : Nat} {S : Nat → Nat} {L : gL} {ad : gA} {σ : gS} (hJ : gJ nO nP nL S L ad σ) : wM nO nL S σ := by
  obtain ⟨h1, h2, h3, h4, h5, h6, h7, h8, h9, h10, h11, h12, h13, h14, h15⟩ := id hJ
  obtain ⟨⟨hO, hP, hL⟩, ⟨m1, m2, m3⟩, ⟨x1, x2, x3⟩⟩ := id h1
  refine ⟨⟨hO, hL, m3⟩, plc_of hO h3 h9, ?_, h6, fun o ho => ⟨(h3 o ho).1.2, (h3 o ho).2.1⟩⟩
  intro o y s ho hy hs
  rcases h8 o y s ho hy hs with ⟨e, -⟩ | ⟨-, -, p, hp, e, -⟩
  · exact Or.inl e
  · exact Or.inr ⟨p, by omega, e⟩
section
variable {nO nL : Nat} {S : Nat → Nat} {ad : gA} {σ : gS}
theorem m_force {l o y : Nat} (hl : l < 20) (ho : o < 8) : f_X9_isInForce ad σ (nI l) (nI o) (nI y) = some (if inB σ l o y then 1 else 0) := by
  have pl := (z_ix (n := 20) (show l < 2147483648 by omega)).mpr hl
  have po := (z_ix (n := 8) (show o < 2147483648 by omega)).mpr ho
  unfold f_X9_isInForce inB
  simp only [if_pos pl, if_pos po, z_clamp (show l < 2147483648 by omega), z_clamp (show o < 2147483648 by omega)]
  by_cases q1 : σ 45 0 o = 0 <;> by_cases q2 : σ 54 0 l < 0 <;> by_cases q3 : σ 54 0 l = nI o <;> by_cases q4 : nI y < σ 56 0 l <;> by_cases q5 : σ 57 0 l ≤ nI y <;> simp [q1, q2, q3, q4, q5]
/-- k back from y: there is none, or there is one -/
theorem m_within (hp9 : plc σ) {p y n : Nat} (hp : p < 24) (hy : y < 200) (hn : n < 200) (a : Int32) :
    ∀ (d fuel k : Nat), d + 1 < fuel → 1 ≤ k → k + d = n + 1 → f_X9_heldWithin_L6 ad σ (nI p) a (nI y) (nI n) f_X9_heldWithin_P36 fuel 0 (nI k) = some (if exB (fun j => hB σ p a j && decide (y - j ≤ n)) (y + 1 - k) then 1 else 0) := by
  intro d
  induction d with
  | zero =>
    intro fuel k hf hk hj
    obtain ⟨m, rfl⟩ : ∃ m, fuel = m + 1 := ⟨fuel - 1, by omega⟩
    unfold f_X9_heldWithin_L6
    rw [if_pos (nI_lt (by omega) (by omega))]
    rw [exB_no.mpr]
    · rfl
    · intro j hj'
      have : ¬ y - j ≤ n := by omega
      simp [this]
  | succ d ih =>
    intro fuel k hf hk hj
    obtain ⟨m, rfl⟩ : ∃ m, fuel = m + 1 := ⟨fuel - 1, by omega⟩
    unfold f_X9_heldWithin_L6
    rw [if_neg (nI_nlt (by omega) (by omega)), i00]
    by_cases hky : k ≤ y
    · rw [pk_sub hky, m_hh hp9 hp (by omega), Option.bind_some, nI_1]
      have e1 : y + 1 - k = (y - k) + 1 := by omega
      rw [e1]
      have e2 : y - (y - k) ≤ n := by omega
      simp only [exB, e2, decide_true, Bool.and_true]
      cases hb : hB σ p a (y - k)
      · simp only [Bool.false_eq_true, if_false, Bool.or_false]
        rw [ih m (k + 1) (by omega) (by omega) (by omega)]
        rw [show y + 1 - (k + 1) = y - k by omega]
      · simp only [Bool.or_true, if_true]
        obtain ⟨m', rfl⟩ : ∃ m', m = m' + 1 := ⟨m - 1, by omega⟩
        unfold f_X9_heldWithin_L6
        by_cases q : nI n < nI (k + 1)
        · rw [if_pos q]; rfl
        · rw [if_neg q, i10]; rfl
    · have hneg : ¬ 0 ≤ nI y - nI k := by
        rw [z_not_le]
        exact pk_sneg (by omega) (by omega)
      have : f_X9_hasHeld ad σ (nI p) a (nI y - nI k) = some 0 := by
        unfold f_X9_hasHeld
        rw [if_neg hneg]
      rw [this, Option.bind_some, nI_1, ih m (k + 1) (by omega) (by omega) (by omega)]
      rw [show y + 1 - (k + 1) = 0 by omega, show y + 1 - k = 0 by omega]
theorem m_heldWithin (hp9 : plc σ) {p y n : Nat} (hp : p < 24) (hy : y < 200) (hn : n < 200) (a : Int32) : f_X9_heldWithin ad σ (nI p) a (nI y) (nI n) = some (if hwB σ p a y n then 1 else 0) := by
  unfold f_X9_heldWithin hwB
  have := m_within (ad := ad) hp9 hp hy hn a n g_fuel 1 (by unfold g_fuel; omega) (by omega) (by omega)
  rw [show y + 1 - 1 = y by omega] at this
  exact this
theorem m_isKin {p q : Nat} (hp : p < 24) (hq : q < 24) : f_X9_isKin ad σ (nI p) (nI q) = some (if kB σ p q then 1 else 0) := by
  have pp := (z_ix (n := 24) (show p < 2147483648 by omega)).mpr hp
  have pq := (z_ix (n := 24) (show q < 2147483648 by omega)).mpr hq
  unfold f_X9_isKin kB
  simp only [if_pos pp, if_pos pq, z_clamp (show p < 2147483648 by omega), z_clamp (show q < 2147483648 by omega)]
  by_cases q1 : σ 49 0 p = nI q <;> by_cases q2 : σ 49 0 q = nI p <;> by_cases q3 : σ 49 0 p < 0 <;> by_cases q4 : σ 49 0 p = σ 49 0 q <;> first | (simp [q1, q2, q3, q4]; done) | (rw [q4] at q1 q3; simp [q1, q2, q3, q4]; done)
theorem m_hasKin (hw : wM nO nL S σ) {p o y : Nat} (hp : p < 24) (ho : o < nO) (hy : y < 200) :
    ∀ (k fuel j : Nat), k < fuel → j + k = S o → ∀ b : Bool, b = exB (fun s => !decide (σ 58 0 (ixl o y s) < 0) && !decide (σ 58 0 (ixl o y s) = nI p) && decide (σ 59 0 (ixl o y s) = 0) && kB σ p (σ 58 0 (ixl o y s)).toNatClampNeg) j → f_X9_hasKin_L6 ad σ (nI p) (nI o) (nI y) f_X9_hasKin_P91 fuel (if b then 1 else 0) (nI j) = some (if hkB σ S p o y then 1 else 0) := by
  obtain ⟨⟨hO, hL, m3⟩, w1, w2, w3, w4⟩ := hw
  obtain ⟨hS, e44⟩ := w4 o ho
  have po := (z_ix (n := 8) (show o < 2147483648 by omega)).mpr (by omega)
  intro k
  induction k with
  | zero =>
    intro fuel j hf hj b hb
    obtain ⟨m, rfl⟩ : ∃ m, fuel = m + 1 := ⟨fuel - 1, by omega⟩
    unfold f_X9_hasKin_L6
    rw [if_pos po, z_clamp (by omega), e44, if_pos (nI_le (by omega) (by omega))]
    unfold hkB
    rw [show S o = j by omega, ← hb]
    cases b <;> rfl
  | succ k ih =>
    intro fuel j hf hj b hb
    obtain ⟨m, rfl⟩ : ∃ m, fuel = m + 1 := ⟨fuel - 1, by omega⟩
    have hix := ix_lt (o := o) (y := y) (s := j) (by omega) hy (by omega)
    have pq := (z_ix (n := 4800) (show ixl o y j < 2147483648 by omega)).mpr (by omega)
    have st := ih m (j + 1) (by omega) (by omega)
    unfold f_X9_hasKin_L6
    rw [if_pos po, z_clamp (by omega), e44, if_neg (nI_ge (by omega) (by omega)), m_at]
    simp only [Option.bind_some, nI_1]
    cases b
    · simp only [Bool.false_eq_true, if_false, i00, if_pos pq, z_clamp (show ixl o y j < 2147483648 by omega)]
      rcases w2 o y j (by omega) hy (by omega) with e | ⟨q, hq, e⟩
      · rw [e, iml]
        exact st false (by rw [exB, ← hb, e]; rfl)
      · rw [e, if_neg (nI_pos (by omega))]
        by_cases q1 : nI q = nI p
        · rw [if_pos q1]
          exact st false (by rw [exB, ← hb, e]; simp [q1])
        · rw [if_neg q1]
          by_cases q2 : σ 59 0 (ixl o y j) = 0
          · rw [if_pos q2, m_isKin hp hq, Option.bind_some]
            cases hk : kB σ p q
            · simp only [Bool.false_eq_true, if_false, i00]
              exact st false (by rw [exB, ← hb, e, nI_clamp (by omega)]; simp [hk])
            · simp only [if_true, i10]
              exact st true (by rw [exB, ← hb, e, nI_clamp (by omega)]; simp [hk, q1, q2, z_lt0 (show q < 2147483648 by omega)])
          · rw [if_neg q2]
            exact st false (by rw [exB, ← hb, e]; simp [q2])
    · simp only [if_true, i10]
      exact st true (by rw [exB, ← hb]; rfl)
theorem m_bars (hw : wM nO nL S σ) {l p o y : Nat} (hl : l < nL) (hp : p < 24) (ho : o < nO) (hy : y < 200) : f_X9_bars ad σ (nI l) (nI p) (nI o) (nI y) = some (if brB σ S l p o y then 1 else 0) := by
  have hw' := hw
  obtain ⟨⟨hO, hL, m3⟩, w1, w2, w3, w4⟩ := hw
  obtain ⟨k, n, f, hk, e53, e54, hn1, hn2, hf, e56⟩ := w3 l hl
  have pl := (z_ix (n := 20) (show l < 2147483648 by omega)).mpr (by omega)
  have pp := (z_ix (n := 24) (show p < 2147483648 by omega)).mpr hp
  have hbb : ∀ b : Bool, (if g_bo (if b = true then (1 : Int32) else 0) then some (if b = true then (1 : Int32) else 0) else none) = some (if b = true then (1 : Int32) else 0) := by
    intro b
    cases b <;> simp
  unfold f_X9_bars brB
  simp only [if_pos pl, if_pos pp, z_clamp (show l < 2147483648 by omega), z_clamp (show p < 2147483648 by omega)]
  by_cases c0 : σ 53 0 l = 0
  · simp only [if_pos c0]
    by_cases q : σ 55 0 l ≤ nI y - σ 47 0 p <;> simp [q]
  simp only [if_neg c0]
  by_cases c1 : σ 53 0 l = 1
  · simp only [if_pos c1]
    have hk1 : k = 1 := by rw [e53, z_1, z_eq (by omega) (by omega)] at c1; exact c1
    obtain ⟨hn, e55⟩ := hn1 hk1
    rw [m_heldWithin w1 hp hy (by omega), Option.bind_some]
    have : hwB σ p (σ 55 0 l) y y = exB (hB σ p (σ 55 0 l)) y := by
      unfold hwB
      apply exB_congr
      intro j _
      simp [show y - j ≤ y by omega]
    rw [this]
    cases exB (hB σ p (σ 55 0 l)) y <;> simp
  simp only [if_neg c1]
  by_cases c2 : σ 53 0 l = 2
  · simp only [if_pos c2]
    have hk1 : k = 2 := by rw [e53, z_2, z_eq (by omega) (by omega)] at c2; exact c2
    obtain ⟨hna, hnb, e55⟩ := hn2 (Or.inl hk1)
    rw [e55, m_heldWithin w1 hp hy (by omega), Option.bind_some, nI_clamp (by omega)]
    exact hbb _
  simp only [if_neg c2]
  by_cases c3 : σ 53 0 l = 3
  · simp only [if_pos c3]
    have hk1 : k = 3 := by rw [e53, z_3, z_eq (by omega) (by omega)] at c3; exact c3
    obtain ⟨hna, hnb, e55⟩ := hn2 (Or.inr hk1)
    rw [e55, m_heldWithin w1 hp hy (by omega), Option.bind_some, nI_clamp (by omega)]
    exact hbb _
  simp only [if_neg c3]
  by_cases c4 : σ 53 0 l = 4
  · simp only [if_pos c4]
    by_cases q : σ 46 0 p = σ 55 0 l <;> simp [q]
  simp only [if_neg c4]
  unfold f_X9_hasKin
  have := m_hasKin (ad := ad) hw' hp ho hy (S o) g_fuel 0 (by have := (w4 o ho).1; unfold g_fuel; omega) (by omega) false rfl
  simp only [Bool.false_eq_true, if_false] at this
  rw [show f_X9_hasKin_L6 ad σ (nI p) (nI o) (nI y) f_X9_hasKin_P91 g_fuel 0 0 = _ from this, Option.bind_some]
  exact hbb _
theorem m_barL (hw : wM nO nL S σ) {p o y : Nat} (hp : p < 24) (ho : o < nO) (hy : y < 200) :
    ∀ (k fuel j : Nat), k < fuel → j + k = nL → f_X9_barOf_L70 ad σ (nI p) (nI o) (nI y) f_X9_barOf_P111 fuel (nI j) = some (fLw (fun l => inB σ l o y && brB σ S l p o y) k j) := by
  obtain ⟨⟨hO, hL, m3⟩, w1, w2, w3, w4⟩ := id hw
  intro k
  induction k with
  | zero =>
    intro fuel j hf hj
    obtain ⟨m, rfl⟩ : ∃ m, fuel = m + 1 := ⟨fuel - 1, by omega⟩
    unfold f_X9_barOf_L70
    rw [m3, if_pos (nI_le (by omega) (by omega))]; rfl
  | succ k ih =>
    intro fuel j hf hj
    obtain ⟨m, rfl⟩ : ∃ m, fuel = m + 1 := ⟨fuel - 1, by omega⟩
    unfold f_X9_barOf_L70
    rw [m3, if_neg (nI_ge (by omega) (by omega)), m_force (by omega) (by omega), Option.bind_some, nI_1, ih m (j + 1) (by omega) (by omega), m_bars hw (by omega) hp ho hy]
    cases g1 : inB σ j o y
    · simp [fLw, g1]
    · cases g2 : brB σ S j p o y <;> simp [fLw, g1, g2]
theorem m_bar (hw : wM nO nL S σ) {p o y : Nat} (hp : p < 24) (ho : o < nO) (hy : y < 200) : f_X9_barOf ad σ (nI p) (nI o) (nI y) = some (barS σ S nL p o y true) := by
  have pp := (z_ix (n := 24) (show p < 2147483648 by omega)).mpr hp
  have pr := (z_ix (n := 4800) (show 200 * p + y < 2147483648 by omega)).mpr (by omega)
  have hloop := m_barL (ad := ad) hw hp ho hy nL g_fuel 0 (by have := hw.1.2.1; unfold g_fuel; omega) (by omega)
  unfold f_X9_barOf f_X9_barOf_P49 barS
  simp only [if_pos pp, z_clamp (show p < 2147483648 by omega), z_200, pk_mul, nI_add, if_pos pr, z_clamp (show 200 * p + y < 2147483648 by omega)]
  rw [show f_X9_barOf_L70 ad σ (nI p) (nI o) (nI y) f_X9_barOf_P111 g_fuel 0 = _ from hloop]
  by_cases q1 : nI y < σ 50 0 p <;> by_cases q2 : σ 47 0 p ≤ nI y <;> by_cases q3 : nI y < σ 51 0 p <;> by_cases q4 : σ 52 0 p < nI y <;> by_cases q5 : σ 60 0 (200 * p + y) < 0 <;> simp [q1, q2, q3, q4, q5]
theorem m_couldL (hw : wM nO nL S σ) {p o y : Nat} (hp : p < 24) (ho : o < nO) (_hy : y < 200) :
    ∀ (k fuel j : Nat), k < fuel → j + k = nL → f_X9_couldBe_L20 ad σ (nI p) (nI o) (nI y) f_X9_couldBe_P77 fuel (if exB (dbB σ p o y) j then 1 else 2) (nI j) = some (if exB (dbB σ p o y) nL then 1 else 2) := by
  obtain ⟨⟨hO, hL, m3⟩, w1, w2, w3, w4⟩ := id hw
  have pp := (z_ix (n := 24) (show p < 2147483648 by omega)).mpr hp
  intro k
  induction k with
  | zero =>
    intro fuel j hf hj
    obtain ⟨m, rfl⟩ : ∃ m, fuel = m + 1 := ⟨fuel - 1, by omega⟩
    unfold f_X9_couldBe_L20
    rw [m3, if_pos (nI_le (by omega) (by omega)), show j = nL by omega]; rfl
  | succ k ih =>
    intro fuel j hf hj
    obtain ⟨m, rfl⟩ : ∃ m, fuel = m + 1 := ⟨fuel - 1, by omega⟩
    have pj := (z_ix (n := 20) (show j < 2147483648 by omega)).mpr (by omega)
    have st := ih m (j + 1) (by omega) (by omega)
    rw [show exB (dbB σ p o y) (j + 1) = (exB (dbB σ p o y) j || dbB σ p o y j) from rfl] at st
    unfold f_X9_couldBe_L20
    rw [m3, if_neg (nI_ge (by omega) (by omega)), m_force (by omega) (by omega), Option.bind_some, nI_1]
    simp only [if_pos pj, if_pos pp, z_clamp (show j < 2147483648 by omega), z_clamp (show p < 2147483648 by omega)]
    cases hin : inB σ j o y
    · rw [show dbB σ p o y j = false by simp [dbB, hin]] at st
      simp only [Bool.or_false, Bool.false_eq_true, if_false, i00] at st ⊢
      exact st
    · simp only [if_true, i10]
      by_cases q1 : σ 53 0 j = 0
      · rw [if_pos q1]
        by_cases q2 : σ 55 0 j ≤ nI y - σ 48 0 p
        · rw [show dbB σ p o y j = false by simp [dbB, q2]] at st
          simp only [Bool.or_false, if_pos q2] at st ⊢
          exact st
        · rw [show dbB σ p o y j = true by simp [dbB, hin, q1, q2]] at st
          simp only [Bool.or_true, if_true, if_neg q2] at st ⊢
          exact st
      · rw [show dbB σ p o y j = false by simp [dbB, q1]] at st
        simp only [Bool.or_false, if_neg q1] at st ⊢
        exact st
theorem m_could (hw : wM nO nL S σ) {p o y : Nat} (hp : p < 24) (ho : o < nO) (hy : y < 200) : f_X9_couldBe ad σ (nI p) (nI o) (nI y) = some (couldS σ S nL p o y) := by
  unfold f_X9_couldBe couldS
  rw [m_bar hw hp ho hy, Option.bind_some]
  have hloop := m_couldL (ad := ad) hw hp ho hy nL g_fuel 0 (by have := hw.1.2.1; unfold g_fuel; omega) (by omega)
  by_cases q : barS σ S nL p o y true = -2
  · rw [if_pos q, if_pos q]
    exact hloop
  · rw [if_neg q, if_neg q]
end
