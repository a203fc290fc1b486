/-! PURE: the invariant -/
/-- the code of a seat in the class -/
def xcode (a v : Int32) : Int32 := if a < 0 then -1 else if v = 0 then a else a + 100
/-- the code of a post in the class: of the reference's place x -/
def pcode (x v : Int32) : Int32 := if x < 0 then -1 else if v = 0 then x / 600 else x / 600 + 100
def ixl (o y s : Nat) : Nat := (200 * o + y) * 3 + s
def kinP (σ : gS) (p q : Nat) : Prop := σ 49 0 p = nI q ∨ σ 49 0 q = nI p ∨ (¬ σ 49 0 p < 0 ∧ σ 49 0 p = σ 49 0 q)
def cntN (f : Nat → Bool) : Nat → Nat
  | 0 => 0
  | n + 1 => cntN f n + (if f n then 1 else 0)
def J_cnt (nO nP nL : Nat) (σ : gS) : Prop := (nO ≤ 8 ∧ nP ≤ 24 ∧ nL ≤ 20) ∧ (σ 9 0 1 = nI nO ∧ σ 9 0 2 = nI nP ∧ σ 9 0 3 = nI nL) ∧ (σ 6 0 3 = nI nO ∧ σ 6 0 4 = nI nP ∧ σ 6 0 5 = nI nL)
def J_ref (nO nP nL : Nat) (σ : gS) : Prop := (∀ j, j < nO → σ 25 0 j = 0) ∧ (∀ j, j < nP → σ 26 0 j = 0) ∧ (∀ j, j < nL → σ 27 0 j = 0) ∧ (∀ j, j < 8 → σ 30 0 j = 0)
def J_off (nO : Nat) (S : Nat → Nat) (ad : gA) (σ : gS) : Prop := ∀ o, o < nO → (1 ≤ S o ∧ S o ≤ 3) ∧ σ 44 0 o = nI (S o) ∧ g_bo (σ 45 0 o) ∧ σ 3 o 0 = nI (S o) ∧ σ 3 o 1 = σ 45 0 o ∧ ad 33 o = 200 * S o
def J_per (nP : Nat) (σ : gS) : Prop := ∀ p, p < nP → σ 5 p 0 = σ 46 0 p ∧ σ 5 p 1 = σ 49 0 p ∧ σ 5 p 3 = σ 47 0 p ∧ σ 5 p 4 = σ 48 0 p ∧ σ 5 p 5 = σ 50 0 p ∧ σ 5 p 6 = σ 51 0 p ∧ σ 5 p 7 = σ 52 0 p
def J_kin (nP : Nat) (σ : gS) : Prop := (∀ p, p < nP → σ 49 0 p = -1 ∨ ∃ f, f < p ∧ σ 49 0 p = nI f) ∧ ∀ p, p < nP → ∀ q, q < 32 → (bt (σ 5 p 8) q = true ↔ (q < nP ∧ q ≠ p ∧ kinP σ p q))
def J_lawM (nO nL : Nat) (σ : gS) : Prop := ∀ l, l < nL → ∃ k n f : Nat, k ≤ 5 ∧ σ 53 0 l = nI k ∧ (σ 54 0 l = -1 ∨ ∃ o, o < nO ∧ σ 54 0 l = nI o) ∧ (k = 1 → n < 8 ∧ σ 55 0 l = nI n) ∧ (k = 2 ∨ k = 3 → 1 ≤ n ∧ n ≤ 99 ∧ σ 55 0 l = nI n) ∧ f < 200 ∧ σ 56 0 l = nI f
def J_lawX (nL : Nat) (σ : gS) : Prop := ∀ l, l < nL → σ 2 l 0 = nI l ∧ σ 2 l 1 = σ 53 0 l ∧ σ 2 l 2 = σ 54 0 l ∧ σ 2 l 3 = σ 55 0 l ∧ σ 2 l 4 = σ 56 0 l ∧ σ 2 l 5 = σ 57 0 l
/-- a seat of the reference's lists: empty, or held by one whose place it is -/
def J_seat (nO nP : Nat) (S : Nat → Nat) (σ : gS) : Prop := ∀ o y s, o < 8 → y < 200 → s < 3 → (σ 58 0 (ixl o y s) = -1 ∧ σ 59 0 (ixl o y s) = 0) ∨ (o < nO ∧ s < S o ∧ ∃ p, p < nP ∧ σ 58 0 (ixl o y s) = nI p ∧ σ 60 0 (200 * p + y) = nI (ixl o y s) ∧ g_bo (σ 59 0 (ixl o y s)))
def J_place (nO nP : Nat) (S : Nat → Nat) (σ : gS) : Prop := ∀ p y, p < 24 → y < 200 → σ 60 0 (200 * p + y) = -1 ∨ (p < nP ∧ ∃ o s, o < nO ∧ s < S o ∧ σ 60 0 (200 * p + y) = nI (ixl o y s) ∧ σ 58 0 (ixl o y s) = nI p)
def J_code (nO : Nat) (S : Nat → Nat) (σ : gS) : Prop := ∀ o y s, o < nO → y < 200 → s < S o → σ 23 o (y * S o + s) = xcode (σ 58 0 (ixl o y s)) (σ 59 0 (ixl o y s))
def J_post (nP : Nat) (σ : gS) : Prop := ∀ p y, p < nP → y < 200 → σ 24 p y = pcode (σ 60 0 (200 * p + y)) (σ 59 0 (σ 60 0 (200 * p + y)).toNatClampNeg)
def heldB (σ : gS) (x : Nat) : Bool := decide (0 ≤ σ 58 0 x)
def voidB (σ : gS) (x : Nat) : Bool := decide (0 ≤ σ 58 0 x) && !decide (σ 59 0 x = 0)
def J_num (σ : gS) : Prop := σ 6 0 6 = nI (cntN (heldB σ) 4800) ∧ σ 6 0 7 = nI (cntN (voidB σ) 4800)
def balB (σ : gS) (u : Nat) : Bool := !decide (σ 71 0 u = 0)
def J_el (σ : gS) : Prop := (∃ c k : Nat, (2 ≤ c ∧ c ≤ 4 ∧ 1 ≤ k ∧ k ≤ 2 ∧ k < c) ∧ σ 9 0 29 = nI c ∧ σ 9 0 30 = nI k ∧ σ 0 0 0 = nI c ∧ σ 0 0 1 = nI k) ∧ (∀ u, u < 35 → σ 12 0 u = σ 71 0 u) ∧ σ 0 0 2 = nI (cntN (balB σ) 35)
def J_sh1 (nL : Nat) (σ : gS) (d : Nat) : Prop := σ 7 d 0 = σ 80 0 d ∧
  ((σ 80 0 d = 0 ∧ σ 7 d 1 = -1) ∨ (σ 80 0 d = 1 ∧ ∃ l, l < nL ∧ σ 81 0 d = nI l ∧ σ 7 d 1 = nI l) ∨
   (σ 80 0 d = 3 ∧ σ 7 d 1 = -1 ∧ ∃ n, n ≤ 200 ∧ σ 82 0 d = nI n ∧ σ 7 d 2 = nI n ∧ ∀ i, i < n → σ 28 d i = σ 83 0 (200 * d + i)) ∨
   (σ 80 0 d = 4 ∧ σ 7 d 1 = -1 ∧ ∃ n, n ≤ 60 ∧ σ 82 0 d = nI n ∧ σ 7 d 2 = nI n ∧ ∀ i, i < n → σ 29 d i = σ 83 0 (200 * d + i)))
def J_sh (nL : Nat) (σ : gS) : Prop := (∀ d, d < 8 → J_sh1 nL σ d) ∧ ∀ d i, d < 8 → i < 200 → fits .byte (.int (σ 28 d i)) = true
/-- the live things -/
def J_L (nO nP nL : Nat) (L : gL) : Prop := ((8, 0) ∈ L ∧ (9, 0) ∈ L) ∧ (∀ i, (3, i) ∈ L ∨ (23, i) ∈ L ∨ (103, i) ∈ L → i < nO) ∧ (∀ i, (5, i) ∈ L ∨ (24, i) ∈ L ∨ (105, i) ∈ L → i < nP) ∧ (∀ i, (2, i) ∈ L ∨ (102, i) ∈ L → i < nL) ∧ ∀ K i, (K, i) ∈ L → K < 10 ∨ g_ty K < 9
def gJ (nO nP nL : Nat) (S : Nat → Nat) (L : gL) (ad : gA) (σ : gS) : Prop := J_cnt nO nP nL σ ∧ J_ref nO nP nL σ ∧ J_off nO S ad σ ∧ J_per nP σ ∧ J_kin nP σ ∧ J_lawM nO nL σ ∧ J_lawX nL σ ∧ J_seat nO nP S σ ∧ J_place nO nP S σ ∧ J_code nO S σ ∧ J_post nP σ ∧ J_num σ ∧ J_el σ ∧ J_sh nL σ ∧ J_L nO nP nL L
def gI (L : gL) (ad : gA) (σ : gS) : Prop := ∃ (nO nP nL : Nat) (S : Nat → Nat), gJ nO nP nL S L ad σ
theorem gI_89 : ∀ L ad σ, gI L ad σ → (8, 0) ∈ L ∧ (9, 0) ∈ L := fun _ _ _ ⟨_, _, _, _, h⟩ => h.2.2.2.2.2.2.2.2.2.2.2.2.2.2.1
theorem gI_ty : ∀ L ad σ, gI L ad σ → ∀ K i, (K, i) ∈ L → K < 10 ∨ g_ty K < 9 := fun _ _ _ ⟨_, _, _, _, h⟩ => h.2.2.2.2.2.2.2.2.2.2.2.2.2.2.2.2.2.2
/-! what does not matter: the cells that each call writes before it reads them -/
def g_scr (K j : Nat) : Bool := match K with
  | 0 => decide (3 ≤ j)
  | 1 => true
  | 4 => true
  | 9 => decide (j = 0) || (decide (21 ≤ j) && decide (j ≤ 26)) || decide (j = 38)
  | 10 => true
  | 11 => true
  | 13 => true
  | 14 => true
  | 15 => true
  | 16 => true
  | 17 => true
  | 18 => true
  | 19 => true
  | 20 => true
  | 21 => true
  | 22 => true
  | 31 => true
  | 67 => true
  | 68 => true
  | 72 => true
  | 73 => true
  | 74 => true
  | 75 => true
  | 76 => true
  | 77 => true
  | 79 => true
  | 84 => true
  | _ => false
def eqv (σ σ' : gS) : Prop := ∀ K i j, g_scr K j = false → σ' K i j = σ K i j
theorem eqv_rfl (σ : gS) : eqv σ σ := fun _ _ _ _ => rfl
theorem eqv_trans {a b c : gS} (h : eqv a b) (h' : eqv b c) : eqv a c := fun K i j q => (h' K i j q).trans (h K i j q)
theorem eqv_up {σ σ' : gS} (h : eqv σ σ') {K i j : Nat} {v : Int32} (hs : g_scr K j = true) : eqv σ (g_up σ' K i j v) := fun K' i' j' q => by
  unfold g_up
  rw [if_neg]
  · exact h K' i' j' q
  · intro ⟨h1, _, h3⟩
    rw [h1, h3, hs] at q
    cases q
theorem gJ_eqv {nO nP nL : Nat} {S : Nat → Nat} {L : gL} {ad : gA} {σ σ' : gS} (h : eqv σ σ') (hJ : gJ nO nP nL S L ad σ) : gJ nO nP nL S L ad σ' := by
  obtain ⟨h1, h2, h3, h4, h5, h6, h7, h8, h9, h10, h11, h12, h13, h14, h15⟩ := hJ
  have hh : heldB σ' = heldB σ := by funext x; simp only [heldB, h 58 0 x rfl]
  have hv : voidB σ' = voidB σ := by funext x; simp only [voidB, h 58 0 x rfl, h 59 0 x rfl]
  have hb : balB σ' = balB σ := by funext x; simp only [balB, h 71 0 x rfl]
  have e44 : ∀ j, σ' 44 0 j = σ 44 0 j := fun j => h 44 0 j rfl
  have e45 : ∀ j, σ' 45 0 j = σ 45 0 j := fun j => h 45 0 j rfl
  have e46 : ∀ j, σ' 46 0 j = σ 46 0 j := fun j => h 46 0 j rfl
  have e47 : ∀ j, σ' 47 0 j = σ 47 0 j := fun j => h 47 0 j rfl
  have e48 : ∀ j, σ' 48 0 j = σ 48 0 j := fun j => h 48 0 j rfl
  have e49 : ∀ j, σ' 49 0 j = σ 49 0 j := fun j => h 49 0 j rfl
  have e50 : ∀ j, σ' 50 0 j = σ 50 0 j := fun j => h 50 0 j rfl
  have e51 : ∀ j, σ' 51 0 j = σ 51 0 j := fun j => h 51 0 j rfl
  have e52 : ∀ j, σ' 52 0 j = σ 52 0 j := fun j => h 52 0 j rfl
  have e53 : ∀ j, σ' 53 0 j = σ 53 0 j := fun j => h 53 0 j rfl
  have e54 : ∀ j, σ' 54 0 j = σ 54 0 j := fun j => h 54 0 j rfl
  have e55 : ∀ j, σ' 55 0 j = σ 55 0 j := fun j => h 55 0 j rfl
  have e56 : ∀ j, σ' 56 0 j = σ 56 0 j := fun j => h 56 0 j rfl
  have e57 : ∀ j, σ' 57 0 j = σ 57 0 j := fun j => h 57 0 j rfl
  have e58 : ∀ j, σ' 58 0 j = σ 58 0 j := fun j => h 58 0 j rfl
  have e59 : ∀ j, σ' 59 0 j = σ 59 0 j := fun j => h 59 0 j rfl
  have e60 : ∀ j, σ' 60 0 j = σ 60 0 j := fun j => h 60 0 j rfl
  have e71 : ∀ j, σ' 71 0 j = σ 71 0 j := fun j => h 71 0 j rfl
  have e80 : ∀ j, σ' 80 0 j = σ 80 0 j := fun j => h 80 0 j rfl
  have e81 : ∀ j, σ' 81 0 j = σ 81 0 j := fun j => h 81 0 j rfl
  have e82 : ∀ j, σ' 82 0 j = σ 82 0 j := fun j => h 82 0 j rfl
  have e83 : ∀ j, σ' 83 0 j = σ 83 0 j := fun j => h 83 0 j rfl
  have e2 : ∀ i j, σ' 2 i j = σ 2 i j := fun i j => h 2 i j rfl
  have e3 : ∀ i j, σ' 3 i j = σ 3 i j := fun i j => h 3 i j rfl
  have e5 : ∀ i j, σ' 5 i j = σ 5 i j := fun i j => h 5 i j rfl
  have e6 : ∀ i j, σ' 6 i j = σ 6 i j := fun i j => h 6 i j rfl
  have e7 : ∀ i j, σ' 7 i j = σ 7 i j := fun i j => h 7 i j rfl
  have e12 : ∀ i j, σ' 12 i j = σ 12 i j := fun i j => h 12 i j rfl
  have e23 : ∀ i j, σ' 23 i j = σ 23 i j := fun i j => h 23 i j rfl
  have e24 : ∀ i j, σ' 24 i j = σ 24 i j := fun i j => h 24 i j rfl
  have e25 : ∀ i j, σ' 25 i j = σ 25 i j := fun i j => h 25 i j rfl
  have e26 : ∀ i j, σ' 26 i j = σ 26 i j := fun i j => h 26 i j rfl
  have e27 : ∀ i j, σ' 27 i j = σ 27 i j := fun i j => h 27 i j rfl
  have e28 : ∀ i j, σ' 28 i j = σ 28 i j := fun i j => h 28 i j rfl
  have e29 : ∀ i j, σ' 29 i j = σ 29 i j := fun i j => h 29 i j rfl
  have e30 : ∀ i j, σ' 30 i j = σ 30 i j := fun i j => h 30 i j rfl
  have a1 : σ' 9 0 1 = σ 9 0 1 := h 9 0 1 rfl
  have a2 : σ' 9 0 2 = σ 9 0 2 := h 9 0 2 rfl
  have a3 : σ' 9 0 3 = σ 9 0 3 := h 9 0 3 rfl
  have a4 : σ' 9 0 29 = σ 9 0 29 := h 9 0 29 rfl
  have a5 : σ' 9 0 30 = σ 9 0 30 := h 9 0 30 rfl
  have a6 : σ' 0 0 0 = σ 0 0 0 := h 0 0 0 rfl
  have a7 : σ' 0 0 1 = σ 0 0 1 := h 0 0 1 rfl
  have a8 : σ' 0 0 2 = σ 0 0 2 := h 0 0 2 rfl
  refine ⟨?_, ?_, ?_, ?_, ?_, ?_, ?_, ?_, ?_, ?_, ?_, ?_, ?_, ?_, h15⟩
  · simpa only [J_cnt, a1, a2, a3, e6] using h1
  · simpa only [J_ref, e25, e26, e27, e30] using h2
  · simpa only [J_off, e44, e45, e3] using h3
  · simpa only [J_per, e5, e46, e47, e48, e49, e50, e51, e52] using h4
  · simpa only [J_kin, kinP, e5, e49] using h5
  · simpa only [J_lawM, e53, e54, e55, e56] using h6
  · simpa only [J_lawX, e2, e53, e54, e55, e56, e57] using h7
  · simpa only [J_seat, e58, e59, e60] using h8
  · simpa only [J_place, e58, e60] using h9
  · simpa only [J_code, e23, e58, e59] using h10
  · simpa only [J_post, e24, e59, e60] using h11
  · simpa only [J_num, e6, hh, hv] using h12
  · simpa only [J_el, a4, a5, a6, a7, a8, e12, e71, hb] using h13
  · simpa only [J_sh, J_sh1, e7, e28, e29, e80, e81, e82, e83] using h14
theorem gI_eqv {L : gL} {ad : gA} {σ σ' : gS} (h : eqv σ σ') (hJ : gI L ad σ) : gI L ad σ' := by
  obtain ⟨nO, nP, nL, S, hJ⟩ := hJ
  exact ⟨nO, nP, nL, S, gJ_eqv h hJ⟩
