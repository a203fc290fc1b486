/-! PURE: numbers, bits (rows b_* began as kit/laws/BITS) -/
def bt (x : Int32) (i : Nat) : Bool := x.toBitVec.getLsbD i
theorem b_ext {x y : Int32} (h : ∀ i, i < 32 → bt x i = bt y i) : x = y := Int32.toBitVec_inj.mp (BitVec.eq_of_getLsbD_eq (fun i hi => h i hi))
theorem b_or (x y : Int32) (i : Nat) : bt (x ||| y) i = (bt x i || bt y i) := by unfold bt; rw [Int32.toBitVec_or, BitVec.getLsbD_or]
theorem b_and (x y : Int32) (i : Nat) : bt (x &&& y) i = (bt x i && bt y i) := by unfold bt; rw [Int32.toBitVec_and, BitVec.getLsbD_and]
theorem b_xor (x y : Int32) (i : Nat) : bt (x ^^^ y) i = (bt x i ^^ bt y i) := by unfold bt; rw [Int32.toBitVec_xor, BitVec.getLsbD_xor]
theorem b_big {x : Int32} {i : Nat} (h : 32 ≤ i) : bt x i = false := BitVec.getLsbD_of_ge _ _ h
theorem b_m1 : ∀ i, i < 32 → bt (-1) i = true := by decide +kernel
theorem b_0 (i : Nat) : bt 0 i = false := BitVec.getLsbD_zero
theorem s_l : ∀ n, n < 32 → ((nI n &&& 31).toBitVec.smod 32).toNat = n := by decide +kernel
theorem b_shl (n : Nat) (hn : n < 32) (x : Int32) {i : Nat} (hi : i < 32) : bt (x <<< (nI n &&& 31)) i = (decide (n ≤ i) && bt x (i - n)) := by
  unfold bt
  rw [Int32.toBitVec_shiftLeft]
  show (x.toBitVec <<< ((nI n &&& 31).toBitVec.smod 32).toNat).getLsbD i = _
  rw [s_l n hn, BitVec.getLsbD_shiftLeft]
  rcases Nat.lt_or_ge i n with h | h
  · simp [h, Nat.not_le.mpr h]
  · simp [hi, h, Nat.not_lt.mpr h]
theorem b_sshr (n : Nat) (hn : n < 32) (x : Int32) {i : Nat} (hi : i < 32) : bt (x >>> (nI n &&& 31)) i = if n + i < 32 then bt x (n + i) else bt x 31 := by
  unfold bt
  rw [Int32.toBitVec_shiftRight]
  show (x.toBitVec.sshiftRight ((nI n &&& 31).toBitVec.smod 32).toNat).getLsbD i = _
  rw [s_l n hn, BitVec.getLsbD_sshiftRight, BitVec.msb_eq_getLsbD_last]
  simp [hi]
theorem b_1 : ∀ i, i < 32 → bt 1 i = decide (i = 0) := by decide +kernel
/-- 1 shifted -/
theorem b_one {n i : Nat} (hn : n < 32) (hi : i < 32) : bt ((1 : Int32) <<< (nI n &&& 31)) i = decide (i = n) := by
  rw [b_shl n hn _ hi]
  by_cases h : n ≤ i
  · rw [b_1 _ (by omega)]
    by_cases e : i = n
    · simp [e]
    · have : ¬ i - n = 0 := by omega
      simp [e, this]
  · have : ¬ i = n := by omega
    simp [h, this]
/-- a bit asked for -/
theorem b_ask {x : Int32} {n : Nat} (hn : n < 32) : ((x >>> (nI n &&& 31)) &&& (1 : Int32)) = 0 ↔ bt x n = false := by
  have h0 : bt ((x >>> (nI n &&& 31)) &&& (1 : Int32)) 0 = bt x n := by
    rw [b_and, b_sshr n hn x (by omega), b_1 0 (by omega)]
    simp [hn]
  constructor
  · intro h
    rw [h, b_0] at h0
    exact h0.symm
  · intro h
    apply b_ext
    intro i hi
    rw [b_0]
    rcases Nat.eq_zero_or_pos i with hz | hz
    · rw [hz, h0, h]
    · rw [b_and, b_1 i hi]
      have : ¬ i = 0 := by omega
      simp [this]
theorem b_none {x y : Int32} : x &&& y = 0 ↔ ∀ i, i < 32 → ¬ (bt x i = true ∧ bt y i = true) := by
  constructor
  · intro h i hi ⟨h1, h2⟩
    have := b_and x y i
    rw [h, b_0, h1, h2] at this
    cases this
  · intro h
    apply b_ext
    intro i hi
    rw [b_0, b_and]
    have := h i hi
    revert this
    cases bt x i <;> cases bt y i <;> simp
/-- one bit kept -/
theorem b_one0 {x : Int32} {n : Nat} (hn : n < 32) : x &&& ((1 : Int32) <<< (nI n &&& 31)) = 0 ↔ bt x n = false := by
  rw [b_none]
  constructor
  · intro h
    have := h n hn
    rw [b_one hn hn] at this
    revert this
    cases bt x n <;> simp
  · intro h i hi ⟨h1, h2⟩
    rw [b_one hn hi] at h2
    have e : i = n := of_decide_eq_true h2
    rw [e, h] at h1
    cases h1
theorem b_not {x : Int32} {i : Nat} (hi : i < 32) : bt (x ^^^ (-1 : Int32)) i = !bt x i := by
  rw [b_xor, b_m1 i hi]
  cases bt x i <;> rfl
/-! literals as nI -/
theorem z_1 : (1 : Int32) = nI 1 := rfl
theorem z_2 : (2 : Int32) = nI 2 := rfl
theorem z_3 : (3 : Int32) = nI 3 := rfl
theorem z_4 : (4 : Int32) = nI 4 := rfl
theorem z_5 : (5 : Int32) = nI 5 := rfl
theorem z_7 : (7 : Int32) = nI 7 := rfl
theorem z_8 : (8 : Int32) = nI 8 := rfl
theorem z_9 : (9 : Int32) = nI 9 := rfl
theorem z_10 : (10 : Int32) = nI 10 := rfl
theorem z_18 : (18 : Int32) = nI 18 := rfl
theorem z_19 : (19 : Int32) = nI 19 := rfl
theorem z_20 : (20 : Int32) = nI 20 := rfl
theorem z_23 : (23 : Int32) = nI 23 := rfl
theorem z_24 : (24 : Int32) = nI 24 := rfl
theorem z_34 : (34 : Int32) = nI 34 := rfl
theorem z_35 : (35 : Int32) = nI 35 := rfl
theorem z_60 : (60 : Int32) = nI 60 := rfl
theorem z_99 : (99 : Int32) = nI 99 := rfl
theorem z_100 : (100 : Int32) = nI 100 := rfl
theorem z_199 : (199 : Int32) = nI 199 := rfl
theorem z_200 : (200 : Int32) = nI 200 := rfl
theorem z_600 : (600 : Int32) = nI 600 := rfl
theorem z_1000 : (1000 : Int32) = nI 1000 := rfl
theorem z_1600 : (1600 : Int32) = nI 1600 := rfl
theorem z_4800 : (4800 : Int32) = nI 4800 := rfl
theorem z_20000 : (20000 : Int32) = nI 20000 := rfl
theorem z_lt {a b : Nat} (ha : a < 2147483648) (hb : b < 2147483648) : nI a < nI b ↔ a < b := nI_ltI ha hb
theorem z_le {a b : Nat} (ha : a < 2147483648) (hb : b < 2147483648) : nI a ≤ nI b ↔ a ≤ b := nI_leI ha hb
theorem z_eq {a b : Nat} (ha : a < 2147483648) (hb : b < 2147483648) : nI a = nI b ↔ a = b := nI_eq ha hb
theorem z_lt0 {a : Nat} (ha : a < 2147483648) : (nI a < 0) = False := eq_false (nI_pos ha)
theorem z_0le {a : Nat} (ha : a < 2147483648) : (0 ≤ nI a) = True := eq_true (nI_pos' ha)
theorem z_le0 {a : Nat} (ha : a < 2147483648) : nI a ≤ 0 ↔ a = 0 := by
  have := z_le (a := a) (b := 0) ha (by omega)
  rw [nI_0] at this
  rw [this]; omega
theorem z_eq0 {a : Nat} (ha : a < 2147483648) : nI a = 0 ↔ a = 0 := by
  have := z_eq (a := a) (b := 0) ha (by omega)
  rwa [nI_0] at this
theorem z_eqm1 {a : Nat} (ha : a < 2147483648) : (nI a = (-1 : Int32)) = False := by
  apply eq_false
  intro h
  have h1 := nI_pos ha
  rw [h] at h1
  exact h1 (by decide)
theorem z_eqm2 {a : Nat} (ha : a < 2147483648) : (nI a = (-2 : Int32)) = False := by
  apply eq_false
  intro h
  have h1 := nI_pos ha
  rw [h] at h1
  exact h1 (by decide)
theorem z_ltm {a : Nat} (ha : a < 2147483648) : (nI a < (-1 : Int32)) = False := by
  apply eq_false
  intro h
  have h1 := nI_pos' ha
  have h2 : nI a < 0 := Int32.lt_trans h (by decide)
  exact nI_pos ha h2
theorem z_clamp {a : Nat} (ha : a < 2147483648) : (nI a).toNatClampNeg = a := nI_clamp ha
theorem z_ix {a n : Nat} (ha : a < 2147483648) : g_ix (nI a) n ↔ a < n := by
  unfold g_ix
  rw [nI_clamp ha]
  constructor
  · intro h
    by_cases q : a < n
    · exact q
    · exact absurd (Or.inr (Nat.le_of_not_lt q)) h
  · intro h hh
    rcases hh with hh | hh
    · exact nI_pos ha hh
    · omega
theorem z_div {a b : Nat} (ha : a < 2147483648) (h0 : 0 < b) (hb : b < 2147483648) : nI a / nI b = nI (a / b) := pk_div ha h0 hb
/-- a number is below 0, at least n, or one of 0 .. n-1 -/
theorem z_cases (x : Int32) {n : Nat} (hn : n < 2147483648) : (x < 0 ∨ nI n ≤ x) ∨ ∃ j : Nat, j < n ∧ x = nI j := by
  rcases pk_ix x (n := n) hn with h | h | h
  · exact Or.inl (Or.inl h)
  · exact Or.inl (Or.inr h)
  · exact Or.inr h
theorem z_nn {x : Int32} (h : ¬ x < 0) : ∃ j : Nat, j < 2147483648 ∧ x = nI j := nI_of h
theorem z_not_lt {x y : Int32} : ¬ x < y ↔ y ≤ x := Int32.not_lt
theorem z_not_le {x y : Int32} : ¬ x ≤ y ↔ y < x := Int32.not_le
/-- the byte of a small number -/
theorem z_b : ∀ a : Nat, a < 128 → vp_nar .byte ((nI a).toInt8.toInt32) = nI a := by
  intro a ha
  rw [vp_nar_byte]
  exact (by decide +kernel : ∀ a : Nat, a < 128 → ((nI a).toInt8.toInt32).toInt8.toInt32 = nI a) a ha
theorem z_b1 : vp_nar .byte ((-1 : Int32)) = -1 := by rw [vp_nar_byte]; decide +kernel
theorem z_b1' : vp_nar .byte ((-1 : Int32).toInt8.toInt32) = -1 := by rw [vp_nar_byte]; decide +kernel
theorem z_b0 : vp_nar .byte ((0 : Int32)) = 0 := by rw [vp_nar_byte]; decide +kernel
theorem z_bo {x : Int32} (h : g_bo x) : vp_nar .boolean x = x := by
  rcases h with h | h
  · subst h; decide +kernel
  · subst h; decide +kernel
