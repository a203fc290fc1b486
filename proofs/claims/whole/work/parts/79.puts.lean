/-! PURE: lists with those put in: places lo .. hi - 1 of the gaps -/
def PW (go gs : Nat → Nat) (y lo hi : Nat) (c : Nat → Nat) (ρ μ : gS) : Prop :=
  (∀ K i j, g_scr K j = false → K ≠ 58 → K ≠ 60 → μ K i j = ρ K i j) ∧
  (∀ i j, (i = 0 → ∀ t, lo ≤ t → t < hi → j ≠ ixl (go t) y (gs t)) → μ 58 i j = ρ 58 i j) ∧
  (∀ i j, (i = 0 → ∀ t, lo ≤ t → t < hi → j ≠ 200 * c t + y) → μ 60 i j = ρ 60 i j) ∧
  (∀ t, lo ≤ t → t < hi → μ 58 0 (ixl (go t) y (gs t)) = nI (c t) ∧ μ 60 0 (200 * c t + y) = nI (ixl (go t) y (gs t)))
/-- the gaps: each empty, each another -/
def gpP (nO n y : Nat) (S go gs : Nat → Nat) (ρ : gS) : Prop := (n ≤ 24 ∧ y < 200) ∧ (∀ t, t < n → go t < nO ∧ gs t < S (go t) ∧ ρ 58 0 (ixl (go t) y (gs t)) = -1 ∧ ρ 59 0 (ixl (go t) y (gs t)) = 0) ∧ (∀ t u, t < n → u < n → go t = go u → gs t = gs u → t = u)
section
variable {nO nL n y : Nat} {S go gs : Nat → Nat} {ad : gA} {ρ μ : gS} {c : Nat → Nat}
theorem gp_ne (hS : ∀ o, o < nO → S o ≤ 3) (hg : gpP nO n y S go gs ρ) {t u : Nat} (ht : t < n) (hu : u < n) (h : t ≠ u) : ixl (go t) y (gs t) ≠ ixl (go u) y (gs u) := by
  obtain ⟨⟨hn, hy⟩, g1, g2⟩ := hg
  have a := g1 t ht
  have b := g1 u hu
  have := hS _ a.1
  have := hS _ b.1
  intro e
  obtain ⟨e1, -, e2⟩ := ix_inj hy (by omega) hy (by omega) e
  exact h (g2 t u ht hu e1 e2)
theorem PW_nil {lo : Nat} (h : eqv ρ μ) : PW go gs y lo lo c ρ μ := ⟨fun K i j q _ _ => h K i j q, fun i j _ => h 58 i j rfl, fun i j _ => h 60 i j rfl, fun t a b => by omega⟩
theorem PW_eqv {lo : Nat} (h : PW go gs y lo lo c ρ μ) : eqv ρ μ := by
  intro K i j q
  by_cases e : K = 58
  · subst e; exact h.2.1 i j (fun _ t a b => by omega)
  · by_cases e' : K = 60
    · subst e'; exact h.2.2.1 i j (fun _ t a b => by omega)
    · exact h.1 K i j q e e'
theorem PW_scr {lo hi : Nat} {K i j : Nat} {v : Int32} (hs : g_scr K j = true) (hK : K ≠ 58 ∧ K ≠ 60) (h : PW go gs y lo hi c ρ μ) : PW go gs y lo hi c ρ (g_up μ K i j v) := by
  obtain ⟨a1, a2, a3, a4⟩ := h
  have e58 : g_up μ K i j v 58 = μ 58 := up_K (fun h => hK.1 h.symm)
  have e60 : g_up μ K i j v 60 = μ 60 := up_K (fun h => hK.2 h.symm)
  refine ⟨?_, ?_, ?_, ?_⟩
  · intro K' i' j' q n1 n2
    unfold g_up
    rw [if_neg]
    · exact a1 K' i' j' q n1 n2
    · intro ⟨h1, _, h3⟩
      rw [h1, h3, hs] at q
      cases q
  · rw [e58]; exact a2
  · rw [e60]; exact a3
  · rw [e58, e60]; exact a4
theorem PW_congr {lo hi : Nat} {c' : Nat → Nat} (h : PW go gs y lo hi c ρ μ) (hc : ∀ t, lo ≤ t → t < hi → c' t = c t) : PW go gs y lo hi c' ρ μ := by
  obtain ⟨a1, a2, a3, a4⟩ := h
  refine ⟨a1, a2, fun i j hh => a3 i j (fun hi t b1 b2 => ?_), fun t b1 b2 => ?_⟩
  · rw [← hc t b1 b2]; exact hh hi t b1 b2
  · rw [hc t b1 b2]; exact a4 t b1 b2
/-- one more put in -/
theorem PW_put (hS : ∀ o, o < nO → S o ≤ 3) (hg : gpP nO n y S go gs ρ) {k : Nat} (hk : k < n) (h : PW go gs y 0 k c ρ μ) (hne : ∀ t, t < k → c t ≠ c k) : PW go gs y 0 (k + 1) c ρ (mput μ (c k) (go k) y (gs k)) := by
  obtain ⟨a1, a2, a3, a4⟩ := h
  have e58 : ∀ i j, mput μ (c k) (go k) y (gs k) 58 i j = if i = 0 ∧ j = ixl (go k) y (gs k) then nI (c k) else μ 58 i j := fun i j => by simp [mput, g_up]
  have e60 : ∀ i j, mput μ (c k) (go k) y (gs k) 60 i j = if i = 0 ∧ j = 200 * c k + y then nI (ixl (go k) y (gs k)) else μ 60 i j := fun i j => by simp [mput, g_up]
  refine ⟨?_, ?_, ?_, ?_⟩
  · intro K i j q n1 n2
    unfold mput
    rw [up_K n2, up_K n1]
    exact a1 K i j q n1 n2
  · intro i j hh
    rw [e58, if_neg (fun h => hh h.1 k (by omega) (by omega) h.2)]
    exact a2 i j (fun hi t b1 b2 => hh hi t b1 (by omega))
  · intro i j hh
    rw [e60, if_neg (fun h => hh h.1 k (by omega) (by omega) h.2)]
    exact a3 i j (fun hi t b1 b2 => hh hi t b1 (by omega))
  · intro t b1 b2
    by_cases e : t = k
    · subst e
      rw [e58, e60, if_pos ⟨rfl, rfl⟩, if_pos ⟨rfl, rfl⟩]
      exact ⟨rfl, rfl⟩
    · rw [e58, e60, if_neg (fun h => gp_ne hS hg (by omega) hk e h.2), if_neg (fun h => hne t (by omega) (by omega))]
      exact a4 t b1 (by omega)
/-- one taken back, at either end -/
theorem PW_back (hS : ∀ o, o < nO → S o ≤ 3) (hg : gpP nO n y S go gs ρ) {lo hi k lo' hi' : Nat} (hhi : hi ≤ n) (hk : lo ≤ k ∧ k < hi) (hl : ∀ t, (lo' ≤ t ∧ t < hi') ↔ (lo ≤ t ∧ t < hi ∧ t ≠ k)) (h : PW go gs y lo hi c ρ μ) (hne : ∀ t, lo ≤ t → t < hi → t ≠ k → c t ≠ c k) (h60 : ρ 60 0 (200 * c k + y) = -1) : PW go gs y lo' hi' c ρ (mout μ (c k) (go k) y (gs k)) := by
  obtain ⟨a1, a2, a3, a4⟩ := h
  have g58 := (hg.2.1 k (by omega)).2.2.1
  have e58 : ∀ i j, mout μ (c k) (go k) y (gs k) 58 i j = if i = 0 ∧ j = ixl (go k) y (gs k) then -1 else μ 58 i j := fun i j => by simp [mout, g_up]
  have e60 : ∀ i j, mout μ (c k) (go k) y (gs k) 60 i j = if i = 0 ∧ j = 200 * c k + y then -1 else μ 60 i j := fun i j => by simp [mout, g_up]
  refine ⟨?_, ?_, ?_, ?_⟩
  · intro K i j q n1 n2
    unfold mout
    rw [up_K n1, up_K n2]
    exact a1 K i j q n1 n2
  · intro i j hh
    rw [e58]
    by_cases e : i = 0 ∧ j = ixl (go k) y (gs k)
    · rw [if_pos e, e.1, e.2, g58]
    · rw [if_neg e]
      refine a2 i j (fun hi t b1 b2 => ?_)
      by_cases e' : t = k
      · subst e'; exact fun h => e ⟨hi, h⟩
      · obtain ⟨r1, r2⟩ := (hl t).mpr ⟨b1, b2, e'⟩
        exact hh hi t r1 r2
  · intro i j hh
    rw [e60]
    by_cases e : i = 0 ∧ j = 200 * c k + y
    · rw [if_pos e, e.1, e.2, h60]
    · rw [if_neg e]
      refine a3 i j (fun hi t b1 b2 => ?_)
      by_cases e' : t = k
      · subst e'; exact fun h => e ⟨hi, h⟩
      · obtain ⟨r1, r2⟩ := (hl t).mpr ⟨b1, b2, e'⟩
        exact hh hi t r1 r2
  · intro t b1 b2
    obtain ⟨r1, r2, r3⟩ := (hl t).mp ⟨b1, b2⟩
    rw [e58, e60, if_neg (fun h => gp_ne hS hg (by omega) (by omega) r3 h.2), if_neg (fun h => hne t r1 r2 r3 (by omega))]
    exact a4 t r1 r2
theorem m_takeBack {k : Nat} (hO : nO ≤ 8) (hS : ∀ o, o < nO → S o ≤ 3) (hg : gpP nO n y S go gs ρ) (hk : k < n) (e67 : μ 67 0 k = nI (ixl (go k) y (gs k))) (e58 : μ 58 0 (ixl (go k) y (gs k)) = nI (c k)) (hc : c k < 24) : f_X9_takeBack ad μ (nI k) (nI y) = some (mout μ (c k) (go k) y (gs k)) := by
  obtain ⟨⟨hn, hy⟩, g1, -⟩ := hg
  obtain ⟨ho, hs, -, -⟩ := g1 k hk
  have hS' := hS _ ho
  have hix := ix_lt (o := go k) (y := y) (s := gs k) (by omega) hy (by omega)
  have pk := (z_ix (n := 24) (show k < 2147483648 by omega)).mpr (by omega)
  have pq := (z_ix (n := 4800) (show ixl (go k) y (gs k) < 2147483648 by omega)).mpr (by omega)
  have pr := (z_ix (n := 4800) (show 200 * c k + y < 2147483648 by omega)).mpr (by omega)
  unfold f_X9_takeBack mout
  simp only [if_pos pk, z_clamp (show k < 2147483648 by omega), e67, if_pos pq, z_clamp (show ixl (go k) y (gs k) < 2147483648 by omega), e58, z_200, pk_mul, nI_add, if_pos pr, z_clamp (show 200 * c k + y < 2147483648 by omega), g_let]
  rw [show g_up μ 60 0 (200 * c k + y) (-1) 67 0 k = nI (ixl (go k) y (gs k)) from e67, if_pos pq, z_clamp (by omega)]
/-! who could, with those put in -/
theorem fLw_m2 {f : Nat → Bool} : ∀ (k j : Nat), j + k < 2147483648 → (fLw f k j = -2 ↔ ∀ l, j ≤ l → l < j + k → f l = false) := by
  intro k
  induction k with
  | zero =>
    intro j hj
    exact ⟨fun _ l a b => by omega, fun _ => rfl⟩
  | succ k ih =>
    intro j hj
    unfold fLw
    cases h : f j
    · rw [if_neg (by simp), ih (j + 1) (by omega)]
      constructor
      · intro hh l a b
        by_cases e : l = j
        · rw [e, h]
        · exact hh l (by omega) (by omega)
      · intro hh l a b
        exact hh l (by omega) (by omega)
    · rw [if_pos rfl]
      constructor
      · intro hh
        rw [z_eqm2 (by omega)] at hh
        exact hh.elim
      · intro hh
        rw [hh j (by omega) (by omega)] at h
        cases h
/-- the life allows it -/
def lfP (σ : gS) (p y : Nat) : Prop := nI y < σ 50 0 p ∧ σ 47 0 p ≤ nI y ∧ ¬ (¬ nI y < σ 51 0 p ∧ ¬ σ 52 0 p < nI y)
theorem bar_iff {p o : Nat} {own : Bool} (hL : nL ≤ 20) : barS μ S nL p o y own = -2 ↔ lfP μ p y ∧ (own = true → μ 60 0 (200 * p + y) < 0) ∧ ∀ l, l < nL → (inB μ l o y && brB μ S l p o y) = false := by
  have hf := fLw_m2 (f := fun l => inB μ l o y && brB μ S l p o y) nL 0 (by omega)
  unfold barS lfP
  by_cases c1 : nI y < μ 50 0 p
  · rw [if_pos c1]
    by_cases c2 : μ 47 0 p ≤ nI y
    · rw [if_pos c2]
      by_cases c3 : ¬ nI y < μ 51 0 p ∧ ¬ μ 52 0 p < nI y
      · rw [if_pos c3]
        exact ⟨fun h => absurd h (by decide), fun h => absurd c3 h.1.2.2⟩
      · rw [if_neg c3]
        by_cases c4 : own = true ∧ ¬ μ 60 0 (200 * p + y) < 0
        · rw [if_pos c4]
          exact ⟨fun h => absurd h (by decide), fun h => absurd (h.2.1 c4.1) c4.2⟩
        · rw [if_neg c4, hf]
          constructor
          · intro h
            refine ⟨⟨c1, c2, c3⟩, fun ho => ?_, fun l hl => h l (by omega) (by omega)⟩
            by_cases c5 : μ 60 0 (200 * p + y) < 0
            · exact c5
            · exact absurd ⟨ho, c5⟩ c4
          · intro h l _ hl
            exact h.2.2 l (by omega)
    · rw [if_neg c2]
      exact ⟨fun h => absurd h (by decide), fun h => absurd h.1.2.1 c2⟩
  · rw [if_neg c1]
    exact ⟨fun h => absurd h (by decide), fun h => absurd h.1.1 c1⟩
/-- a law on kin binds -/
def kbB (σ : gS) (nL y o : Nat) : Bool := exB (fun l => inB σ l o y && decide (σ 53 0 l = 5)) nL
theorem kB_sym (σ : gS) (p q : Nat) : kB σ p q = kB σ q p := by
  have : ∀ a b, kB σ a b = true → kB σ b a = true := by
    intro a b h
    rw [kB_iff] at h ⊢
    unfold kinP at h ⊢
    rcases h with h | h | ⟨h1, h2⟩
    · exact Or.inr (Or.inl h)
    · exact Or.inl h
    · exact Or.inr (Or.inr ⟨h2 ▸ h1, h2.symm⟩)
  cases h : kB σ p q
  · cases h' : kB σ q p
    · rfl
    · rw [this q p h'] at h; cases h
  · rw [this p q h]
/-- kin, with those put in -/
theorem hk_puts (hO : nO ≤ 8) (hS : ∀ o, o < nO → S o ≤ 3) (hg : gpP nO n y S go gs ρ) {k p o : Nat} (hk : k ≤ n) (h : PW go gs y 0 k c ρ μ) (hc : ∀ t, t < k → c t < 24) (hp : p < 24) (ho : o < nO) : hkB μ S p o y = (hkB ρ S p o y || exB (fun t => decide (go t = o) && (!decide (c t = p) && kB ρ p (c t))) k) := by
  obtain ⟨a1, a2, a3, a4⟩ := h
  have hk9 : ∀ q, kB μ p q = kB ρ p q := by
    intro q
    unfold kB
    rw [a1 49 0 p rfl (by decide) (by decide), a1 49 0 q rfl (by decide) (by decide)]
  have e59 : ∀ j, μ 59 0 j = ρ 59 0 j := fun j => a1 59 0 j rfl (by decide) (by decide)
  have hiff : hkB μ S p o y = true ↔ (hkB ρ S p o y || exB (fun t => decide (go t = o) && (!decide (c t = p) && kB ρ p (c t))) k) = true := by
    rw [Bool.or_eq_true]
    unfold hkB
    rw [exB_iff, exB_iff, exB_iff]
    constructor
    · rintro ⟨s, hs, hb⟩
      by_cases e : ∃ t, t < k ∧ ixl o y s = ixl (go t) y (gs t)
      · obtain ⟨t, ht, e⟩ := e
        right
        refine ⟨t, ht, ?_⟩
        have hy := hg.1.2
        have g1 := hg.2.1 t (by omega)
        have hS' := hS _ g1.1
        have hSo := hS _ ho
        have hot : o = go t := (ix_inj hy (by omega) hy (by omega) e).1
        rw [e, (a4 t (by omega) ht).1, hk9, e59] at hb
        have hct := hc t ht
        rw [nI_clamp (by omega)] at hb
        simp only [Bool.and_eq_true] at hb
        obtain ⟨⟨⟨-, b2⟩, -⟩, b4⟩ := hb
        have b2' : ¬ c t = p := by
          intro e
          rw [e] at b2
          simp at b2
        simp [← hot, b2', b4]
      · left
        have e58 : μ 58 0 (ixl o y s) = ρ 58 0 (ixl o y s) := a2 0 _ (fun _ t b1 b2 e' => e ⟨t, b2, e'⟩)
        rw [e58, hk9, e59] at hb
        exact ⟨s, hs, hb⟩
    · rintro (⟨s, hs, hb⟩ | ⟨t, ht, hb⟩)
      · refine ⟨s, hs, ?_⟩
        by_cases e : ∃ t, t < k ∧ ixl o y s = ixl (go t) y (gs t)
        · obtain ⟨t, ht, e⟩ := e
          rw [e, (hg.2.1 t (by omega)).2.2.1] at hb
          simp at hb
        · have e58 : μ 58 0 (ixl o y s) = ρ 58 0 (ixl o y s) := a2 0 _ (fun _ t b1 b2 e' => e ⟨t, b2, e'⟩)
          rw [e58, hk9, e59]
          exact hb
      · have g1 := hg.2.1 t (by omega)
        have hct := hc t ht
        simp only [Bool.and_eq_true, decide_eq_true_eq] at hb
        obtain ⟨b1, b2, b3⟩ := hb
        have b2' : ¬ c t = p := by simpa using b2
        have b2'' : ¬ nI (c t) = nI p := fun e => b2' ((z_eq (by omega) (by omega)).mp e)
        subst b1
        refine ⟨gs t, g1.2.1, ?_⟩
        rw [(a4 t (by omega) ht).1, hk9, e59, g1.2.2.2, nI_clamp (by omega)]
        simp [z_lt0 (show c t < 2147483648 by omega), b2'', b3]
  cases h1 : hkB μ S p o y <;> cases h2 : (hkB ρ S p o y || exB (fun t => decide (go t = o) && (!decide (c t = p) && kB ρ p (c t))) k)
  · rfl
  · rw [hiff.mpr h2] at h1; cases h1
  · rw [hiff.mp h1] at h2; cases h2
  · rfl
theorem law_puts (hO : nO ≤ 8) (hS : ∀ o, o < nO → S o ≤ 3) (hg : gpP nO n y S go gs ρ) (h6 : J_lawM nO nL ρ) {k p o : Nat} (hk : k ≤ n) (h : PW go gs y 0 k c ρ μ) (hc : ∀ t, t < k → c t < 24) (hp : p < 24) (ho : o < nO) : (∀ l, l < nL → (inB μ l o y && brB μ S l p o y) = false) ↔ (∀ l, l < nL → (inB ρ l o y && brB ρ S l p o y) = false) ∧ (kbB ρ nL y o && exB (fun t => decide (go t = o) && (!decide (c t = p) && kB ρ p (c t))) k) = false := by
  have hkk := hk_puts (p := p) (o := o) hO hS hg hk h hc hp ho
  obtain ⟨a1, a2, a3, a4⟩ := h
  have hy := hg.1.2
  have ein : ∀ l, inB μ l o y = inB ρ l o y := by
    intro l
    unfold inB
    rw [a1 45 0 o rfl (by decide) (by decide), a1 54 0 l rfl (by decide) (by decide), a1 56 0 l rfl (by decide) (by decide), a1 57 0 l rfl (by decide) (by decide)]
  have hh : ∀ a j, j < y → hB μ p a j = hB ρ p a j := by
    intro a j hj
    have : μ 60 0 (200 * p + j) = ρ 60 0 (200 * p + j) := a3 0 _ (fun _ t _ _ => by omega)
    unfold hB
    rw [this, a1 59 0 _ rfl (by decide) (by decide)]
  have hw : ∀ a m, hwB μ p a y m = hwB ρ p a y m := by
    intro a m
    unfold hwB
    apply exB_congr
    intro j hj
    rw [hh a j hj]
  have e53 : ∀ l, μ 53 0 l = ρ 53 0 l := fun l => a1 53 0 l rfl (by decide) (by decide)
  have ebr : ∀ l, l < nL → brB μ S l p o y = (brB ρ S l p o y || (decide (ρ 53 0 l = 5) && exB (fun t => decide (go t = o) && (!decide (c t = p) && kB ρ p (c t))) k)) := by
    intro l hl
    obtain ⟨kk, m, f, hk5, e53k, -⟩ := h6 l hl
    have e5 : (ρ 53 0 l = 5) ↔ kk = 5 := by rw [e53k, z_5, z_eq (by omega) (by omega)]
    have en : ∀ i, i < 5 → ((ρ 53 0 l = nI i) ↔ kk = i) := fun i hi => by rw [e53k, z_eq (by omega) (by omega)]
    unfold brB
    rw [e53, a1 55 0 l rfl (by decide) (by decide), a1 47 0 p rfl (by decide) (by decide), a1 46 0 p rfl (by decide) (by decide), hw, hw, exB_congr (fun j hj => hh (ρ 55 0 l) j hj), hkk]
    have t0 : ρ 53 0 l = 0 ↔ kk = 0 := en 0 (by omega)
    have t1 : ρ 53 0 l = 1 ↔ kk = 1 := en 1 (by omega)
    have t2 : ρ 53 0 l = 2 ↔ kk = 2 := en 2 (by omega)
    have t3 : ρ 53 0 l = 3 ↔ kk = 3 := en 3 (by omega)
    have t4 : ρ 53 0 l = 4 ↔ kk = 4 := en 4 (by omega)
    rcases (show kk = 0 ∨ kk = 1 ∨ kk = 2 ∨ kk = 3 ∨ kk = 4 ∨ kk = 5 by omega) with r | r | r | r | r | r <;> subst r <;> simp [t0, t1, t2, t3, t4, e5]
  constructor
  · intro hall
    refine ⟨fun l hl => ?_, ?_⟩
    · have := hall l hl
      rw [ein, ebr l hl] at this
      cases h1 : inB ρ l o y
      · rfl
      · rw [h1] at this
        cases h2 : brB ρ S l p o y
        · rfl
        · rw [h2] at this; simp at this
    · cases h1 : kbB ρ nL y o
      · rfl
      · obtain ⟨l, hl, hb⟩ := exB_iff.mp h1
        rw [Bool.and_eq_true] at hb
        have := hall l hl
        rw [ein, ebr l hl, hb.1, hb.2] at this
        cases h2 : exB (fun t => decide (go t = o) && (!decide (c t = p) && kB ρ p (c t))) k
        · rfl
        · rw [h2] at this; simp at this
  · rintro ⟨hall, hk2⟩ l hl
    have := hall l hl
    rw [ein, ebr l hl]
    cases h1 : inB ρ l o y
    · rfl
    · rw [h1] at this
      simp only [Bool.true_and] at this ⊢
      rw [this, Bool.false_or]
      cases h3 : decide (ρ 53 0 l = 5)
      · rfl
      · have : kbB ρ nL y o = true := exB_iff.mpr ⟨l, hl, by rw [h1, h3]; rfl⟩
        rw [this, Bool.true_and] at hk2
        rw [hk2]; rfl
theorem life_puts {lo hi p : Nat} (h : PW go gs y lo hi c ρ μ) : lfP μ p y ↔ lfP ρ p y := by
  obtain ⟨a1, -⟩ := h
  unfold lfP
  rw [a1 50 0 p rfl (by decide) (by decide), a1 47 0 p rfl (by decide) (by decide), a1 51 0 p rfl (by decide) (by decide), a1 52 0 p rfl (by decide) (by decide)]
/-- a try is taken: by the reference's look, and by what both know -/
theorem fit_puts (hO : nO ≤ 8) (hL : nL ≤ 20) (hS : ∀ o, o < nO → S o ≤ 3) (hg : gpP nO n y S go gs ρ) (h6 : J_lawM nO nL ρ) {k p : Nat} (hk : k < n) (h : PW go gs y 0 k c ρ μ) (hc : ∀ t, t < k → c t < 24) (hp : p < 24) : barS μ S nL p (go k) y true = -2 ↔ fitB (fun p o => decide (barS ρ S nL p o y true = -2)) (kbB ρ nL y) (kB ρ) go k c p = true := by
  rw [bar_iff hL, law_puts hO hS hg h6 (by omega) h hc hp (hg.2.1 k hk).1, life_puts h]
  unfold fitB
  rw [Bool.and_eq_true, Bool.and_eq_true, decide_eq_true_eq, bar_iff hL]
  by_cases e : exB (fun j => decide (c j = p)) k = true
  · obtain ⟨t, ht, hb⟩ := exB_iff.mp e
    have hb := of_decide_eq_true hb
    rw [e]
    constructor
    · rintro ⟨-, b2, -⟩
      have := b2 rfl
      rw [← hb, (h.2.2.2 t (by omega) ht).2] at this
      have g1 := hg.2.1 t (by omega)
      have := hS _ g1.1
      have hix := ix_lt (o := go t) (y := y) (s := gs t) (by omega) hg.1.2 (by omega)
      exact absurd (b2 rfl) (by rw [← hb, (h.2.2.2 t (by omega) ht).2]; exact nI_pos (by omega))
    · rintro ⟨⟨-, b2⟩, -⟩
      simp at b2
  · have e : exB (fun j => decide (c j = p)) k = false := by
      cases hx : exB (fun j => decide (c j = p)) k
      · rfl
      · exact absurd hx e
    have hne : ∀ t, t < k → c t ≠ p := fun t ht => of_decide_eq_false (exB_no.mp e t ht)
    have e60 : μ 60 0 (200 * p + y) = ρ 60 0 (200 * p + y) := h.2.2.1 0 _ (fun _ t _ ht => by have := hne t ht; omega)
    have hex : exB (fun t => decide (go t = go k) && (!decide (c t = p) && kB ρ p (c t))) k = exB (fun j => decide (go j = go k) && kB ρ p (c j)) k := by
      apply exB_congr
      intro t ht
      rw [decide_eq_false (hne t ht)]
      rfl
    rw [e60, hex, e]
    constructor
    · rintro ⟨b1, b2, b3, b4⟩
      exact ⟨⟨⟨b1, b2, b3⟩, rfl⟩, by rw [b4]; rfl⟩
    · rintro ⟨⟨⟨b1, b2, b3⟩, -⟩, b4⟩
      refine ⟨b1, b2, b3, ?_⟩
      cases hh : (kbB ρ nL y (go k) && exB (fun j => decide (go j = go k) && kB ρ p (c j)) k)
      · rfl
      · rw [hh] at b4; cases b4
/-- at the end all are right -/
theorem right_puts (hO : nO ≤ 8) (hL : nL ≤ 20) (hS : ∀ o, o < nO → S o ≤ 3) (hg : gpP nO n y S go gs ρ) (h6 : J_lawM nO nL ρ) (h : PW go gs y 0 n c ρ μ) (hc : ∀ t, t < n → c t < 24) (hf : ∀ t, t < n → fitB (fun p o => decide (barS ρ S nL p o y true = -2)) (kbB ρ nL y) (kB ρ) go t c (c t) = true) {k : Nat} (hk : k < n) : barS μ S nL (c k) (go k) y false = -2 := by
  rw [bar_iff hL, law_puts hO hS hg h6 (Nat.le_refl _) h hc (hc k hk) (hg.2.1 k hk).1, life_puts h]
  have fk := hf k hk
  unfold fitB at fk
  rw [Bool.and_eq_true, Bool.and_eq_true, decide_eq_true_eq, bar_iff hL] at fk
  obtain ⟨⟨⟨b1, b2, b3⟩, b4⟩, b5⟩ := fk
  refine ⟨b1, fun h => Bool.noConfusion h, b3, ?_⟩
  cases hkb : kbB ρ nL y (go k)
  · rfl
  · rw [Bool.true_and, exB_no]
    intro t ht
    by_cases e1 : go t = go k
    · by_cases e2 : c t = c k
      · simp [e2]
      · cases e3 : kB ρ (c k) (c t)
        · simp
        · exfalso
          by_cases e4 : t < k
          · rw [hkb, Bool.true_and, exB_iff.mpr ⟨t, e4, by simp [e1, e3]⟩] at b5
            simp at b5
          · have e5 : t ≠ k := fun e => e2 (by rw [e])
            have ft := hf t ht
            unfold fitB at ft
            rw [Bool.and_eq_true] at ft
            have b6 := ft.2
            rw [e1, hkb, Bool.true_and, exB_iff.mpr ⟨k, by omega, by rw [kB_sym] at e3; simp [e3]⟩] at b6
            simp at b6
    · simp [e1]
/-- the reference's world, with those put in -/
theorem wM_puts (hw : wM nO nL S ρ) (hg : gpP nO n y S go gs ρ) {k : Nat} (hk : k ≤ n) (h : PW go gs y 0 k c ρ μ) (hc : ∀ t, t < k → c t < 24) : wM nO nL S μ := by
  obtain ⟨⟨hO, hL, m3⟩, w1, w2, w3, w4⟩ := hw
  obtain ⟨a1, a2, a3, a4⟩ := h
  refine ⟨⟨hO, hL, (a1 9 0 3 rfl (by decide) (by decide)).trans m3⟩, ?_, ?_, ?_, ?_⟩
  · intro p y' hp hy'
    by_cases e : ∃ t, t < k ∧ 200 * p + y' = 200 * c t + y
    · obtain ⟨t, ht, e⟩ := e
      have g1 := hg.2.1 t (by omega)
      have := (w4 _ g1.1).1
      exact Or.inr ⟨_, ix_lt (o := go t) (y := y) (s := gs t) (by omega) hg.1.2 (by omega), by rw [e]; exact (a4 t (by omega) ht).2⟩
    · rw [a3 0 _ (fun _ t _ ht e' => e ⟨t, ht, e'⟩)]
      exact w1 p y' hp hy'
  · intro o y' s ho hy' hs
    by_cases e : ∃ t, t < k ∧ ixl o y' s = ixl (go t) y (gs t)
    · obtain ⟨t, ht, e⟩ := e
      exact Or.inr ⟨c t, hc t ht, by rw [e]; exact (a4 t (by omega) ht).1⟩
    · rw [a2 0 _ (fun _ t _ ht e' => e ⟨t, ht, e'⟩)]
      exact w2 o y' s ho hy' hs
  · intro l hl
    rw [a1 53 0 l rfl (by decide) (by decide), a1 54 0 l rfl (by decide) (by decide), a1 55 0 l rfl (by decide) (by decide), a1 56 0 l rfl (by decide) (by decide)]
    exact w3 l hl
  · intro o ho
    rw [a1 44 0 o rfl (by decide) (by decide)]
    exact w4 o ho
end
