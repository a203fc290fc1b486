/-! PURE: the search for fillings, as both sides do it: tries, found, hits, how it stopped (1 spent, 2 found), who was chosen -/
abbrev qS : Type := Nat × Nat × Nat × Nat × (Nat → Nat)
def c_up (c : Nat → Nat) (k p : Nat) : Nat → Nat := fun j => if j = k then p else c j
theorem c_up_s {c : Nat → Nat} {k p : Nat} : c_up c k p k = p := if_pos rfl
theorem c_up_ne {c : Nat → Nat} {k p j : Nat} (h : j ≠ k) : c_up c k p j = c j := if_neg h
def q_leaf (one : Bool) (hit : (Nat → Nat) → Bool) (st : qS) : qS := (st.1, st.2.1 + 1, st.2.2.1 + (if hit st.2.2.2.2 then 1 else 0), (if one then 2 else 0), st.2.2.2.2)
def q_spent (st : qS) : qS := (st.1, st.2.1, st.2.2.1, 1, st.2.2.2.2)
def q_try (st : qS) : qS := (st.1 + 1, st.2.1, st.2.2.1, st.2.2.2.1, st.2.2.2.2)
def q_take (st : qS) (k p : Nat) : qS := (st.1 + 1, st.2.1, st.2.2.1, st.2.2.2.1, c_up st.2.2.2.2 k p)
def plL (fit : Nat → (Nat → Nat) → Nat → Bool) (rc : qS → qS) (k : Nat) : Nat → Nat → qS → qS
  | 0, _, st => st
  | m + 1, p, st => if st.2.2.2.1 = 0 then (if st.1 < 20000 then (if fit k st.2.2.2.2 p = true then plL fit rc k m (p + 1) (rc (q_take st k p)) else plL fit rc k m (p + 1) (q_try st)) else q_spent st) else st
def q_start (go : Nat → Nat) (k : Nat) (c : Nat → Nat) : Nat := if 0 < k ∧ go (k - 1) = go k then c (k - 1) + 1 else 0
def pl (fit : Nat → (Nat → Nat) → Nat → Bool) (go : Nat → Nat) (one : Bool) (hit : (Nat → Nat) → Bool) (nP : Nat) : Nat → Nat → qS → qS
  | 0, _, st => q_leaf one hit st
  | d + 1, k, st => plL fit (pl fit go one hit nP d (k + 1)) k (nP - q_start go k st.2.2.2.2) (q_start go k st.2.2.2.2) st
theorem plL_stop {fit : Nat → (Nat → Nat) → Nat → Bool} {rc : qS → qS} {k m p : Nat} {st : qS} (h : st.2.2.2.1 ≠ 0) : plL fit rc k m p st = st := by
  cases m with
  | zero => rfl
  | succ m => unfold plL; rw [if_neg h]
def okS (one : Bool) (st : qS) : Prop := st.1 ≤ 20000 ∧ st.2.2.2.1 ≤ 2 ∧ (st.2.2.2.1 ≠ 2 → one = true → st.2.1 = 0) ∧ (st.2.2.2.1 = 2 → one = true ∧ st.2.1 = 1)
/-- what a step keeps -/
def stK (one : Bool) (k e : Nat) (st st' : qS) : Prop := okS one st' ∧ (∀ j, j < k → st'.2.2.2.2 j = st.2.2.2.2 j) ∧ st.1 ≤ st'.1 ∧ st'.2.1 + st.1 ≤ st.2.1 + st'.1 + e
section
variable {fit : Nat → (Nat → Nat) → Nat → Bool} {go : Nat → Nat} {one : Bool} {hit : (Nat → Nat) → Bool} {nP : Nat}
theorem okS_leaf {st : qS} (h : okS one st) (hX : st.2.2.2.1 = 0) : okS one (q_leaf one hit st) := by
  obtain ⟨a, b, c, d⟩ := h
  have c := c (by omega)
  unfold q_leaf okS
  cases one
  · exact ⟨a, by simp, fun _ hh => Bool.noConfusion hh, fun hh => absurd hh (by simp)⟩
  · refine ⟨a, by simp, fun hh => absurd rfl hh, fun _ => ⟨rfl, ?_⟩⟩
    have := c rfl
    simp [this]
theorem okS_try {st : qS} (h : okS one st) (hT : st.1 < 20000) : okS one (q_try st) := ⟨hT, h.2.1, h.2.2.1, h.2.2.2⟩
theorem okS_take {st : qS} {k p : Nat} (h : okS one st) (hT : st.1 < 20000) : okS one (q_take st k p) := ⟨hT, h.2.1, h.2.2.1, h.2.2.2⟩
theorem okS_spent {st : qS} (h : okS one st) (hX : st.2.2.2.1 = 0) : okS one (q_spent st) := ⟨h.1, show 1 ≤ 2 by omega, fun _ => h.2.2.1 (by omega), fun hh => absurd hh (show ¬ (1 = 2) by omega)⟩
theorem plL_ok {rc : qS → qS} {k : Nat} (hrc : ∀ st, okS one st → st.2.2.2.1 = 0 → stK one (k + 1) 1 st (rc st)) :
    ∀ (m p : Nat) (st : qS), okS one st → stK one k 0 st (plL fit rc k m p st) := by
  intro m
  induction m with
  | zero =>
    intro p st h
    exact ⟨h, fun _ _ => rfl, Nat.le_refl _, Nat.le_refl _⟩
  | succ m ih =>
    intro p st h
    unfold plL
    by_cases hX : st.2.2.2.1 = 0
    · rw [if_pos hX]
      by_cases hT : st.1 < 20000
      · rw [if_pos hT]
        by_cases hf : fit k st.2.2.2.2 p = true
        · rw [if_pos hf]
          obtain ⟨a1, a2, a3, a4⟩ := hrc (q_take st k p) (okS_take h hT) hX
          obtain ⟨b1, b2, b3, b4⟩ := ih (p + 1) (rc (q_take st k p)) a1
          have e1 : (q_take st k p).1 = st.1 + 1 := rfl
          have e2 : (q_take st k p).2.1 = st.2.1 := rfl
          refine ⟨b1, fun j hj => ?_, by omega, by omega⟩
          rw [b2 j hj, a2 j (by omega)]
          exact c_up_ne (by omega)
        · rw [if_neg hf]
          obtain ⟨b1, b2, b3, b4⟩ := ih (p + 1) (q_try st) (okS_try h hT)
          have e1 : (q_try st).1 = st.1 + 1 := rfl
          have e2 : (q_try st).2.1 = st.2.1 := rfl
          exact ⟨b1, fun j hj => b2 j hj, by omega, by omega⟩
      · rw [if_neg hT]
        exact ⟨okS_spent h hX, fun _ _ => rfl, Nat.le_refl _, Nat.le_refl _⟩
    · rw [if_neg hX]
      exact ⟨h, fun _ _ => rfl, Nat.le_refl _, Nat.le_refl _⟩
theorem pl_ok : ∀ (d k : Nat) (st : qS), okS one st → st.2.2.2.1 = 0 → stK one k 1 st (pl fit go one hit nP d k st) := by
  intro d
  induction d with
  | zero =>
    intro k st h hX
    exact ⟨okS_leaf h hX, fun _ _ => rfl, Nat.le_refl _, show st.2.1 + 1 + st.1 ≤ st.2.1 + st.1 + 1 by omega⟩
  | succ d ih =>
    intro k st h hX
    obtain ⟨b1, b2, b3, b4⟩ := plL_ok (fit := fit) (k := k) (fun st h hX => ih (k + 1) st h hX) (nP - q_start go k st.2.2.2.2) (q_start go k st.2.2.2.2) st h
    exact ⟨b1, b2, b3, Nat.le_succ_of_le b4⟩
end
/-! the empty seats of a year, in their order -/
def glS (σ : gS) (y o : Nat) : Nat → List (Nat × Nat)
  | 0 => []
  | s + 1 => if σ 58 0 (ixl o y s) < 0 then glS σ y o s ++ [(o, s)] else glS σ y o s
def glO (σ : gS) (S : Nat → Nat) (y : Nat) : Nat → List (Nat × Nat)
  | 0 => []
  | o + 1 => glO σ S y o ++ glS σ y o (S o)
theorem glS_mem {σ : gS} {y o : Nat} : ∀ (s : Nat) (q : Nat × Nat), q ∈ glS σ y o s → q.1 = o ∧ q.2 < s ∧ σ 58 0 (ixl o y q.2) < 0 := by
  intro s
  induction s with
  | zero =>
    intro q hq
    cases hq
  | succ s ih =>
    intro q hq
    unfold glS at hq
    by_cases c : σ 58 0 (ixl o y s) < 0
    · rw [if_pos c, List.mem_append] at hq
      rcases hq with hq | hq
      · obtain ⟨a, b, e⟩ := ih q hq
        exact ⟨a, by omega, e⟩
      · have : q = (o, s) := by simpa using hq
        subst this
        exact ⟨rfl, Nat.lt_succ_self _, c⟩
    · rw [if_neg c] at hq
      obtain ⟨a, b, e⟩ := ih q hq
      exact ⟨a, by omega, e⟩
theorem glO_mem {σ : gS} {S : Nat → Nat} {y : Nat} : ∀ (o : Nat) (q : Nat × Nat), q ∈ glO σ S y o → q.1 < o ∧ q.2 < S q.1 ∧ σ 58 0 (ixl q.1 y q.2) < 0 := by
  intro o
  induction o with
  | zero =>
    intro q hq
    cases hq
  | succ o ih =>
    intro q hq
    unfold glO at hq
    rw [List.mem_append] at hq
    rcases hq with hq | hq
    · obtain ⟨a, b, e⟩ := ih q hq
      exact ⟨by omega, b, e⟩
    · obtain ⟨a, b, e⟩ := glS_mem _ q hq
      rw [a]
      exact ⟨by omega, b, e⟩
theorem glS_len {σ : gS} {y o : Nat} (s : Nat) : (glS σ y o s).length ≤ s := by
  induction s with
  | zero => exact Nat.le_refl _
  | succ s ih =>
    unfold glS
    split
    · rw [List.length_append]
      simpa using ih
    · omega
theorem glO_len {σ : gS} {S : Nat → Nat} {y nO : Nat} (hS : ∀ o, o < nO → S o ≤ 3) (o : Nat) (ho : o ≤ nO) : (glO σ S y o).length ≤ 3 * o := by
  induction o with
  | zero => exact Nat.le_refl _
  | succ o ih =>
    unfold glO
    rw [List.length_append]
    have h1 := ih (by omega)
    have h2 := glS_len (σ := σ) (y := y) (o := o) (S o)
    have h3 := hS o (by omega)
    omega
theorem glS_nd {σ : gS} {y o : Nat} (s : Nat) : (glS σ y o s).Nodup := by
  induction s with
  | zero => exact List.nodup_nil
  | succ s ih =>
    unfold glS
    split
    · rw [List.nodup_append]
      refine ⟨ih, by simp, fun a ha b hb => ?_⟩
      have := glS_mem s a ha
      have hb : b = (o, s) := by simpa using hb
      intro e
      rw [e, hb] at this
      exact Nat.lt_irrefl _ this.2.1
    · exact ih
theorem glO_nd {σ : gS} {S : Nat → Nat} {y : Nat} (o : Nat) : (glO σ S y o).Nodup := by
  induction o with
  | zero => exact List.nodup_nil
  | succ o ih =>
    unfold glO
    rw [List.nodup_append]
    refine ⟨ih, glS_nd _, fun a ha b hb => ?_⟩
    have h1 := glO_mem o a ha
    have h2 := glS_mem _ b hb
    intro e
    rw [e] at h1
    omega
def glA (G : List (Nat × Nat)) (j : Nat) : Nat × Nat := (G[j]?).getD (0, 0)
theorem glA_mem {G : List (Nat × Nat)} {j : Nat} (h : j < G.length) : glA G j ∈ G := by
  unfold glA
  rw [List.getElem?_eq_getElem h]
  exact List.getElem_mem h
theorem glA_lt {G : List (Nat × Nat)} {q : Nat × Nat} {j : Nat} (h : j < G.length) : glA (G ++ [q]) j = glA G j := by
  unfold glA
  rw [List.getElem?_append_left h]
theorem glA_end {G : List (Nat × Nat)} {q : Nat × Nat} : glA (G ++ [q]) G.length = q := by
  unfold glA
  simp
theorem glA_inj {G : List (Nat × Nat)} (hn : G.Nodup) {i j : Nat} (hi : i < G.length) (hj : j < G.length) (h : glA G i = glA G j) : i = j := by
  unfold glA at h
  rw [List.getElem?_eq_getElem hi, List.getElem?_eq_getElem hj] at h
  have h : G[i] = G[j] := h
  rcases Nat.lt_trichotomy i j with c | c | c
  · exact absurd h (List.pairwise_iff_getElem.mp hn i j hi hj c)
  · exact c
  · exact absurd h.symm (List.pairwise_iff_getElem.mp hn j i hj hi c)
/-- who may be put where, by who has been -/
def fitB (A : Nat → Nat → Bool) (kb : Nat → Bool) (kn : Nat → Nat → Bool) (go : Nat → Nat) (k : Nat) (c : Nat → Nat) (p : Nat) : Bool := A p (go k) && !exB (fun j => decide (c j = p)) k && !(kb (go k) && exB (fun j => decide (go j = go k) && kn p (c j)) k)
def hitF (w wh : Int32) (go : Nat → Nat) (n : Nat) (c : Nat → Nat) : Bool := exB (fun j => decide (nI (c j) = w) && decide (nI (go j) = wh)) n
theorem fitB_loc {A : Nat → Nat → Bool} {kb : Nat → Bool} {kn : Nat → Nat → Bool} {go : Nat → Nat} {k p : Nat} {c c' : Nat → Nat} (h : ∀ j, j < k → c j = c' j) : fitB A kb kn go k c p = fitB A kb kn go k c' p := by
  unfold fitB
  rw [exB_congr (f := fun j => decide (c j = p)) (g := fun j => decide (c' j = p)) (fun j hj => by rw [h j hj]), exB_congr (f := fun j => decide (go j = go k) && kn p (c j)) (g := fun j => decide (go j = go k) && kn p (c' j)) (fun j hj => by rw [h j hj])]
theorem fitB_ne {A : Nat → Nat → Bool} {kb : Nat → Bool} {kn : Nat → Nat → Bool} {go : Nat → Nat} {k p : Nat} {c : Nat → Nat} (h : fitB A kb kn go k c p = true) : ∀ j, j < k → c j ≠ p := by
  intro j hj e
  unfold fitB at h
  rw [exB_iff.mpr ⟨j, hj, by simp [e]⟩] at h
  simp at h
