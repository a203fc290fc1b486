/-! PURE: sure -/
def Srt (v : Nat → Nat) : Nat → (Nat → Nat) → Prop
  | 0, _ => True
  | n + 1, r' => ∃ (r : Nat → Nat) (t : Nat), Srt v n r ∧ t ≤ n ∧ (∀ p, t ≤ p → p < n → r p < v n) ∧ (t = 0 ∨ v n ≤ r (t - 1)) ∧ ∀ j, j ≤ n → r' j = if j < t then r j else if j = t then v n else r (j - 1)
def abvS (v : Nat → Nat) (i : Nat) : Nat → Nat
  | 0 => 0
  | o + 1 => abvS v i o + (if v i < v o ∨ (v o = v i ∧ o < i) then 1 else 0)
def lastS (v a : Nat → Nat) (t : Nat) : Nat → Nat
  | 0 => 0
  | n + 1 => if a n = t then v n else lastS v a t n
theorem srt_s {v r' : Nat → Nat} (n : Nat) (h : Srt v (n + 1) r') : ∃ (r : Nat → Nat) (t : Nat), Srt v n r ∧ t ≤ n ∧ (∀ p, t ≤ p → p < n → r p < v n) ∧ (t = 0 ∨ v n ≤ r (t - 1)) ∧ ∀ j, j ≤ n → r' j = if j < t then r j else if j = t then v n else r (j - 1) := h
theorem srt1 {v r : Nat → Nat} (h : Srt v 1 r) : r 0 = v 0 := by
  obtain ⟨r0, t, -, ht, h1, h2, h3⟩ := srt_s 0 h
  have := h3 0 (by omega)
  rw [if_neg (by omega), if_pos (by omega)] at this
  exact this
theorem srt2 {v r : Nat → Nat} (h : Srt v 2 r) : (v 0 < v 1 ∧ r 0 = v 1 ∧ r 1 = v 0) ∨ (v 1 ≤ v 0 ∧ r 0 = v 0 ∧ r 1 = v 1) := by
  obtain ⟨r0, t, hs, ht, h1, h2, h3⟩ := srt_s 1 h
  have s := srt1 hs
  have q0 := h3 0 (by omega)
  have q1 := h3 1 (by omega)
  rcases (show t = 0 ∨ t = 1 by omega) with e | e
  · subst e
    have := h1 0 (by omega) (by omega)
    simp at q0 q1
    exact Or.inl ⟨by omega, q0, by omega⟩
  · subst e
    simp at q0 q1 h2
    exact Or.inr ⟨by omega, by omega, q1⟩
theorem srt3 {v r : Nat → Nat} (h : Srt v 3 r) : ∃ a b c : Nat, r 0 = v a ∧ r 1 = v b ∧ r 2 = v c ∧ ((a = 0 ∧ b = 1 ∧ c = 2 ∧ v 1 ≤ v 0 ∧ v 2 ≤ v 1) ∨ (a = 0 ∧ b = 2 ∧ c = 1 ∧ v 2 ≤ v 0 ∧ v 1 < v 2) ∨ (a = 1 ∧ b = 0 ∧ c = 2 ∧ v 0 < v 1 ∧ v 2 ≤ v 0) ∨ (a = 1 ∧ b = 2 ∧ c = 0 ∧ v 2 ≤ v 1 ∧ v 0 < v 2) ∨ (a = 2 ∧ b = 0 ∧ c = 1 ∧ v 0 < v 2 ∧ v 1 ≤ v 0) ∨ (a = 2 ∧ b = 1 ∧ c = 0 ∧ v 1 < v 2 ∧ v 0 < v 1)) := by
  obtain ⟨r0, t, hs, ht, h1, h2, h3⟩ := srt_s 2 h
  have q0 := h3 0 (by omega)
  have q1 := h3 1 (by omega)
  have q2 := h3 2 (by omega)
  rcases srt2 hs with ⟨s1, s2, s3⟩ | ⟨s1, s2, s3⟩
  · rcases (show t = 0 ∨ t = 1 ∨ t = 2 by omega) with e | e | e
    · subst e
      have g := h1 0 (by omega) (by omega)
      simp at q0 q1 q2
      exact ⟨2, 1, 0, by omega, by omega, by omega, by omega⟩
    · subst e
      have g := h1 1 (by omega) (by omega)
      simp at q0 q1 q2 h2
      exact ⟨1, 2, 0, by omega, by omega, by omega, by omega⟩
    · subst e
      simp at q0 q1 q2 h2
      exact ⟨1, 0, 2, by omega, by omega, by omega, by omega⟩
  · rcases (show t = 0 ∨ t = 1 ∨ t = 2 by omega) with e | e | e
    · subst e
      have g := h1 0 (by omega) (by omega)
      simp at q0 q1 q2
      exact ⟨2, 0, 1, by omega, by omega, by omega, by omega⟩
    · subst e
      have g := h1 1 (by omega) (by omega)
      simp at q0 q1 q2 h2
      exact ⟨0, 2, 1, by omega, by omega, by omega, by omega⟩
    · subst e
      simp at q0 q1 q2 h2
      exact ⟨0, 1, 2, by omega, by omega, by omega, by omega⟩
theorem last2 {v r : Nat → Nat} (h : Srt v 2 r) : lastS v (fun i => abvS v i 2) 0 2 = r 0 ∧ lastS v (fun i => abvS v i 2) 1 2 = r 1 := by
  rcases srt2 h with ⟨s1, s2, s3⟩ | ⟨s1, s2, s3⟩
  · have c1 : ¬ v 1 < v 0 := by omega
    have c2 : ¬ v 0 = v 1 := by omega
    have c3 : ¬ v 1 = v 0 := by omega
    simp [lastS, abvS, s1, s2, s3, c1, c2]
  · have c1 : ¬ v 0 < v 1 := by omega
    by_cases q : v 1 < v 0
    · have c2 : ¬ v 0 = v 1 := by omega
      simp [lastS, abvS, s2, s3, c1, q, c2]
    · have c2 : v 0 = v 1 := by omega
      simp [lastS, abvS, s2, s3, c2]
set_option maxHeartbeats 4000000 in
theorem last3 {v r : Nat → Nat} (h : Srt v 3 r) : lastS v (fun i => abvS v i 3) 0 3 = r 0 ∧ lastS v (fun i => abvS v i 3) 1 3 = r 1 ∧ lastS v (fun i => abvS v i 3) 2 3 = r 2 := by
  obtain ⟨a, b, c, r0, r1, r2, hh⟩ := srt3 h
  rw [r0, r1, r2]
  rcases hh with ⟨rfl, rfl, rfl, g1, g2⟩ | ⟨rfl, rfl, rfl, g1, g2⟩ | ⟨rfl, rfl, rfl, g1, g2⟩ | ⟨rfl, rfl, rfl, g1, g2⟩ | ⟨rfl, rfl, rfl, g1, g2⟩ | ⟨rfl, rfl, rfl, g1, g2⟩ <;>
  · simp (disch := omega) only [lastS, abvS, if_pos, if_neg]
    simp
