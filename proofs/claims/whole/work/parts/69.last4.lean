/-! PURE: four candidates -/
set_option maxHeartbeats 4000000 in
theorem l4_0123 {v : Nat → Nat} (g1 : v 1 ≤ v 0) (g2 : v 2 ≤ v 1) (g3 : v 3 ≤ v 2) : lastS v (fun i => abvS v i 4) 0 4 = v 0 ∧ lastS v (fun i => abvS v i 4) 1 4 = v 1 ∧ lastS v (fun i => abvS v i 4) 2 4 = v 2 := by
  simp (disch := omega) only [lastS, abvS, if_pos, if_neg]
  simp
set_option maxHeartbeats 4000000 in
theorem l4_0132 {v : Nat → Nat} (g1 : v 1 ≤ v 0) (g2 : v 3 ≤ v 1) (g3 : v 2 < v 3) : lastS v (fun i => abvS v i 4) 0 4 = v 0 ∧ lastS v (fun i => abvS v i 4) 1 4 = v 1 ∧ lastS v (fun i => abvS v i 4) 2 4 = v 3 := by
  simp (disch := omega) only [lastS, abvS, if_pos, if_neg]
  simp
set_option maxHeartbeats 4000000 in
theorem l4_0213 {v : Nat → Nat} (g1 : v 2 ≤ v 0) (g2 : v 1 < v 2) (g3 : v 3 ≤ v 1) : lastS v (fun i => abvS v i 4) 0 4 = v 0 ∧ lastS v (fun i => abvS v i 4) 1 4 = v 2 ∧ lastS v (fun i => abvS v i 4) 2 4 = v 1 := by
  simp (disch := omega) only [lastS, abvS, if_pos, if_neg]
  simp
set_option maxHeartbeats 4000000 in
theorem l4_0231 {v : Nat → Nat} (g1 : v 2 ≤ v 0) (g2 : v 3 ≤ v 2) (g3 : v 1 < v 3) : lastS v (fun i => abvS v i 4) 0 4 = v 0 ∧ lastS v (fun i => abvS v i 4) 1 4 = v 2 ∧ lastS v (fun i => abvS v i 4) 2 4 = v 3 := by
  simp (disch := omega) only [lastS, abvS, if_pos, if_neg]
  simp
set_option maxHeartbeats 4000000 in
theorem l4_0312 {v : Nat → Nat} (g1 : v 3 ≤ v 0) (g2 : v 1 < v 3) (g3 : v 2 ≤ v 1) : lastS v (fun i => abvS v i 4) 0 4 = v 0 ∧ lastS v (fun i => abvS v i 4) 1 4 = v 3 ∧ lastS v (fun i => abvS v i 4) 2 4 = v 1 := by
  simp (disch := omega) only [lastS, abvS, if_pos, if_neg]
  simp
set_option maxHeartbeats 4000000 in
theorem l4_0321 {v : Nat → Nat} (g1 : v 3 ≤ v 0) (g2 : v 2 < v 3) (g3 : v 1 < v 2) : lastS v (fun i => abvS v i 4) 0 4 = v 0 ∧ lastS v (fun i => abvS v i 4) 1 4 = v 3 ∧ lastS v (fun i => abvS v i 4) 2 4 = v 2 := by
  simp (disch := omega) only [lastS, abvS, if_pos, if_neg]
  simp
set_option maxHeartbeats 4000000 in
theorem l4_1023 {v : Nat → Nat} (g1 : v 0 < v 1) (g2 : v 2 ≤ v 0) (g3 : v 3 ≤ v 2) : lastS v (fun i => abvS v i 4) 0 4 = v 1 ∧ lastS v (fun i => abvS v i 4) 1 4 = v 0 ∧ lastS v (fun i => abvS v i 4) 2 4 = v 2 := by
  simp (disch := omega) only [lastS, abvS, if_pos, if_neg]
  simp
set_option maxHeartbeats 4000000 in
theorem l4_1032 {v : Nat → Nat} (g1 : v 0 < v 1) (g2 : v 3 ≤ v 0) (g3 : v 2 < v 3) : lastS v (fun i => abvS v i 4) 0 4 = v 1 ∧ lastS v (fun i => abvS v i 4) 1 4 = v 0 ∧ lastS v (fun i => abvS v i 4) 2 4 = v 3 := by
  simp (disch := omega) only [lastS, abvS, if_pos, if_neg]
  simp
set_option maxHeartbeats 4000000 in
theorem l4_1203 {v : Nat → Nat} (g1 : v 2 ≤ v 1) (g2 : v 0 < v 2) (g3 : v 3 ≤ v 0) : lastS v (fun i => abvS v i 4) 0 4 = v 1 ∧ lastS v (fun i => abvS v i 4) 1 4 = v 2 ∧ lastS v (fun i => abvS v i 4) 2 4 = v 0 := by
  simp (disch := omega) only [lastS, abvS, if_pos, if_neg]
  simp
set_option maxHeartbeats 4000000 in
theorem l4_1230 {v : Nat → Nat} (g1 : v 2 ≤ v 1) (g2 : v 3 ≤ v 2) (g3 : v 0 < v 3) : lastS v (fun i => abvS v i 4) 0 4 = v 1 ∧ lastS v (fun i => abvS v i 4) 1 4 = v 2 ∧ lastS v (fun i => abvS v i 4) 2 4 = v 3 := by
  simp (disch := omega) only [lastS, abvS, if_pos, if_neg]
  simp
set_option maxHeartbeats 4000000 in
theorem l4_1302 {v : Nat → Nat} (g1 : v 3 ≤ v 1) (g2 : v 0 < v 3) (g3 : v 2 ≤ v 0) : lastS v (fun i => abvS v i 4) 0 4 = v 1 ∧ lastS v (fun i => abvS v i 4) 1 4 = v 3 ∧ lastS v (fun i => abvS v i 4) 2 4 = v 0 := by
  simp (disch := omega) only [lastS, abvS, if_pos, if_neg]
  simp
set_option maxHeartbeats 4000000 in
theorem l4_1320 {v : Nat → Nat} (g1 : v 3 ≤ v 1) (g2 : v 2 < v 3) (g3 : v 0 < v 2) : lastS v (fun i => abvS v i 4) 0 4 = v 1 ∧ lastS v (fun i => abvS v i 4) 1 4 = v 3 ∧ lastS v (fun i => abvS v i 4) 2 4 = v 2 := by
  simp (disch := omega) only [lastS, abvS, if_pos, if_neg]
  simp
set_option maxHeartbeats 4000000 in
theorem l4_2013 {v : Nat → Nat} (g1 : v 0 < v 2) (g2 : v 1 ≤ v 0) (g3 : v 3 ≤ v 1) : lastS v (fun i => abvS v i 4) 0 4 = v 2 ∧ lastS v (fun i => abvS v i 4) 1 4 = v 0 ∧ lastS v (fun i => abvS v i 4) 2 4 = v 1 := by
  simp (disch := omega) only [lastS, abvS, if_pos, if_neg]
  simp
set_option maxHeartbeats 4000000 in
theorem l4_2031 {v : Nat → Nat} (g1 : v 0 < v 2) (g2 : v 3 ≤ v 0) (g3 : v 1 < v 3) : lastS v (fun i => abvS v i 4) 0 4 = v 2 ∧ lastS v (fun i => abvS v i 4) 1 4 = v 0 ∧ lastS v (fun i => abvS v i 4) 2 4 = v 3 := by
  simp (disch := omega) only [lastS, abvS, if_pos, if_neg]
  simp
set_option maxHeartbeats 4000000 in
theorem l4_2103 {v : Nat → Nat} (g1 : v 1 < v 2) (g2 : v 0 < v 1) (g3 : v 3 ≤ v 0) : lastS v (fun i => abvS v i 4) 0 4 = v 2 ∧ lastS v (fun i => abvS v i 4) 1 4 = v 1 ∧ lastS v (fun i => abvS v i 4) 2 4 = v 0 := by
  simp (disch := omega) only [lastS, abvS, if_pos, if_neg]
  simp
set_option maxHeartbeats 4000000 in
theorem l4_2130 {v : Nat → Nat} (g1 : v 1 < v 2) (g2 : v 3 ≤ v 1) (g3 : v 0 < v 3) : lastS v (fun i => abvS v i 4) 0 4 = v 2 ∧ lastS v (fun i => abvS v i 4) 1 4 = v 1 ∧ lastS v (fun i => abvS v i 4) 2 4 = v 3 := by
  simp (disch := omega) only [lastS, abvS, if_pos, if_neg]
  simp
set_option maxHeartbeats 4000000 in
theorem l4_2301 {v : Nat → Nat} (g1 : v 3 ≤ v 2) (g2 : v 0 < v 3) (g3 : v 1 ≤ v 0) : lastS v (fun i => abvS v i 4) 0 4 = v 2 ∧ lastS v (fun i => abvS v i 4) 1 4 = v 3 ∧ lastS v (fun i => abvS v i 4) 2 4 = v 0 := by
  simp (disch := omega) only [lastS, abvS, if_pos, if_neg]
  simp
set_option maxHeartbeats 4000000 in
theorem l4_2310 {v : Nat → Nat} (g1 : v 3 ≤ v 2) (g2 : v 1 < v 3) (g3 : v 0 < v 1) : lastS v (fun i => abvS v i 4) 0 4 = v 2 ∧ lastS v (fun i => abvS v i 4) 1 4 = v 3 ∧ lastS v (fun i => abvS v i 4) 2 4 = v 1 := by
  simp (disch := omega) only [lastS, abvS, if_pos, if_neg]
  simp
set_option maxHeartbeats 4000000 in
theorem l4_3012 {v : Nat → Nat} (g1 : v 0 < v 3) (g2 : v 1 ≤ v 0) (g3 : v 2 ≤ v 1) : lastS v (fun i => abvS v i 4) 0 4 = v 3 ∧ lastS v (fun i => abvS v i 4) 1 4 = v 0 ∧ lastS v (fun i => abvS v i 4) 2 4 = v 1 := by
  simp (disch := omega) only [lastS, abvS, if_pos, if_neg]
  simp
set_option maxHeartbeats 4000000 in
theorem l4_3021 {v : Nat → Nat} (g1 : v 0 < v 3) (g2 : v 2 ≤ v 0) (g3 : v 1 < v 2) : lastS v (fun i => abvS v i 4) 0 4 = v 3 ∧ lastS v (fun i => abvS v i 4) 1 4 = v 0 ∧ lastS v (fun i => abvS v i 4) 2 4 = v 2 := by
  simp (disch := omega) only [lastS, abvS, if_pos, if_neg]
  simp
set_option maxHeartbeats 4000000 in
theorem l4_3102 {v : Nat → Nat} (g1 : v 1 < v 3) (g2 : v 0 < v 1) (g3 : v 2 ≤ v 0) : lastS v (fun i => abvS v i 4) 0 4 = v 3 ∧ lastS v (fun i => abvS v i 4) 1 4 = v 1 ∧ lastS v (fun i => abvS v i 4) 2 4 = v 0 := by
  simp (disch := omega) only [lastS, abvS, if_pos, if_neg]
  simp
set_option maxHeartbeats 4000000 in
theorem l4_3120 {v : Nat → Nat} (g1 : v 1 < v 3) (g2 : v 2 ≤ v 1) (g3 : v 0 < v 2) : lastS v (fun i => abvS v i 4) 0 4 = v 3 ∧ lastS v (fun i => abvS v i 4) 1 4 = v 1 ∧ lastS v (fun i => abvS v i 4) 2 4 = v 2 := by
  simp (disch := omega) only [lastS, abvS, if_pos, if_neg]
  simp
set_option maxHeartbeats 4000000 in
theorem l4_3201 {v : Nat → Nat} (g1 : v 2 < v 3) (g2 : v 0 < v 2) (g3 : v 1 ≤ v 0) : lastS v (fun i => abvS v i 4) 0 4 = v 3 ∧ lastS v (fun i => abvS v i 4) 1 4 = v 2 ∧ lastS v (fun i => abvS v i 4) 2 4 = v 0 := by
  simp (disch := omega) only [lastS, abvS, if_pos, if_neg]
  simp
set_option maxHeartbeats 4000000 in
theorem l4_3210 {v : Nat → Nat} (g1 : v 2 < v 3) (g2 : v 1 < v 2) (g3 : v 0 < v 1) : lastS v (fun i => abvS v i 4) 0 4 = v 3 ∧ lastS v (fun i => abvS v i 4) 1 4 = v 2 ∧ lastS v (fun i => abvS v i 4) 2 4 = v 1 := by
  simp (disch := omega) only [lastS, abvS, if_pos, if_neg]
  simp
theorem last4 {v r : Nat → Nat} (h : Srt v 4 r) : lastS v (fun i => abvS v i 4) 0 4 = r 0 ∧ lastS v (fun i => abvS v i 4) 1 4 = r 1 ∧ lastS v (fun i => abvS v i 4) 2 4 = r 2 := by
  obtain ⟨r0, t, hs, ht, h1, h2, h3⟩ := srt_s 3 h
  have q0 := h3 0 (by omega)
  have q1 := h3 1 (by omega)
  have q2 := h3 2 (by omega)
  obtain ⟨a, b, c, s0, s1, s2, hh⟩ := srt3 hs
  rcases hh with ⟨rfl, rfl, rfl, g1, g2⟩ | ⟨rfl, rfl, rfl, g1, g2⟩ | ⟨rfl, rfl, rfl, g1, g2⟩ | ⟨rfl, rfl, rfl, g1, g2⟩ | ⟨rfl, rfl, rfl, g1, g2⟩ | ⟨rfl, rfl, rfl, g1, g2⟩
  · rcases (show t = 0 ∨ t = 1 ∨ t = 2 ∨ t = 3 by omega) with e | e | e | e
    · subst e
      have g3 := h1 0 (by omega) (by omega)
      simp at q0 q1 q2
      rw [q0, q1, q2]
      (try rw [s0]); (try rw [s1]); (try rw [s2])
      exact l4_3012 (by omega) (by omega) (by omega)
    · subst e
      have g3 := h1 1 (by omega) (by omega)
      simp at q0 q1 q2 h2
      rw [q0, q1, q2]
      (try rw [s0]); (try rw [s1]); (try rw [s2])
      exact l4_0312 (by omega) (by omega) (by omega)
    · subst e
      have g3 := h1 2 (by omega) (by omega)
      simp at q0 q1 q2 h2
      rw [q0, q1, q2]
      (try rw [s0]); (try rw [s1]); (try rw [s2])
      exact l4_0132 (by omega) (by omega) (by omega)
    · subst e
      simp at q0 q1 q2 h2
      rw [q0, q1, q2]
      (try rw [s0]); (try rw [s1]); (try rw [s2])
      exact l4_0123 (by omega) (by omega) (by omega)
  · rcases (show t = 0 ∨ t = 1 ∨ t = 2 ∨ t = 3 by omega) with e | e | e | e
    · subst e
      have g3 := h1 0 (by omega) (by omega)
      simp at q0 q1 q2
      rw [q0, q1, q2]
      (try rw [s0]); (try rw [s1]); (try rw [s2])
      exact l4_3021 (by omega) (by omega) (by omega)
    · subst e
      have g3 := h1 1 (by omega) (by omega)
      simp at q0 q1 q2 h2
      rw [q0, q1, q2]
      (try rw [s0]); (try rw [s1]); (try rw [s2])
      exact l4_0321 (by omega) (by omega) (by omega)
    · subst e
      have g3 := h1 2 (by omega) (by omega)
      simp at q0 q1 q2 h2
      rw [q0, q1, q2]
      (try rw [s0]); (try rw [s1]); (try rw [s2])
      exact l4_0231 (by omega) (by omega) (by omega)
    · subst e
      simp at q0 q1 q2 h2
      rw [q0, q1, q2]
      (try rw [s0]); (try rw [s1]); (try rw [s2])
      exact l4_0213 (by omega) (by omega) (by omega)
  · rcases (show t = 0 ∨ t = 1 ∨ t = 2 ∨ t = 3 by omega) with e | e | e | e
    · subst e
      have g3 := h1 0 (by omega) (by omega)
      simp at q0 q1 q2
      rw [q0, q1, q2]
      (try rw [s0]); (try rw [s1]); (try rw [s2])
      exact l4_3102 (by omega) (by omega) (by omega)
    · subst e
      have g3 := h1 1 (by omega) (by omega)
      simp at q0 q1 q2 h2
      rw [q0, q1, q2]
      (try rw [s0]); (try rw [s1]); (try rw [s2])
      exact l4_1302 (by omega) (by omega) (by omega)
    · subst e
      have g3 := h1 2 (by omega) (by omega)
      simp at q0 q1 q2 h2
      rw [q0, q1, q2]
      (try rw [s0]); (try rw [s1]); (try rw [s2])
      exact l4_1032 (by omega) (by omega) (by omega)
    · subst e
      simp at q0 q1 q2 h2
      rw [q0, q1, q2]
      (try rw [s0]); (try rw [s1]); (try rw [s2])
      exact l4_1023 (by omega) (by omega) (by omega)
  · rcases (show t = 0 ∨ t = 1 ∨ t = 2 ∨ t = 3 by omega) with e | e | e | e
    · subst e
      have g3 := h1 0 (by omega) (by omega)
      simp at q0 q1 q2
      rw [q0, q1, q2]
      (try rw [s0]); (try rw [s1]); (try rw [s2])
      exact l4_3120 (by omega) (by omega) (by omega)
    · subst e
      have g3 := h1 1 (by omega) (by omega)
      simp at q0 q1 q2 h2
      rw [q0, q1, q2]
      (try rw [s0]); (try rw [s1]); (try rw [s2])
      exact l4_1320 (by omega) (by omega) (by omega)
    · subst e
      have g3 := h1 2 (by omega) (by omega)
      simp at q0 q1 q2 h2
      rw [q0, q1, q2]
      (try rw [s0]); (try rw [s1]); (try rw [s2])
      exact l4_1230 (by omega) (by omega) (by omega)
    · subst e
      simp at q0 q1 q2 h2
      rw [q0, q1, q2]
      (try rw [s0]); (try rw [s1]); (try rw [s2])
      exact l4_1203 (by omega) (by omega) (by omega)
  · rcases (show t = 0 ∨ t = 1 ∨ t = 2 ∨ t = 3 by omega) with e | e | e | e
    · subst e
      have g3 := h1 0 (by omega) (by omega)
      simp at q0 q1 q2
      rw [q0, q1, q2]
      (try rw [s0]); (try rw [s1]); (try rw [s2])
      exact l4_3201 (by omega) (by omega) (by omega)
    · subst e
      have g3 := h1 1 (by omega) (by omega)
      simp at q0 q1 q2 h2
      rw [q0, q1, q2]
      (try rw [s0]); (try rw [s1]); (try rw [s2])
      exact l4_2301 (by omega) (by omega) (by omega)
    · subst e
      have g3 := h1 2 (by omega) (by omega)
      simp at q0 q1 q2 h2
      rw [q0, q1, q2]
      (try rw [s0]); (try rw [s1]); (try rw [s2])
      exact l4_2031 (by omega) (by omega) (by omega)
    · subst e
      simp at q0 q1 q2 h2
      rw [q0, q1, q2]
      (try rw [s0]); (try rw [s1]); (try rw [s2])
      exact l4_2013 (by omega) (by omega) (by omega)
  · rcases (show t = 0 ∨ t = 1 ∨ t = 2 ∨ t = 3 by omega) with e | e | e | e
    · subst e
      have g3 := h1 0 (by omega) (by omega)
      simp at q0 q1 q2
      rw [q0, q1, q2]
      (try rw [s0]); (try rw [s1]); (try rw [s2])
      exact l4_3210 (by omega) (by omega) (by omega)
    · subst e
      have g3 := h1 1 (by omega) (by omega)
      simp at q0 q1 q2 h2
      rw [q0, q1, q2]
      (try rw [s0]); (try rw [s1]); (try rw [s2])
      exact l4_2310 (by omega) (by omega) (by omega)
    · subst e
      have g3 := h1 2 (by omega) (by omega)
      simp at q0 q1 q2 h2
      rw [q0, q1, q2]
      (try rw [s0]); (try rw [s1]); (try rw [s2])
      exact l4_2130 (by omega) (by omega) (by omega)
    · subst e
      simp at q0 q1 q2 h2
      rw [q0, q1, q2]
      (try rw [s0]); (try rw [s1]); (try rw [s2])
      exact l4_2103 (by omega) (by omega) (by omega)
