/-! PURE: the start -/
def zA : gA := fun _ _ => 0
def zS : gS := fun _ _ _ => 0
def s8 : gS := (f_X8_init zA (g_row zS 108 0 (g_z 8))).getD zS
def LS0 : gL := [(8, 0), (6, 0), (25, 0), (26, 0), (27, 0), (4, 0), (1, 0), (17, 0), (18, 0), (19, 0), (20, 0), (21, 0), (22, 0), (0, 0), (10, 0), (11, 0), (12, 0), (13, 0), (14, 0), (15, 0), (16, 0), (30, 0), (31, 0), (7, 0), (28, 0), (29, 0), (7, 1), (28, 1), (29, 1), (7, 2), (28, 2), (29, 2), (7, 3), (28, 3), (29, 3), (7, 4), (28, 4), (29, 4), (7, 5), (28, 5), (29, 5), (7, 6), (28, 6), (29, 6), (7, 7), (28, 7), (29, 7), (9, 0), (44, 0), (45, 0), (46, 0), (47, 0), (48, 0), (49, 0), (50, 0), (51, 0), (52, 0), (53, 0), (54, 0), (55, 0), (56, 0), (57, 0), (58, 0), (59, 0), (60, 0), (67, 0), (68, 0), (71, 0), (72, 0), (73, 0), (74, 0), (75, 0), (76, 0), (77, 0), (79, 0), (80, 0), (81, 0), (82, 0), (83, 0), (84, 0)]
theorem s8_some : (f_X8_init zA (g_row zS 108 0 (g_z 8))).isSome = true := by decide +kernel
theorem s8_ok : f_X8_init zA (g_row zS 108 0 (g_z 8)) = some s8 := by
  have h := s8_some
  unfold s8
  revert h
  cases f_X8_init zA (g_row zS 108 0 (g_z 8)) with
  | none => intro h; cases h
  | some v => intro _; rfl
theorem i4_ad (ad : gA) (σ : gS) : f_X4_init ad σ = f_X4_init zA σ := rfl
theorem i6_ad (ad : gA) (σ : gS) : f_X6_init ad σ = f_X6_init zA σ := by
  unfold f_X6_init
  simp only [i4_ad ad]
theorem i1_ad (ad : gA) (σ : gS) : f_X1_init ad σ = f_X1_init zA σ := rfl
theorem i0_ad (ad : gA) (σ : gS) : f_X0_init ad σ = f_X0_init zA σ := rfl
theorem i7_ad (ad : gA) (σ : gS) (o : Nat) : f_X7_init ad σ o = f_X7_init zA σ o := rfl
theorem i8_ad (ad : gA) (σ : gS) : f_X8_init ad σ = f_X8_init zA σ := by
  unfold f_X8_init
  simp only [i6_ad ad, i1_ad ad, i0_ad ad, i7_ad ad]
def s9 : gS := g_row (g_row s8 8 0 (s8 108 0)) 109 0 (g_z 9)
def n9 (σ : gS) : gS := (g_up (g_row (g_up (g_row (g_up (g_row (g_up (g_row (g_up (g_row (g_up (g_row (g_up (g_up (g_row (g_up (g_row (g_up (g_row (g_up (g_row (g_up (g_row (g_up (g_row (g_up (g_row (g_up (g_up (g_up (g_row (g_up (g_row (g_up (g_up (g_up (g_up (g_up (g_up (g_up (g_row (g_up (g_row (g_up (g_row (g_up (g_row (g_up (g_row (g_up (g_row (g_up (g_row (g_up (g_row (g_up (g_row (g_up (g_row (g_up (g_row (g_up (g_row (g_up (g_row (g_up (g_row (g_up (g_row (g_up (g_row (g_up (g_row (g_up (g_up (g_up (g_up σ 109 0 0 0) 109 0 1 0) 109 0 2 0) 109 0 3 0) 44 0 (fun _ => 0)) 109 0 4 0) 45 0 (fun _ => 0)) 109 0 5 0) 46 0 (fun _ => 0)) 109 0 6 0) 47 0 (fun _ => 0)) 109 0 7 0) 48 0 (fun _ => 0)) 109 0 8 0) 49 0 (fun _ => 0)) 109 0 9 0) 50 0 (fun _ => 0)) 109 0 10 0) 51 0 (fun _ => 0)) 109 0 11 0) 52 0 (fun _ => 0)) 109 0 12 0) 53 0 (fun _ => 0)) 109 0 13 0) 54 0 (fun _ => 0)) 109 0 14 0) 55 0 (fun _ => 0)) 109 0 15 0) 56 0 (fun _ => 0)) 109 0 16 0) 57 0 (fun _ => 0)) 109 0 17 0) 58 0 (fun _ => 0)) 109 0 18 0) 59 0 (fun _ => 0)) 109 0 19 0) 60 0 (fun _ => 0)) 109 0 20 0) 109 0 21 0) 109 0 22 0) 109 0 23 0) 109 0 24 0) 109 0 25 0) 109 0 26 0) 67 0 (fun _ => 0)) 109 0 27 0) 68 0 (fun _ => 0)) 109 0 28 0) 109 0 29 2) 109 0 30 1) 71 0 (fun _ => 0)) 109 0 31 0) 72 0 (fun _ => 0)) 109 0 32 0) 73 0 (fun _ => 0)) 109 0 33 0) 74 0 (fun _ => 0)) 109 0 34 0) 75 0 (fun _ => 0)) 109 0 35 0) 76 0 (fun _ => 0)) 109 0 36 0) 77 0 (fun _ => 0)) 109 0 37 0) 109 0 38 0) 79 0 (fun _ => 0)) 109 0 39 0) 80 0 (fun _ => 0)) 109 0 40 0) 81 0 (fun _ => 0)) 109 0 41 0) 82 0 (fun _ => 0)) 109 0 42 0) 83 0 (fun _ => 0)) 109 0 43 0) 84 0 (fun _ => 0)) 109 0 44 0)
theorem i9_eq (ad : gA) (σ : gS) : f_X9_init ad σ = f_X9_init_L327 f_X9_init_P354 g_fuel (n9 σ) 0 := by
  unfold f_X9_init
  rw [g_let_eq, g_let_eq, g_let_eq, g_let_eq, g_let_eq, g_let_eq, g_let_eq, g_let_eq, g_let_eq, g_let_eq, g_let_eq, g_let_eq, g_let_eq, g_let_eq, g_let_eq, g_let_eq, g_let_eq, g_let_eq, g_let_eq, g_let_eq, g_let_eq, g_let_eq, g_let_eq, g_let_eq, g_let_eq, g_let_eq, g_let_eq, g_let_eq, g_let_eq, g_let_eq, g_let_eq, g_let_eq, g_let_eq, g_let_eq, g_let_eq, g_let_eq, g_let_eq, g_let_eq, g_let_eq, g_let_eq, g_let_eq, g_let_eq, g_let_eq, g_let_eq, g_let_eq, g_let_eq, g_let_eq, g_let_eq, g_let_eq, g_let_eq, g_let_eq, g_let_eq, g_let_eq, g_let_eq, g_let_eq, g_let_eq, g_let_eq, g_let_eq, g_let_eq, g_let_eq, g_let_eq, g_let_eq, g_let_eq, g_let_eq, g_let_eq, g_let_eq, g_let_eq, g_let_eq, g_let_eq, g_let_eq, g_let_eq, g_let_eq, g_let_eq, g_let_eq, g_let_eq, g_let_eq, g_let_eq]
  rfl
theorem x_l9 : ∀ (m fuel k : Nat) (σ : gS), m < fuel → k + m = 4800 → ¬ σ 109 0 18 < 0 → ¬ σ 109 0 20 < 0 → ∃ σ', f_X9_init_L327 f_X9_init_P354 fuel σ (nI k) = some σ' ∧ (∀ K, K ≠ 58 → K ≠ 60 → σ' K = σ K) ∧ (∀ j, k ≤ j → j < 4800 → σ' 58 0 j = -1 ∧ σ' 60 0 j = -1) ∧ (∀ j, j < k → σ' 58 0 j = σ 58 0 j ∧ σ' 60 0 j = σ 60 0 j) := by
  intro m
  induction m with
  | zero =>
    intro fuel k σ hf hk h1 h2
    obtain ⟨f, rfl⟩ : ∃ f, fuel = f + 1 := ⟨fuel - 1, by omega⟩
    refine ⟨σ, ?_, fun _ _ _ => rfl, fun j a b => by omega, fun _ _ => ⟨rfl, rfl⟩⟩
    unfold f_X9_init_L327
    rw [z_4800, if_pos (nI_le (by omega) (by omega))]; rfl
  | succ m ih =>
    intro fuel k σ hf hk h1 h2
    obtain ⟨f, rfl⟩ : ∃ f, fuel = f + 1 := ⟨fuel - 1, by omega⟩
    have pk := (z_ix (n := 4800) (show k < 2147483648 by omega)).mpr (by omega)
    obtain ⟨σ', t1, t2, t3, t4⟩ := ih f (k + 1) (g_up (g_up σ 58 0 k (-1)) 60 0 k (-1)) (by omega) (by omega) h1 h2
    refine ⟨σ', ?_, fun K a b => ?_, fun j a b => ?_, fun j a => ?_⟩
    · unfold f_X9_init_L327
      rw [z_4800, if_neg (nI_ge (by omega) (by omega)), if_neg h1, if_pos pk, g_let_eq, if_neg (show ¬ g_up σ 58 0 (nI k).toNatClampNeg (-1) 109 0 20 < 0 from h2), if_pos pk, g_let_eq, z_clamp (by omega), nI_1]
      exact t1
    · rw [t2 K a b, up_K b, up_K a]
    · by_cases e : j = k
      · subst e
        rw [(t4 j (by omega)).1, (t4 j (by omega)).2, up_s]
        refine ⟨?_, rfl⟩
        show g_up σ 58 0 j (-1) 58 0 j = -1
        rw [up_s]
      · exact t3 j (by omega) b
    · rw [(t4 j (by omega)).1, (t4 j (by omega)).2]
      refine ⟨?_, ?_⟩
      · show g_up σ 58 0 k (-1) 58 0 j = _
        rw [up_j (by omega)]
      · rw [up_j (by omega)]; rfl
theorem n9_18 : ¬ n9 s9 109 0 18 < 0 := by decide +kernel
theorem n9_20 : ¬ n9 s9 109 0 20 < 0 := by decide +kernel
theorem b_6 : n9 s9 6 0 3 = 0 ∧ n9 s9 6 0 4 = 0 ∧ n9 s9 6 0 5 = 0 ∧ n9 s9 6 0 6 = 0 ∧ n9 s9 6 0 7 = 0 := by decide +kernel
theorem b_9 : n9 s9 109 0 1 = 0 ∧ n9 s9 109 0 2 = 0 ∧ n9 s9 109 0 3 = 0 ∧ n9 s9 109 0 29 = 2 ∧ n9 s9 109 0 30 = 1 := by decide +kernel
theorem b_e : n9 s9 0 0 0 = 2 ∧ n9 s9 0 0 1 = 1 ∧ n9 s9 0 0 2 = 0 := by decide +kernel
theorem b_30 : ∀ j, j < 8 → n9 s9 30 0 j = 0 := by decide +kernel
theorem b_12 : ∀ u, u < 35 → n9 s9 12 0 u = 0 ∧ n9 s9 71 0 u = 0 := by decide +kernel
theorem b_7 : ∀ d, d < 8 → n9 s9 7 d 0 = 0 ∧ n9 s9 7 d 1 = -1 ∧ n9 s9 80 0 d = 0 := by decide +kernel
theorem b_28 : ∀ d, d < 8 → ∀ i, i < 200 → n9 s9 28 d i = 0 := by decide +kernel
theorem as9 : g_allset 9 (n9 s9 109 0) = true := by decide +kernel
theorem as8 : g_allset 8 (s8 108 0) = true := by decide +kernel
theorem LS0_ok : ∀ q ∈ LS0, (q.1 < 10 ∨ g_ty q.1 < 9) ∧ q.1 ≠ 2 ∧ q.1 ≠ 3 ∧ q.1 ≠ 5 ∧ q.1 ≠ 23 ∧ q.1 ≠ 24 ∧ q.1 ≠ 102 ∧ q.1 ≠ 103 ∧ q.1 ≠ 105 := by decide +kernel
theorem cnt_0 {f : Nat → Bool} {n : Nat} (h : ∀ j, j < n → f j = false) : cntN f n = 0 := by
  induction n with
  | zero => rfl
  | succ n ih => simp [cntN, ih (fun j hj => h j (by omega)), h n (by omega)]
/-- where both systems begin -/
theorem g_begin (ad : gA) : ∃ σ9, f_X9_init ad s9 = some σ9 ∧ (∀ j, j < g_n 9 → 2 ≤ g_tg 9 j → ¬ σ9 109 0 j < 0) ∧ gI LS0 ad (g_row σ9 9 0 (σ9 109 0)) := by
  obtain ⟨σ9, t1, t2, t3, -⟩ := x_l9 4800 g_fuel 0 (n9 s9) (by unfold g_fuel; omega) (by omega) n9_18 n9_20
  rw [nI_0] at t1
  refine ⟨σ9, by rw [i9_eq, t1], ?_, 0, 0, 0, (fun _ => 0), ?_⟩
  · rw [t2 109 (by decide) (by decide)]
    exact g_allset_ok as9
  have hK : ∀ K, K ≠ 58 → K ≠ 60 → K ≠ 9 → g_row σ9 9 0 (σ9 109 0) K = n9 s9 K := fun K a b c => by rw [row_K c, t2 K a b]
  have h9 : ∀ j, g_row σ9 9 0 (σ9 109 0) 9 0 j = n9 s9 109 0 j := fun j => by rw [row_s, t2 109 (by decide) (by decide)]
  have h58 : ∀ j, j < 4800 → g_row σ9 9 0 (σ9 109 0) 58 0 j = -1 := fun j hj => by rw [row_K (by decide)]; exact (t3 j (by omega) hj).1
  have h60 : ∀ j, j < 4800 → g_row σ9 9 0 (σ9 109 0) 60 0 j = -1 := fun j hj => by rw [row_K (by decide)]; exact (t3 j (by omega) hj).2
  have h59 : ∀ j, g_row σ9 9 0 (σ9 109 0) 59 0 j = 0 := fun j => by rw [hK 59 (by decide) (by decide) (by decide)]; rfl
  refine ⟨⟨⟨by omega, by omega, by omega⟩, ⟨?_, ?_, ?_⟩, ⟨?_, ?_, ?_⟩⟩, ⟨fun j hj => by omega, fun j hj => by omega, fun j hj => by omega, fun j hj => ?_⟩, fun o ho => by omega, fun p hp => by omega, ⟨fun p hp => by omega, fun p hp => by omega⟩, fun l hl => by omega, fun l hl => by omega, fun o y s ho hy hs => ?_, fun p y hp hy => ?_, fun o y s ho => by omega, fun p y hp => by omega, ⟨?_, ?_⟩, ⟨⟨2, 1, by omega, ?_, ?_, ?_, ?_⟩, fun u hu => ?_, ?_⟩, ⟨fun d hd => ?_, fun d i hd hi => ?_⟩, ?_⟩
  · rw [h9]; exact b_9.1
  · rw [h9]; exact b_9.2.1
  · rw [h9]; exact b_9.2.2.1
  · rw [hK 6 (by decide) (by decide) (by decide)]; exact b_6.1
  · rw [hK 6 (by decide) (by decide) (by decide)]; exact b_6.2.1
  · rw [hK 6 (by decide) (by decide) (by decide)]; exact b_6.2.2.1
  · rw [hK 30 (by decide) (by decide) (by decide)]; exact b_30 j hj
  · exact Or.inl ⟨h58 _ (ix_lt ho hy hs), h59 _⟩
  · exact Or.inl (h60 _ (by omega))
  · rw [hK 6 (by decide) (by decide) (by decide), cnt_0 (fun j hj => by simp [heldB, h58 j hj])]; exact b_6.2.2.2.1
  · rw [hK 6 (by decide) (by decide) (by decide), cnt_0 (fun j hj => by simp [voidB, h58 j hj])]; exact b_6.2.2.2.2
  · rw [h9]; exact b_9.2.2.2.1
  · rw [h9]; exact b_9.2.2.2.2
  · rw [hK 0 (by decide) (by decide) (by decide)]; exact b_e.1
  · rw [hK 0 (by decide) (by decide) (by decide)]; exact b_e.2.1
  · rw [hK 12 (by decide) (by decide) (by decide), hK 71 (by decide) (by decide) (by decide), (b_12 u hu).1, (b_12 u hu).2]
  · rw [hK 0 (by decide) (by decide) (by decide), cnt_0 (fun j hj => by simp [balB, hK 71 (by decide) (by decide) (by decide), (b_12 j hj).2])]; exact b_e.2.2
  · have h7 : g_row σ9 9 0 (σ9 109 0) 7 = n9 s9 7 := hK 7 (by decide) (by decide) (by decide)
    have h80 : g_row σ9 9 0 (σ9 109 0) 80 = n9 s9 80 := hK 80 (by decide) (by decide) (by decide)
    unfold J_sh1
    rw [h7, h80, (b_7 d hd).1, (b_7 d hd).2.1, (b_7 d hd).2.2]
    exact ⟨rfl, Or.inl ⟨rfl, rfl⟩⟩
  · rw [hK 28 (by decide) (by decide) (by decide), b_28 d hd i hi]; decide +kernel
  · refine ⟨⟨by decide, by decide⟩, fun i hi => ?_, fun i hi => ?_, fun i hi => ?_, fun K i hi => (LS0_ok _ hi).1⟩
    · rcases hi with hi | hi | hi
      · exact absurd rfl (LS0_ok _ hi).2.2.1
      · exact absurd rfl (LS0_ok _ hi).2.2.2.2.1
      · exact absurd rfl (LS0_ok _ hi).2.2.2.2.2.2.2.1
    · rcases hi with hi | hi | hi
      · exact absurd rfl (LS0_ok _ hi).2.2.2.1
      · exact absurd rfl (LS0_ok _ hi).2.2.2.2.2.1
      · exact absurd rfl (LS0_ok _ hi).2.2.2.2.2.2.2.2
    · rcases hi with hi | hi
      · exact absurd rfl (LS0_ok _ hi).2.1
      · exact absurd rfl (LS0_ok _ hi).2.2.2.2.2.2.1
