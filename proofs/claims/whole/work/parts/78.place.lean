/-! PURE: the class searches -/
def RXs (σ : gS) (nO nP n : Nat) (go gs : Nat → Nat) (A : Nat → Nat → Bool) (kb : Nat → Bool) (one : Bool) (ap ao : Int32) (x : gS) : Prop := eqv σ x ∧ (x 1 0 0 = nI n ∧ x 1 0 5 = (if one then 1 else 0) ∧ x 1 0 6 = ap ∧ x 1 0 7 = ao) ∧ (∀ j, j < n → x 17 0 j = nI (go j)) ∧ (∀ j, j < n → x 18 0 j = nI (gs j)) ∧ (∀ o, o < nO → x 21 0 o = (if kb o then 1 else 0)) ∧ (∀ j, j < n → ∀ p, p < nP → bt (x 20 0 (go j)) p = A p (go j))
def RXd (nO n : Nat) (go : Nat → Nat) (ask : Bool) (k : Nat) (st : qS) (x : gS) : Prop := (x 1 0 1 = nI st.2.1 ∧ (ask = true → x 1 0 2 = nI st.2.2.1) ∧ x 1 0 3 = (if st.2.2.2.1 = 1 then 1 else 0) ∧ x 1 0 4 = nI st.1) ∧ (∀ p, p < 32 → bt (x 1 0 8) p = exB (fun j => decide (st.2.2.2.2 j = p)) k) ∧ (∀ o, o < nO → ∀ p, p < 32 → bt (x 22 0 o) p = exB (fun j => decide (go j = o) && decide (st.2.2.2.2 j = p)) k) ∧ (∀ j, j < k → x 19 0 j = nI (st.2.2.2.2 j)) ∧ (st.2.2.2.1 = 2 → ∀ j, j < n → x 19 0 j = nI (st.2.2.2.2 j))
/-- what is asked for -/
def askP (nO nP n : Nat) (go : Nat → Nat) (ask : Bool) (ap ao : Int32) (hit : (Nat → Nat) → Bool) : Prop := (ask = false ∧ ap = -1) ∨ ∃ p o, p < nP ∧ o < nO ∧ ap = nI p ∧ ao = nI o ∧ hit = hitF (nI p) (nI o) go n
section
variable {nO nP nL n : Nat} {S : Nat → Nat} {L : gL} {ad : gA} {σ x : gS} {go gs : Nat → Nat} {A : Nat → Nat → Bool} {kb : Nat → Bool} {one ask : Bool} {ap ao : Int32} {hit : (Nat → Nat) → Bool}
theorem RXs_up {K j : Nat} {v : Int32} (h : (K = 1 ∧ (j = 1 ∨ j = 2 ∨ j = 3 ∨ j = 4 ∨ j = 8)) ∨ K = 19 ∨ K = 22) (hs : RXs σ nO nP n go gs A kb one ap ao x) : RXs σ nO nP n go gs A kb one ap ao (g_up x K 0 j v) := by
  rcases h with ⟨rfl, rfl | rfl | rfl | rfl | rfl⟩ | rfl | rfl
  · exact ⟨eqv_up hs.1 rfl, hs.2⟩
  · exact ⟨eqv_up hs.1 rfl, hs.2⟩
  · exact ⟨eqv_up hs.1 rfl, hs.2⟩
  · exact ⟨eqv_up hs.1 rfl, hs.2⟩
  · exact ⟨eqv_up hs.1 rfl, hs.2⟩
  · exact ⟨eqv_up hs.1 rfl, hs.2⟩
  · exact ⟨eqv_up hs.1 rfl, hs.2⟩
theorem x_over {k : Nat} {st : qS} (hs : RXs σ nO nP n go gs A kb one ap ao x) (hd : RXd nO n go ask k st x) (hok : okS one st) : f_X1_isOver ad x = some (if st.2.2.2.1 = 0 then 0 else 1) := by
  obtain ⟨⟨d1, d2, d3, d4⟩, -⟩ := hd
  obtain ⟨-, ⟨s0, s5, s6, s7⟩, -⟩ := hs
  obtain ⟨o1, o2, o3, o4⟩ := hok
  unfold f_X1_isOver
  rw [d1, d3, s5]
  rcases (show st.2.2.2.1 = 0 ∨ st.2.2.2.1 = 1 ∨ st.2.2.2.1 = 2 by omega) with h | h | h
  · rw [h]
    cases one
    · rfl
    · have := o3 (by omega) rfl
      rw [this]
      rfl
  · rw [h]
    rfl
  · rw [h, (o4 h).1, (o4 h).2]
    rfl
theorem x_fits (hJ : gJ nO nP nL S L ad σ) {k p : Nat} {st : qS} (hs : RXs σ nO nP n go gs A kb one ap ao x) (hd : RXd nO n go ask k st x) (hk : k < n) (hp : p < nP) (hgo : ∀ j, j < n → go j < nO) (hc : ∀ j, j < k → st.2.2.2.2 j < nP) : f_X1_fits ad x (nI p) (nI (go k)) = some (if fitB A kb (kB σ) go k st.2.2.2.2 p = true then 1 else 0) := by
  obtain ⟨h1, h2, h3, h4, h5, h6, h7, h8, h9, h10, h11, h12, h13, h14, h15⟩ := id hJ
  obtain ⟨⟨hO, hP, hL⟩, ⟨m1, m2, m3⟩, ⟨x1, x2, x3⟩⟩ := id h1
  obtain ⟨q, -, -, -, s21, s20⟩ := hs
  obtain ⟨-, d8, d22, -⟩ := hd
  have ho := hgo k hk
  have po := (z_ix (n := 8) (show go k < 2147483648 by omega)).mpr (by omega)
  have pp := (z_ix (n := 24) (show p < 2147483648 by omega)).mpr (by omega)
  have e26 : x 26 0 p = 0 := (q 26 0 p rfl).trans (h2.2.1 p hp)
  have e5 : x 5 p 8 = σ 5 p 8 := q 5 p 8 rfl
  have hab : ((x 20 0 (go k) &&& (x 1 0 8 ^^^ (-1 : Int32))) &&& ((1 : Int32) <<< (nI p &&& 31))) = 0 ↔ (A p (go k) && !exB (fun j => decide (st.2.2.2.2 j = p)) k) = false := by
    rw [b_one0 (by omega), b_and, b_not (by omega), s20 k hk p hp, d8 p (by omega)]
  unfold f_X1_fits
  simp only [if_pos po, if_pos pp, z_clamp (show go k < 2147483648 by omega), z_clamp (show p < 2147483648 by omega), e26, i0l, e5, s21 (go k) ho]
  by_cases c1 : (A p (go k) && !exB (fun j => decide (st.2.2.2.2 j = p)) k) = false
  · rw [if_pos (hab.mpr c1)]
    rw [show fitB A kb (kB σ) go k st.2.2.2.2 p = false by unfold fitB; rw [c1]; rfl]
    rfl
  · rw [if_neg (fun h => c1 (hab.mp h))]
    have c1' : (A p (go k) && !exB (fun j => decide (st.2.2.2.2 j = p)) k) = true := by
      cases h : (A p (go k) && !exB (fun j => decide (st.2.2.2.2 j = p)) k)
      · exact absurd h c1
      · rfl
    have hne : ∀ j, j < k → st.2.2.2.2 j ≠ p := by
      intro j hj e
      rw [exB_iff.mpr ⟨j, hj, by simp [e]⟩] at c1'
      simp at c1'
    have hfit : fitB A kb (kB σ) go k st.2.2.2.2 p = !(kb (go k) && exB (fun j => decide (go j = go k) && kB σ p (st.2.2.2.2 j)) k) := by
      unfold fitB
      rw [c1']
      rfl
    rw [hfit]
    cases hkb : kb (go k)
    · rfl
    · simp only [if_true, i10, Bool.true_and]
      have hkin : σ 5 p 8 &&& x 22 0 (go k) = 0 ↔ exB (fun j => decide (go j = go k) && kB σ p (st.2.2.2.2 j)) k = false := by
        rw [b_none, exB_no]
        constructor
        · intro hh j hj
          cases hb : (decide (go j = go k) && kB σ p (st.2.2.2.2 j))
          · rfl
          · exfalso
            rw [Bool.and_eq_true] at hb
            have hcj := hc j hj
            refine hh (st.2.2.2.2 j) (by omega) ⟨?_, ?_⟩
            · rw [h5.2 p hp _ (by omega)]
              exact ⟨hcj, hne j hj, kB_iff.mp hb.2⟩
            · rw [d22 (go k) ho _ (by omega)]
              exact exB_iff.mpr ⟨j, hj, by simpa using of_decide_eq_true hb.1⟩
        · intro hh i hi ⟨a1, a2⟩
          rw [h5.2 p hp i hi] at a1
          rw [d22 (go k) ho i hi] at a2
          obtain ⟨j, hj, hb⟩ := exB_iff.mp a2
          rw [Bool.and_eq_true] at hb
          have e1 := of_decide_eq_true hb.2
          have := hh j hj
          rw [hb.1, e1, kB_iff.mpr a1.2.2] at this
          simp at this
      by_cases c2 : σ 5 p 8 &&& x 22 0 (go k) = 0
      · rw [if_pos c2, hkin.mp c2]; rfl
      · rw [if_neg c2]
        cases hx : exB (fun j => decide (go j = go k) && kB σ p (st.2.2.2.2 j)) k
        · exact absurd (hkin.mpr hx) c2
        · rfl
theorem x_tell {st : qS} (hO : nO ≤ 8) (hP : nP ≤ 24) (hs : RXs σ nO nP n go gs A kb one ap ao x) (hd : RXd nO n go ask n st x) (hok : okS one st) (hX : st.2.2.2.1 = 0) (ha : askP nO nP n go ask ap ao hit) (hgo : ∀ j, j < n → go j < nO) (hc : ∀ j, j < n → st.2.2.2.2 j < nP) : ∃ x', f_X1_tellFound ad x = some x' ∧ RXs σ nO nP n go gs A kb one ap ao x' ∧ RXd nO n go ask n (q_leaf one hit st) x' := by
  obtain ⟨⟨d1, d2, d3, d4⟩, d8, d22, d19, d19'⟩ := hd
  obtain ⟨q, ⟨s0, s5, s6, s7⟩, s17, s18, s21, s20⟩ := id hs
  have hX1 : (if (q_leaf one hit st).2.2.2.1 = 1 then (1 : Int32) else 0) = 0 := by
    cases one <;> rfl
  have hd3 : x 1 0 3 = 0 := by rw [d3, hX]; rfl
  unfold f_X1_tellFound
  simp only [g_let, d1, nI_1]
  have t6 : g_up x 1 0 1 (nI (st.2.1 + 1)) 1 0 6 = ap := s6
  have t7 : g_up x 1 0 1 (nI (st.2.1 + 1)) 1 0 7 = ao := s7
  have t2 : g_up x 1 0 1 (nI (st.2.1 + 1)) 1 0 2 = x 1 0 2 := rfl
  rw [t6, t7, t2]
  rcases ha with ⟨ha, hap⟩ | ⟨p, o, hp, ho, hap, hao, hh⟩
  · rw [if_pos hap]
    refine ⟨_, rfl, RXs_up (by omega) hs, ⟨rfl, fun h => ?_, ?_, d4⟩, d8, d22, d19, fun _ => d19⟩
    · rw [ha] at h; cases h
    · rw [hX1]; exact hd3
  · have p8 := (z_ix (n := 8) (show o < 2147483648 by omega)).mpr (by omega)
    subst hap hao
    rw [if_neg (by rw [z_eqm1 (by omega)]; exact id), if_neg (by rw [z_eqm1 (by omega)]; exact id), if_pos p8, z_clamp (by omega)]
    have hb : (((g_up x 1 0 1 (nI (st.2.1 + 1)) 22 0 o) >>> (nI p &&& 31)) &&& (1 : Int32)) = 0 ↔ hit st.2.2.2.2 = false := by
      rw [b_ask (by omega), show g_up x 1 0 1 (nI (st.2.1 + 1)) 22 0 o = x 22 0 o from rfl, d22 o ho p (by omega), hh, hitF]
      rw [exB_congr (f := fun j => decide (nI (st.2.2.2.2 j) = nI p) && decide (nI (go j) = nI o)) (g := fun j => decide (go j = o) && decide (st.2.2.2.2 j = p))]
      intro j hj
      have := hc j hj
      have := hgo j hj
      rw [Bool.and_comm]
      congr 1
      · exact decide_eq_decide.mpr (z_eq (by omega) (by omega))
      · exact decide_eq_decide.mpr (z_eq (by omega) (by omega))
    by_cases c : hit st.2.2.2.2 = false
    · rw [if_pos (hb.mpr c)]
      refine ⟨_, rfl, RXs_up (by omega) hs, ⟨rfl, fun h => ?_, ?_, d4⟩, d8, d22, d19, fun _ => d19⟩
      · show x 1 0 2 = nI (st.2.2.1 + if hit st.2.2.2.2 = true then 1 else 0)
        rw [c]; exact d2 h
      · rw [hX1]; exact hd3
    · rw [if_neg (fun h => c (hb.mp h))]
      refine ⟨_, rfl, RXs_up (by omega) (RXs_up (by omega) hs), ⟨rfl, fun h => ?_, ?_, d4⟩, d8, d22, d19, fun _ => d19⟩
      · show x 1 0 2 + 1 = nI (st.2.2.1 + if hit st.2.2.2.2 = true then 1 else 0)
        rw [d2 h, nI_1, if_pos (by cases h : hit st.2.2.2.2; exact absurd h c; rfl)]
      · rw [hX1]; exact hd3
/-- a try -/
theorem RXd_try {k : Nat} {st : qS} (hd : RXd nO n go ask k st x) : RXd nO n go ask k (q_try st) (g_up x 1 0 4 (x 1 0 4 + 1)) := by
  obtain ⟨⟨d1, d2, d3, d4⟩, d8, d22, d19, d19'⟩ := hd
  refine ⟨⟨d1, d2, d3, ?_⟩, d8, d22, d19, d19'⟩
  show x 1 0 4 + 1 = nI (st.1 + 1)
  rw [d4, nI_1]
theorem x_take {k p : Nat} {st : qS} {rc : qS → qS} {fp : gS → Int32 → Option gS} (hn : n ≤ 24) (hO : nO ≤ 8) (hP : nP ≤ 24) (hgo : ∀ j, j < n → go j < nO)
    (hfp : ∀ (st : qS) (x : gS), okS one st → st.2.2.2.1 = 0 → (∀ j, j < k + 1 → st.2.2.2.2 j < nP) → RXs σ nO nP n go gs A kb one ap ao x → RXd nO n go ask (k + 1) st x → ∃ x', fp x (nI (k + 1)) = some x' ∧ RXs σ nO nP n go gs A kb one ap ao x' ∧ RXd nO n go ask (k + 1) (rc st) x')
    (hrc : ∀ st, okS one st → st.2.2.2.1 = 0 → stK one (k + 1) 1 st (rc st))
    (hs : RXs σ nO nP n go gs A kb one ap ao x) (hd : RXd nO n go ask k (q_try st) x) (hok : okS one st) (hX : st.2.2.2.1 = 0) (hT : st.1 < 20000) (hk : k < n) (hp : p < nP) (hc : ∀ j, j < k → st.2.2.2.2 j < nP) (hf : ∀ j, j < k → st.2.2.2.2 j ≠ p) :
    ∃ x', f_X1_takeAndGoOn ad x (nI k) (nI p) fp = some x' ∧ RXs σ nO nP n go gs A kb one ap ao x' ∧ RXd nO n go ask k (rc (q_take st k p)) x' := by
  obtain ⟨⟨d1, d2, d3, d4⟩, d8, d22, d19, d19'⟩ := hd
  obtain ⟨q, ⟨s0, s5, s6, s7⟩, s17, s18, s21, s20⟩ := id hs
  have ho := hgo k hk
  have pk := (z_ix (n := 24) (show k < 2147483648 by omega)).mpr (by omega)
  have po := (z_ix (n := 8) (show go k < 2147483648 by omega)).mpr (by omega)
  have hcu : ∀ j, j < k → c_up st.2.2.2.2 k p j = st.2.2.2.2 j := fun j hj => c_up_ne (by omega)
  have hd' : RXd nO n go ask (k + 1) (q_take st k p) (g_up (g_up (g_up x 19 0 k (nI p)) 1 0 8 (x 1 0 8 ||| ((1 : Int32) <<< (nI p &&& 31)))) 22 0 (go k) (x 22 0 (go k) ||| ((1 : Int32) <<< (nI p &&& 31)))) := by
    refine ⟨⟨d1, d2, d3, d4⟩, ?_, ?_, ?_, ?_⟩
    · intro r hr
      show bt (x 1 0 8 ||| ((1 : Int32) <<< (nI p &&& 31))) r = exB (fun j => decide (c_up st.2.2.2.2 k p j = r)) (k + 1)
      rw [b_or, d8 r hr, b_one (by omega) hr, exB, c_up_s]
      congr 1
      · exact exB_congr fun j hj => by rw [hcu j hj]; rfl
      · exact decide_eq_decide.mpr ⟨fun h => h.symm, fun h => h.symm⟩
    · intro o' ho' r hr
      show bt (g_up (g_up (g_up x 19 0 k (nI p)) 1 0 8 (x 1 0 8 ||| ((1 : Int32) <<< (nI p &&& 31)))) 22 0 (go k) (x 22 0 (go k) ||| ((1 : Int32) <<< (nI p &&& 31))) 22 0 o') r = exB (fun j => decide (go j = o') && decide (c_up st.2.2.2.2 k p j = r)) (k + 1)
      rw [exB, c_up_s]
      have hex : exB (fun j => decide (go j = o') && decide (c_up st.2.2.2.2 k p j = r)) k = exB (fun j => decide (go j = o') && decide ((q_try st).2.2.2.2 j = r)) k := exB_congr fun j hj => by rw [hcu j hj]; rfl
      rw [hex, ← d22 o' ho' r hr]
      by_cases e : o' = go k
      · subst e
        rw [up_s, b_or, b_one (by omega) hr]
        simp only [decide_true, Bool.true_and]
        congr 1
        exact decide_eq_decide.mpr ⟨fun h => h.symm, fun h => h.symm⟩
      · rw [up_j e]
        have : ¬ go k = o' := fun h => e h.symm
        simp only [this, decide_false, Bool.false_and, Bool.or_false]
        rfl
    · intro j hj
      show g_up x 19 0 k (nI p) 19 0 j = nI (c_up st.2.2.2.2 k p j)
      by_cases e : j = k
      · subst e; rw [up_s, c_up_s]
      · rw [up_j e, hcu j (by omega)]
        exact d19 j (by omega)
    · intro h
      exact absurd (show st.2.2.2.1 = 2 from h) (by omega)
  have hs' : RXs σ nO nP n go gs A kb one ap ao (g_up (g_up (g_up x 19 0 k (nI p)) 1 0 8 (x 1 0 8 ||| ((1 : Int32) <<< (nI p &&& 31)))) 22 0 (go k) (x 22 0 (go k) ||| ((1 : Int32) <<< (nI p &&& 31)))) := RXs_up (by omega) (RXs_up (by omega) (RXs_up (by omega) hs))
  have hc' : ∀ j, j < k + 1 → (q_take st k p).2.2.2.2 j < nP := by
    intro j hj
    show c_up st.2.2.2.2 k p j < nP
    by_cases e : j = k
    · subst e; rw [c_up_s]; exact hp
    · rw [hcu j (by omega)]; exact hc j (by omega)
  obtain ⟨z, z1, z2, z3⟩ := hfp (q_take st k p) _ (okS_take hok hT) hX hc' hs' hd'
  obtain ⟨r1, r2, r3, r4⟩ := hrc (q_take st k p) (okS_take hok hT) hX
  obtain ⟨⟨w1, w2, w3, w4⟩, w8, w22, w19, w19'⟩ := z3
  have hcz : ∀ j, j < k → (rc (q_take st k p)).2.2.2.2 j = st.2.2.2.2 j := fun j hj => (r2 j (by omega)).trans (hcu j hj)
  have hck : (rc (q_take st k p)).2.2.2.2 k = p := (r2 k (by omega)).trans c_up_s
  refine ⟨g_up (g_up z 1 0 8 (z 1 0 8 &&& (((1 : Int32) <<< (nI p &&& 31)) ^^^ (-1 : Int32)))) 22 0 (go k) (z 22 0 (go k) &&& (((1 : Int32) <<< (nI p &&& 31)) ^^^ (-1 : Int32))), ?_, RXs_up (by omega) (RXs_up (by omega) z2), ⟨w1, w2, w3, w4⟩, ?_, ?_, fun j hj => w19 j (by omega), w19'⟩
  · unfold f_X1_takeAndGoOn
    simp only [if_pos pk, z_clamp (show k < 2147483648 by omega), s17 k hk, if_pos po, z_clamp (show go k < 2147483648 by omega), g_let, nI_1]
    rw [show fp (g_up (g_up (g_up x 19 0 k (nI p)) 1 0 8 (g_up x 19 0 k (nI p) 1 0 8 ||| ((1 : Int32) <<< (nI p &&& 31)))) 22 0 (go k) (g_up (g_up x 19 0 k (nI p)) 1 0 8 (g_up x 19 0 k (nI p) 1 0 8 ||| ((1 : Int32) <<< (nI p &&& 31))) 22 0 (go k) ||| ((1 : Int32) <<< (nI p &&& 31)))) (nI (k + 1)) = some z from z1]
    rfl
  · intro r hr
    show bt (z 1 0 8 &&& (((1 : Int32) <<< (nI p &&& 31)) ^^^ (-1 : Int32))) r = exB (fun j => decide ((rc (q_take st k p)).2.2.2.2 j = r)) k
    rw [b_and, w8 r hr, b_not hr, b_one (by omega) hr, exB, hck]
    by_cases e : r = p
    · subst e
      have : exB (fun j => decide ((rc (q_take st k r)).2.2.2.2 j = r)) k = false := by
        rw [exB_no]
        intro j hj
        rw [hcz j hj]
        exact decide_eq_false (hf j hj)
      rw [this]
      simp
    · have : ¬ p = r := fun h => e h.symm
      simp [e, this]
  · intro o' ho' r hr
    show bt (g_up (g_up z 1 0 8 (z 1 0 8 &&& (((1 : Int32) <<< (nI p &&& 31)) ^^^ (-1 : Int32)))) 22 0 (go k) (z 22 0 (go k) &&& (((1 : Int32) <<< (nI p &&& 31)) ^^^ (-1 : Int32))) 22 0 o') r = exB (fun j => decide (go j = o') && decide ((rc (q_take st k p)).2.2.2.2 j = r)) k
    have w := w22 o' ho' r hr
    rw [exB, hck] at w
    by_cases e : o' = go k
    · subst e
      rw [up_s, b_and, w, b_not hr, b_one (by omega) hr]
      by_cases e : r = p
      · subst e
        have : exB (fun j => decide (go j = go k) && decide ((rc (q_take st k r)).2.2.2.2 j = r)) k = false := by
          rw [exB_no]
          intro j hj
          rw [hcz j hj, decide_eq_false (hf j hj), Bool.and_false]
        rw [this]
        simp
      · have : ¬ p = r := fun h => e h.symm
        simp [e, this]
    · have e' : ¬ go k = o' := fun h => e h.symm
      rw [up_j e]
      rw [decide_eq_false e', Bool.false_and, Bool.or_false] at w
      exact w
theorem x_plL (hJ : gJ nO nP nL S L ad σ) {k : Nat} {rc : qS → qS} {ft : gS → Int32 → Int32 → Option gS} (hgo : ∀ j, j < n → go j < nO) (hk : k < n)
    (hft : ∀ (st : qS) (x : gS) (p : Nat), p < nP → okS one st → st.2.2.2.1 = 0 → st.1 < 20000 → (∀ j, j < k → st.2.2.2.2 j < nP) → (∀ j, j < k → st.2.2.2.2 j ≠ p) → RXs σ nO nP n go gs A kb one ap ao x → RXd nO n go ask k (q_try st) x → ∃ x', ft x (nI k) (nI p) = some x' ∧ RXs σ nO nP n go gs A kb one ap ao x' ∧ RXd nO n go ask k (rc (q_take st k p)) x')
    (hrc : ∀ st, okS one st → st.2.2.2.1 = 0 → stK one (k + 1) 1 st (rc st)) :
    ∀ (m fuel p : Nat) (st : qS) (x : gS), m < fuel → p + m = nP → okS one st → (∀ j, j < k → st.2.2.2.2 j < nP) → RXs σ nO nP n go gs A kb one ap ao x → RXd nO n go ask k st x → ∃ x', f_X1_place_L68 ad (nI k) ft f_X1_place_P135 fuel x (nI (go k)) (nI p) = some x' ∧ RXs σ nO nP n go gs A kb one ap ao x' ∧ RXd nO n go ask k (plL (fitB A kb (kB σ) go) rc k m p st) x' := by
  obtain ⟨h1, h2, h3, h4, h5, h6, h7, h8, h9, h10, h11, h12, h13, h14, h15⟩ := id hJ
  obtain ⟨⟨hO, hP, hL⟩, ⟨m1, m2, m3⟩, ⟨x1, x2, x3⟩⟩ := id h1
  intro m
  induction m with
  | zero =>
    intro fuel p st x hf hpm hok hc hs hd
    obtain ⟨f, rfl⟩ : ∃ f, fuel = f + 1 := ⟨fuel - 1, by omega⟩
    refine ⟨x, ?_, hs, hd⟩
    unfold f_X1_place_L68
    rw [(hs.1 6 0 4 rfl).trans x2, if_pos (nI_le (by omega) (by omega))]; rfl
  | succ m ih =>
    intro fuel p st x hf hpm hok hc hs hd
    obtain ⟨f, rfl⟩ : ∃ f, fuel = f + 1 := ⟨fuel - 1, by omega⟩
    unfold f_X1_place_L68 plL
    rw [(hs.1 6 0 4 rfl).trans x2, if_neg (nI_ge (by omega) (by omega)), x_over hs hd hok, Option.bind_some]
    by_cases hX : st.2.2.2.1 = 0
    · rw [if_pos hX, if_pos hX, i00, hd.1.2.2.2, z_20000]
      have hT0 := hok.1
      by_cases hT : st.1 < 20000
      · rw [if_pos (nI_lt hT (by omega)), if_pos hT]
        have e4 : x 1 0 4 = nI st.1 := hd.1.2.2.2
        have hd1 := RXd_try hd
        rw [e4] at hd1
        have hs1 : RXs σ nO nP n go gs A kb one ap ao (g_up x 1 0 4 (nI st.1 + 1)) := RXs_up (by omega) hs
        simp only [g_let]
        rw [x_fits hJ hs1 hd1 hk (by omega) hgo hc, Option.bind_some]
        by_cases hfit : fitB A kb (kB σ) go k st.2.2.2.2 p = true
        · rw [if_pos hfit, if_pos (show fitB A kb (kB σ) go k (q_try st).2.2.2.2 p = true from hfit), i10]
          obtain ⟨z, z1, z2, z3⟩ := hft st _ p (by omega) hok hX hT hc (fitB_ne hfit) hs1 hd1
          rw [z1, Option.bind_some, nI_1]
          obtain ⟨r1, r2, r3, r4⟩ := hrc (q_take st k p) (okS_take hok hT) hX
          refine ih f (p + 1) (rc (q_take st k p)) z (by omega) (by omega) r1 ?_ z2 z3
          intro j hj
          rw [r2 j (by omega)]
          show c_up st.2.2.2.2 k p j < nP
          rw [c_up_ne (by omega)]
          exact hc j hj
        · rw [if_neg hfit, if_neg (show ¬ fitB A kb (kB σ) go k (q_try st).2.2.2.2 p = true from hfit), i00, nI_1 p]
          exact ih f (p + 1) (q_try st) _ (by omega) (by omega) (okS_try hok hT) hc hs1 hd1
      · rw [if_neg (nI_nlt (by omega) (by omega)), if_neg hT]
        obtain ⟨⟨d1, d2, d3, d4⟩, d8, d22, d19, d19'⟩ := hd
        exact ⟨_, rfl, RXs_up (by omega) hs, ⟨d1, d2, rfl, d4⟩, d8, d22, d19, fun h => absurd (show 1 = 2 from h) (by omega)⟩
    · rw [if_neg hX, if_neg hX, i10]
      exact ⟨x, rfl, hs, hd⟩
theorem x_placeD (hJ : gJ nO nP nL S L ad σ) (hn : n ≤ 24) (hgo : ∀ j, j < n → go j < nO) (ha : askP nO nP n go ask ap ao hit) :
    ∀ (d D k : Nat) (st : qS) (x : gS), k + d = n → d < D → okS one st → st.2.2.2.1 = 0 → (∀ j, j < k → st.2.2.2.2 j < nP) → RXs σ nO nP n go gs A kb one ap ao x → RXd nO n go ask k st x → ∃ x', f_X1_placeD ad D x (nI k) = some x' ∧ RXs σ nO nP n go gs A kb one ap ao x' ∧ RXd nO n go ask k (pl (fitB A kb (kB σ) go) go one hit nP d k st) x' := by
  obtain ⟨h1, h2, h3, h4, h5, h6, h7, h8, h9, h10, h11, h12, h13, h14, h15⟩ := id hJ
  obtain ⟨⟨hO, hP, hL⟩, ⟨m1, m2, m3⟩, ⟨x1, x2, x3⟩⟩ := id h1
  intro d
  induction d with
  | zero =>
    intro D k st x hkd hD hok hX hc hs hd
    obtain ⟨D, rfl⟩ : ∃ f, D = f + 1 := ⟨D - 1, by omega⟩
    have hkn : k = n := by omega
    subst hkn
    obtain ⟨z, z1, z2, z3⟩ := x_tell (ad := ad) hO hP hs hd hok hX ha hgo hc
    refine ⟨z, ?_, z2, z3⟩
    unfold f_X1_placeD f_X1_place
    rw [hs.2.1.1, if_neg (nI_nlt (by omega) (by omega)), z1]; rfl
  | succ d ih =>
    intro D k st x hkd hD hok hX hc hs hd
    obtain ⟨D, rfl⟩ : ∃ f, D = f + 1 := ⟨D - 1, by omega⟩
    have hk : k < n := by omega
    have ho := hgo k hk
    have pk := (z_ix (n := 24) (show k < 2147483648 by omega)).mpr (by omega)
    have hrc : ∀ st, okS one st → st.2.2.2.1 = 0 → stK one (k + 1) 1 st (pl (fitB A kb (kB σ) go) go one hit nP d (k + 1) st) := fun st h1 h2 => pl_ok d (k + 1) st h1 h2
    have hloop := fun p st x => x_plL (ad := ad) (k := k) (ft := fun σ a2 a3 => f_X1_takeAndGoOn ad σ a2 a3 (f_X1_placeD ad D)) hJ hgo hk (fun st x p hp hok hX hT hc hf hs hd => x_take (ad := ad) (fp := f_X1_placeD ad D) hn hO hP hgo (fun st x hok hX hc hs hd => ih D (k + 1) st x (by omega) (by omega) hok hX hc hs hd) hrc hs hd hok hX hT hk hp hc hf) hrc (nP - p) g_fuel p st x (by unfold g_fuel; omega)
    have e17 := hs.2.2.1 k hk
    unfold f_X1_placeD f_X1_place f_X1_place_P40 f_X1_place_P41 f_X1_place_P62 pl
    rw [hs.2.1.1, if_pos (nI_lt hk (by omega)), if_pos pk, z_clamp (by omega), e17]
    by_cases h0 : k = 0
    · subst h0
      have hst : q_start go 0 st.2.2.2.2 = 0 := if_neg (fun h => absurd h.1 (by omega))
      rw [if_pos (show nI 0 ≤ 0 by decide), i00, hst]
      have t := hloop 0 st x (by omega) hok hc hs hd
      rw [nI_0] at t ⊢
      exact t
    · have e1 : nI k - 1 = nI (k - 1) := by
        have := nI_pred (k - 1)
        rwa [show k - 1 + 1 = k by omega] at this
      have pk1 := (z_ix (n := 24) (show k - 1 < 2147483648 by omega)).mpr (by omega)
      rw [if_neg (fun h => h0 ((z_le0 (by omega)).mp h)), e1]
      simp only [if_pos pk1, z_clamp (show k - 1 < 2147483648 by omega), hs.2.2.1 (k - 1) (by omega), i10, i00]
      have ho1 := hgo (k - 1) (by omega)
      by_cases c : go (k - 1) = go k
      · have hst : q_start go k st.2.2.2.2 = st.2.2.2.2 (k - 1) + 1 := if_pos ⟨by omega, c⟩
        have hc1 := hc (k - 1) (by omega)
        rw [if_pos (by rw [c]), hd.2.2.2.1 (k - 1) (by omega), nI_1, hst]
        exact hloop (st.2.2.2.2 (k - 1) + 1) st x (by omega) hok hc hs hd
      · have hst : q_start go k st.2.2.2.2 = 0 := if_neg (fun h => c h.2)
        rw [if_neg (fun h => c ((z_eq (by omega) (by omega)).mp h)), hst]
        have t := hloop 0 st x (by omega) hok hc hs hd
        rw [nI_0] at t
        exact t
end
