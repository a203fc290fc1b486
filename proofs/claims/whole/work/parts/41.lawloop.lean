set_option maxHeartbeats 4000000 in
set_option maxRecDepth 100000 in
theorem lc_element {p : Program} {l : Launch} {e : Env} {s : State} {m : MethodId} {below : List Frame} {meth : Method} {c : Code} {Q : State → Prop} {D : va_G} {cy : Nat → ClassId} {cJ : ClassId} {b bs Ls : Nat} {xs : Nat → Int32} (C : l_C D cy cJ p m c s #[Value.ref bs]) (SX : l_S bs Ls xs s) (hst : l.stackTraces = false) (hX : g_X (l_A s b) s) (I : gL → gA → gS → Prop) (hI9 : ∀ L ad σ, I L ad σ → (8, 0) ∈ L ∧ (9, 0) ∈ L) (hsim : sim_element I) {cl sl : Nat} (hcl : cl + 2 ≤ 601024) (hsl : sl + 700 ≤ 7293034) {x4 : Int32} (h1 : g_ix (x4 + (1 : Int32)) Ls) (h2 : g_ix (x4 + (2 : Int32)) Ls)
    (kk : ∀ (L : gL) (ad : gA) (σ : gS) (f : Nat → Int64) (H : Heap) (locs : List Loc) (ls : Array Slot), I L ad σ → l_E D cy cJ b f ad L σ s H locs → lv_has ls 8 [(0, .ref bs), (1, .ref (ad 8 0)), (2, .ref (ad 9 0)), (3, .ref b), (4, .int x4)] → W p l e room_1 s m #[Value.ref bs] below meth c H locs (cl + 2) (sl + 700) Q (F0 m 1902 ls []))
    (L : gL) (ad : gA) (σ : gS) (f : Nat → Int64) (H : Heap) (locs : List Loc) (ls : Array Slot) (hI : I L ad σ) (E : l_E D cy cJ b f ad L σ s H locs) (hl : lv_has ls 8 [(0, .ref bs), (1, .ref (ad 8 0)), (2, .ref (ad 9 0)), (3, .ref b), (4, .int x4)]) : W p l e room_1 s m #[Value.ref bs] below meth c H locs cl sl Q (F0 m 1712 ls []) := by
  obtain ⟨k0, v0, v1, σ2, e1, e2, e3, hv, hk3, hI2⟩ := hsim L ad σ hI (xs (x4 + (1 : Int32)).toNatClampNeg) (xs (x4 + (2 : Int32)).toNatClampNeg)
  refine lv_aload_n C.x C.b dL_law_1712 rfl (lv_at hl 1 rfl) ?_
  refine lv_aload_n C.x C.b dL_law_1713 rfl (lv_at hl 0 rfl) ?_
  refine lv_iload C.x C.b dL_law_1714 (lv_at hl 4 rfl) ?_
  refine lv_iconst (v := (1 : Int32)) C.x C.b dL_law_1716 (by decide) ?_
  refine lv_iadd C.x C.b dL_law_1717 ?_
  refine va_sld C.x C.b SX.1 SX.2 (Nat.not_le.mpr SX.2) E.2.2.1 h1 dL_law_1718 ?_
  refine lv_aload_n C.x C.b dL_law_1719 rfl (lv_at hl 0 rfl) ?_
  refine lv_iload C.x C.b dL_law_1720 (lv_at hl 4 rfl) ?_
  refine lv_iconst (v := (2 : Int32)) C.x C.b dL_law_1722 (by decide) ?_
  refine lv_iadd C.x C.b dL_law_1723 ?_
  refine va_sld C.x C.b SX.1 SX.2 (Nat.not_le.mpr SX.2) E.2.2.1 h2 dL_law_1724 ?_
  refine lv_aload_n C.x C.b dL_law_1725 rfl (lv_at hl 3 rfl) ?_
  refine l_callO C hst hX E (hI9 L ad σ hI).1 e1 ⟨by decide, by decide⟩ hl.1 dL_law_1726 ⟨by show cl + _ ≤ 601024; omega, by show sl + _ ≤ 7293034; omega⟩ (fun f H locs hf0 E => ?_)
  refine lv_istore (lv' := [(5, .int (Int32.ofNat k0)), (0, .ref bs), (1, .ref (ad 8 0)), (2, .ref (ad 9 0)), (3, .ref b), (4, .int x4)]) C.x C.b dL_law_1729 hl (by decide) rfl (fun ls hl => ?_)
  refine lv_aload_n C.x C.b dL_law_1731 rfl (lv_at hl 3 rfl) ?_
  refine lv_aload_n C.x C.b dL_law_1732 rfl (lv_at hl 1 rfl) ?_
  refine lv_iload C.x C.b dL_law_1733 (lv_at hl 5 rfl) ?_
  refine lv_iconst (v := (1 : Int32)) C.x C.b dL_law_1735 (by decide) ?_
  refine lv_iadd C.x C.b dL_law_1736 ?_
  refine va_sld C.x C.b SX.1 SX.2 (Nat.not_le.mpr SX.2) E.2.2.1 h1 dL_law_1737 ?_
  refine lv_aload_n C.x C.b dL_law_1738 rfl (lv_at hl 1 rfl) ?_
  refine lv_iload C.x C.b dL_law_1739 (lv_at hl 5 rfl) ?_
  refine lv_iconst (v := (2 : Int32)) C.x C.b dL_law_1741 (by decide) ?_
  refine lv_iadd C.x C.b dL_law_1742 ?_
  refine va_sld C.x C.b SX.1 SX.2 (Nat.not_le.mpr SX.2) E.2.2.1 h2 dL_law_1743 ?_
  refine l_calll E (l_run (As := [.int (xs (x4 + (1 : Int32)).toNatClampNeg), .int (xs (x4 + (2 : Int32)).toNatClampNeg)]) (rest := []) C E 9 0 (c_X9_element l D cy (l_A s b) ad L σ (hI9 L ad σ hI).2 _ _ v1 σ2 e2) ⟨tw1345, tw60, tw1342, ⟨tw1343, tw1344⟩, hd_X9_element⟩ (by decide) (hI9 L ad σ hI).2 rfl ⟨rfl, by decide⟩ hl.1 rfl (Nat.le_of_ble_eq_true rfl) dL_law_1744 ⟨by show _ ≤ 601024; omega, by show _ ≤ 7293034; omega⟩) (fun H locs E => ?_)
  refine lv_lstore (lv' := [(6, .long v1), (5, .int (Int32.ofNat k0)), (0, .ref bs), (1, .ref (ad 8 0)), (2, .ref (ad 9 0)), (3, .ref b), (4, .int x4)]) C.x C.b dL_law_1747 hl (by decide) rfl (fun ls hl => ?_)
  refine lv_aload_n C.x C.b dL_law_1749 rfl (lv_at hl 4 rfl) ?_
  refine l_calli E (l_run (As := []) (rest := []) C E 9 0 (c_X9_thrown l D cy (l_A s b) ad L σ2 (hI9 L ad σ hI).2 _ e3) ⟨tw943, tw60, tw940, ⟨tw941, tw942⟩, hd_X9_thrown⟩ (by decide) (hI9 L ad σ hI).2 rfl ⟨rfl, by decide⟩ hl.1 rfl (Nat.le_of_ble_eq_true rfl) dL_law_1750 ⟨by show _ ≤ 601024; omega, by show _ ≤ 7293034; omega⟩) (fun H locs E => ?_)
  refine lv_iload C.x C.b dL_law_1753 (lv_at hl 1 rfl) ?_
  refine lv_icmp_eq (tgt := 1760) C.x C.b dL_law_1755 (by decide) (fun _ => ?_) (fun cb => absurd rfl cb)
  refine lv_iload C.x C.b dL_law_1760 (lv_at hl 1 rfl) ?_
  have fin : ∀ (H : Heap) (locs : List Loc), l_E D cy cJ b f ad L σ2 s H locs → W p l e room_1 s m #[Value.ref bs] below meth c H locs (cl + 1) (sl + 6) Q (F0 m 1776 ls []) := by
    intro H locs E
    refine lv_goto (tgt := 1902) C.x C.b dL_law_1776 (by decide) ?_
    refine W.widen (k := cl + 2) (n := sl + 700) (by omega) (by omega) ?_
    exact kk L ad σ2 f _ _ ls hI2 E (lv_sub hl [2, 3, 4, 5, 6] rfl)
  refine lv_if_ne (tgt := 1776) C.x C.b dL_law_1762 (by decide) (fun cb => ?_) (fun cb => ?_)
  · exact fin _ _ E
  · have hk0 : k0 = 0 := by
      rcases (show k0 = 0 ∨ k0 = 1 ∨ k0 = 2 by omega) with h | h | h
      · exact h
      · rw [h] at cb; exact absurd cb (by decide)
      · rw [h] at cb; exact absurd cb (by decide)
    have hK9 : va_K D vwCl [(cJ, .long)] s := ⟨C.2.1.1.1, fun k q hq => by
      have hz1 : k < 1 := (List.getElem?_eq_some_iff.mp hq).1
      rw [show k = 0 by omega] at hq
      cases hq
      exact C.2.2⟩
    have hP9 : va_P D vwCl [(b, g_oc cJ f)] H := fun n x hx => by
      have hz1 : n < 1 := (List.getElem?_eq_some_iff.mp hx).1
      rw [show n = 0 by omega] at hx
      cases hx
      exact E.2.1.1
    refine lv_aload_n C.x C.b dL_law_1765 rfl (lv_at hl 5 rfl) ?_
    refine lv_iconst (v := (0 : Int32)) C.x C.b dL_law_1766 (by decide) ?_
    refine va_lald C.x C.b hK9 hP9 0 0 rfl rfl (show g_ix 0 1 by decide) dL_law_1767 ?_
    refine lv_lload C.x C.b dL_law_1768 (lv_at hl 0 rfl) ?_
    refine W.lcmp C.x C.b dL_law_1770 ?_
    refine lv_if_eq (tgt := 1776) C.x C.b dL_law_1771 (by decide) (fun _ => ?_) (fun cb => absurd ?_ cb)
    · exact fin _ _ E
    · have h9 : f (0 : Int32).toNatClampNeg = v1 := (hf0 hk0).trans (hv hk0)
      rw [h9]
      simp [lg_cmp]
theorem l_ixs {j Ls k : Nat} (h : 7 * j + 7 ≤ Ls) (hL : Ls ≤ 3584) (hk : k < 7) : g_ix (nI (7 * j) + nI k) Ls := by
  rw [nI_add]
  exact vp_in_nI (by omega) (by omega)
theorem l_more {j Ls : Nat} (hj : 7 * j ≤ Ls) (hL : Ls ≤ 3584) (h : ¬ (Int32.ofNat Ls - (7 : Int32)) < nI (7 * j)) : 7 * j + 7 ≤ Ls := by
  have e : (7 : Int32) = nI 7 := rfl
  have e2 : Int32.ofNat Ls = nI Ls := rfl
  rw [e, e2, Int32.lt_iff_toInt_lt, pk_sub_toInt (by omega) (by omega), nI_toInt (by omega)] at h
  omega
theorem l_tbl {x : Int32} (h : ∀ k : Nat, k < 34 → ¬ x = nI k) : x.toInt < 0 ∨ 33 < x.toInt := by
  by_cases h0 : x.toInt < 0
  · exact Or.inl h0
  · right
    have hx : ¬ x < 0 := by rw [Int32.lt_iff_toInt_lt]; simpa using h0
    obtain ⟨j, hj, rfl⟩ := nI_of hx
    have := nI_toInt hj
    rw [this]
    by_cases hj3 : j < 34
    · exact absurd rfl (h j hj3)
    · omega
def sims (I : gL → gA → gS → Prop) : Prop := sim_office I ∧ sim_person I ∧ sim_death I ∧ sim_exile I ∧ sim_birth I ∧ sim_law I ∧ sim_repeal I ∧ sim_stone I ∧ sim_empty I ∧ sim_annul I ∧ sim_seat I ∧ sim_holds I ∧ sim_held I ∧ sim_could I ∧ sim_first I ∧ sim_who I ∧ sim_breaches I ∧ sim_breach I ∧ sim_fillings I ∧ sim_fill I ∧ sim_among I ∧ sim_election I ∧ sim_vote I ∧ sim_elected I ∧ sim_sure I ∧ sim_drawn I ∧ sim_province I ∧ sim_count I ∧ sim_keep I ∧ sim_make I ∧ sim_element I ∧ sim_copy I ∧ sim_weight I ∧ sim_toss I
set_option maxHeartbeats 4000000 in
set_option maxRecDepth 100000 in
/-- the law's loop, at its head with 7 * j ints read -/
theorem law_loop {p : Program} {l : Launch} {e : Env} {s : State} {m : MethodId} {below : List Frame} {meth : Method} {c : Code} {D : va_G} {cy : Nat → ClassId} {cJ : ClassId} {b bs Ls : Nat} {xs : Nat → Int32} (C : l_C D cy cJ p m c s #[Value.ref bs]) (hr : meth.sig.returnType = ret) (hlocks : meth.locks = false) (SX : l_S bs Ls xs s) (hLs : Ls ≤ 3584) (hst : l.stackTraces = false) (hX : g_X (l_A s b) s) (I : gL → gA → gS → Prop) (hI9 : ∀ L ad σ, I L ad σ → (8, 0) ∈ L ∧ (9, 0) ∈ L) (hP9 : ∀ L ad σ, I L ad σ → ∀ K i, (K, i) ∈ L → K < 10 ∨ g_ty K < 9) (hs : sims I) :
    ∀ (n j : Nat), 7 * j ≤ Ls → Ls < 7 * j + n → ∀ (L : gL) (ad : gA) (σ : gS) (f : Nat → Int64) (H : Heap) (locs : List Loc) (ls : Array Slot), I L ad σ → l_E D cy cJ b f ad L σ s H locs → lv_has ls 8 [(0, .ref bs), (1, .ref (ad 8 0)), (2, .ref (ad 9 0)), (3, .ref b), (4, .int (nI (7 * j)))] → W p l e room_1 s m #[Value.ref bs] below meth c H locs (100 + 2 * j) (30000 + 700 * j) (lw_Z below #[Value.ref bs] s) (F0 m 23 ls []) := by
  intro n
  induction n with
  | zero =>
    intro j h1 h2
    exact absurd h2 (by omega)
  | succ n ih =>
    intro j hj hn L ad σ f H locs ls hI E hl
    refine lv_iload C.x C.b dL_law_23 (lv_at hl 4 rfl) ?_
    refine lv_aload_n C.x C.b dL_law_25 rfl (lv_at hl 0 rfl) ?_
    refine va_slen C.x C.b SX.1 SX.2 (Nat.not_le.mpr SX.2) E.2.2.1 dL_law_26 ?_
    refine lv_bipush (v := (7 : Int32)) C.x C.b dL_law_27 (by decide) ?_
    refine lv_isub C.x C.b dL_law_29 ?_
    refine lv_icmp_gt (tgt := 1908) C.x C.b dL_law_30 (by decide) (fun cb => ?_) (fun cb => ?_)
    · refine lv_iconst (v := 1) C.x C.b dL_law_1908 (by decide) ?_
      refine va_forget (fun q hq => E.2.2.1.2.2 q hq) ?_
      refine W.widen (k := 601024) (n := 7293034) (by omega) (by omega) ?_
      exact lw_ret C.x C.b hr hlocks dL_law_1909
    · have hm := l_more hj hLs cb
      have hcl : (100 + 2 * j) + 2 ≤ 601024 := by omega
      have hsl : (30000 + 700 * j) + 700 ≤ 7293034 := by omega
      have h0 : g_ix (nI (7 * j)) Ls := vp_in_nI (by omega) (by omega)
      have h1 := l_ixs (k := 1) hm hLs (by omega)
      have h2 := l_ixs (k := 2) hm hLs (by omega)
      have h3 := l_ixs (k := 3) hm hLs (by omega)
      have h4 := l_ixs (k := 4) hm hLs (by omega)
      have h5 := l_ixs (k := 5) hm hLs (by omega)
      have h6 := l_ixs (k := 6) hm hLs (by omega)
      have kk : ∀ (L : gL) (ad : gA) (σ : gS) (f : Nat → Int64) (H : Heap) (locs : List Loc) (ls : Array Slot), I L ad σ → l_E D cy cJ b f ad L σ s H locs → lv_has ls 8 [(0, .ref bs), (1, .ref (ad 8 0)), (2, .ref (ad 9 0)), (3, .ref b), (4, .int (nI (7 * j)))] → W p l e room_1 s m #[Value.ref bs] below meth c H locs ((100 + 2 * j) + 2) ((30000 + 700 * j) + 700) (lw_Z below #[Value.ref bs] s) (F0 m 1902 ls []) := by
        intro L ad σ f H locs ls hI E hl
        refine lv_iinc (v := nI (7 * (j + 1))) (lv' := [(4, .int (nI (7 * (j + 1)))), (0, .ref bs), (1, .ref (ad 8 0)), (2, .ref (ad 9 0)), (3, .ref b)]) C.x C.b dL_law_1902 hl (k := 4) rfl (show nI (7 * j) + nI 7 = _ by rw [nI_add]; congr 1) (by decide) rfl (fun ls hl => ?_)
        refine lv_goto (tgt := 23) C.x C.b dL_law_1905 (by decide) ?_
        have := ih (j + 1) (by omega) (by omega) L ad σ f H locs ls hI E (lv_sub hl [1, 2, 3, 4, 0] rfl)
        rw [show 100 + 2 * (j + 1) = (100 + 2 * j) + 2 by omega, show 30000 + 700 * (j + 1) = (30000 + 700 * j) + 700 by omega] at this
        exact this
      refine lv_aload_n C.x C.b dL_law_33 rfl (lv_at hl 0 rfl) ?_
      refine lv_iload C.x C.b dL_law_34 (lv_at hl 4 rfl) ?_
      refine va_sld C.x C.b SX.1 SX.2 (Nat.not_le.mpr SX.2) E.2.2.1 h0 dL_law_36 ?_
      refine lv_bipush (v := (63 : Int32)) C.x C.b dL_law_37 (by decide) ?_
      refine lv_iand C.x C.b dL_law_39 ?_
      refine lv_topi (fun x ex => ?_)
      by_cases c0 : x = nI 0
      · have e9 := g_swI c0 (show (nI 0).toInt = 0 from by decide)
        refine lv_tableIn (tgt := 192) C.x C.b dL_law_40 (by omega) (by omega) (by rw [e9]; rfl) (by decide) ?_
        exact lc_office C SX hst hX I hI9 hP9 (hs.1) hcl hsl h1 h2 h3 h4 h5 h6 kk L ad σ f H locs ls hI E hl
      by_cases c1 : x = nI 1
      · have e9 := g_swI c1 (show (nI 1).toInt = 1 from by decide)
        refine lv_tableIn (tgt := 245) C.x C.b dL_law_40 (by omega) (by omega) (by rw [e9]; rfl) (by decide) ?_
        exact lc_person C SX hst hX I hI9 hP9 (hs.2.1) hcl hsl h1 h2 h3 h4 h5 h6 kk L ad σ f H locs ls hI E hl
      by_cases c2 : x = nI 2
      · have e9 := g_swI c2 (show (nI 2).toInt = 2 from by decide)
        refine lv_tableIn (tgt := 306) C.x C.b dL_law_40 (by omega) (by omega) (by rw [e9]; rfl) (by decide) ?_
        exact lc_death C SX hst hX I hI9 hP9 (hs.2.2.1) hcl hsl h1 h2 h3 h4 h5 h6 kk L ad σ f H locs ls hI E hl
      by_cases c3 : x = nI 3
      · have e9 := g_swI c3 (show (nI 3).toInt = 3 from by decide)
        refine lv_tableIn (tgt := 343) C.x C.b dL_law_40 (by omega) (by omega) (by rw [e9]; rfl) (by decide) ?_
        exact lc_exile C SX hst hX I hI9 hP9 (hs.2.2.2.1) hcl hsl h1 h2 h3 h4 h5 h6 kk L ad σ f H locs ls hI E hl
      by_cases c4 : x = nI 4
      · have e9 := g_swI c4 (show (nI 4).toInt = 4 from by decide)
        refine lv_tableIn (tgt := 392) C.x C.b dL_law_40 (by omega) (by omega) (by rw [e9]; rfl) (by decide) ?_
        exact lc_birth C SX hst hX I hI9 hP9 (hs.2.2.2.2.1) hcl hsl h1 h2 h3 h4 h5 h6 kk L ad σ f H locs ls hI E hl
      by_cases c5 : x = nI 5
      · have e9 := g_swI c5 (show (nI 5).toInt = 5 from by decide)
        refine lv_tableIn (tgt := 441) C.x C.b dL_law_40 (by omega) (by omega) (by rw [e9]; rfl) (by decide) ?_
        exact lc_law C SX hst hX I hI9 hP9 (hs.2.2.2.2.2.1) hcl hsl h1 h2 h3 h4 h5 h6 kk L ad σ f H locs ls hI E hl
      by_cases c6 : x = nI 6
      · have e9 := g_swI c6 (show (nI 6).toInt = 6 from by decide)
        refine lv_tableIn (tgt := 502) C.x C.b dL_law_40 (by omega) (by omega) (by rw [e9]; rfl) (by decide) ?_
        exact lc_repeal C SX hst hX I hI9 hP9 (hs.2.2.2.2.2.2.1) hcl hsl h1 h2 h3 h4 h5 h6 kk L ad σ f H locs ls hI E hl
      by_cases c7 : x = nI 7
      · have e9 := g_swI c7 (show (nI 7).toInt = 7 from by decide)
        refine lv_tableIn (tgt := 539) C.x C.b dL_law_40 (by omega) (by omega) (by rw [e9]; rfl) (by decide) ?_
        exact lc_stone C SX hst hX I hI9 hP9 (hs.2.2.2.2.2.2.2.1) hcl hsl h1 h2 h3 h4 h5 h6 kk L ad σ f H locs ls hI E hl
      by_cases c8 : x = nI 8
      · have e9 := g_swI c8 (show (nI 8).toInt = 8 from by decide)
        refine lv_tableIn (tgt := 588) C.x C.b dL_law_40 (by omega) (by omega) (by rw [e9]; rfl) (by decide) ?_
        exact lc_empty C SX hst hX I hI9 hP9 (hs.2.2.2.2.2.2.2.2.1) hcl hsl h1 h2 h3 h4 h5 h6 kk L ad σ f H locs ls hI E hl
      by_cases c9 : x = nI 9
      · have e9 := g_swI c9 (show (nI 9).toInt = 9 from by decide)
        refine lv_tableIn (tgt := 637) C.x C.b dL_law_40 (by omega) (by omega) (by rw [e9]; rfl) (by decide) ?_
        exact lc_annul C SX hst hX I hI9 hP9 (hs.2.2.2.2.2.2.2.2.2.1) hcl hsl h1 h2 h3 h4 h5 h6 kk L ad σ f H locs ls hI E hl
      by_cases c10 : x = nI 10
      · have e9 := g_swI c10 (show (nI 10).toInt = 10 from by decide)
        refine lv_tableIn (tgt := 714) C.x C.b dL_law_40 (by omega) (by omega) (by rw [e9]; rfl) (by decide) ?_
        exact lc_seat C SX hst hX I hI9 hP9 (hs.2.2.2.2.2.2.2.2.2.2.1) hcl hsl h1 h2 h3 h4 h5 h6 kk L ad σ f H locs ls hI E hl
      by_cases c11 : x = nI 11
      · have e9 := g_swI c11 (show (nI 11).toInt = 11 from by decide)
        refine lv_tableIn (tgt := 763) C.x C.b dL_law_40 (by omega) (by omega) (by rw [e9]; rfl) (by decide) ?_
        exact lc_holds C SX hst hX I hI9 hP9 (hs.2.2.2.2.2.2.2.2.2.2.2.1) hcl hsl h1 h2 h3 h4 h5 h6 kk L ad σ f H locs ls hI E hl
      by_cases c12 : x = nI 12
      · have e9 := g_swI c12 (show (nI 12).toInt = 12 from by decide)
        refine lv_tableIn (tgt := 800) C.x C.b dL_law_40 (by omega) (by omega) (by rw [e9]; rfl) (by decide) ?_
        exact lc_held C SX hst hX I hI9 hP9 (hs.2.2.2.2.2.2.2.2.2.2.2.2.1) hcl hsl h1 h2 h3 h4 h5 h6 kk L ad σ f H locs ls hI E hl
      by_cases c13 : x = nI 13
      · have e9 := g_swI c13 (show (nI 13).toInt = 13 from by decide)
        refine lv_tableIn (tgt := 849) C.x C.b dL_law_40 (by omega) (by omega) (by rw [e9]; rfl) (by decide) ?_
        exact lc_could C SX hst hX I hI9 hP9 (hs.2.2.2.2.2.2.2.2.2.2.2.2.2.1) hcl hsl h1 h2 h3 h4 h5 h6 kk L ad σ f H locs ls hI E hl
      by_cases c14 : x = nI 14
      · have e9 := g_swI c14 (show (nI 14).toInt = 14 from by decide)
        refine lv_tableIn (tgt := 910) C.x C.b dL_law_40 (by omega) (by omega) (by rw [e9]; rfl) (by decide) ?_
        exact lc_first C SX hst hX I hI9 hP9 (hs.2.2.2.2.2.2.2.2.2.2.2.2.2.2.1) hcl hsl h1 h2 h3 h4 h5 h6 kk L ad σ f H locs ls hI E hl
      by_cases c15 : x = nI 15
      · have e9 := g_swI c15 (show (nI 15).toInt = 15 from by decide)
        refine lv_tableIn (tgt := 987) C.x C.b dL_law_40 (by omega) (by omega) (by rw [e9]; rfl) (by decide) ?_
        exact lc_who C SX hst hX I hI9 hP9 (hs.2.2.2.2.2.2.2.2.2.2.2.2.2.2.2.1) hcl hsl h1 h2 h3 h4 h5 h6 kk L ad σ f H locs ls hI E hl
      by_cases c16 : x = nI 16
      · have e9 := g_swI c16 (show (nI 16).toInt = 16 from by decide)
        refine lv_tableIn (tgt := 1052) C.x C.b dL_law_40 (by omega) (by omega) (by rw [e9]; rfl) (by decide) ?_
        exact lc_breaches C SX hst hX I hI9 hP9 (hs.2.2.2.2.2.2.2.2.2.2.2.2.2.2.2.2.1) hcl hsl h1 h2 h3 h4 h5 h6 kk L ad σ f H locs ls hI E hl
      by_cases c17 : x = nI 17
      · have e9 := g_swI c17 (show (nI 17).toInt = 17 from by decide)
        refine lv_tableIn (tgt := 1065) C.x C.b dL_law_40 (by omega) (by omega) (by rw [e9]; rfl) (by decide) ?_
        exact lc_breach C SX hst hX I hI9 hP9 (hs.2.2.2.2.2.2.2.2.2.2.2.2.2.2.2.2.2.1) hcl hsl h1 h2 h3 h4 h5 h6 kk L ad σ f H locs ls hI E hl
      by_cases c18 : x = nI 18
      · have e9 := g_swI c18 (show (nI 18).toInt = 18 from by decide)
        refine lv_tableIn (tgt := 1090) C.x C.b dL_law_40 (by omega) (by omega) (by rw [e9]; rfl) (by decide) ?_
        exact lc_fillings C SX hst hX I hI9 hP9 (hs.2.2.2.2.2.2.2.2.2.2.2.2.2.2.2.2.2.2.1) hcl hsl h1 h2 h3 h4 h5 h6 kk L ad σ f H locs ls hI E hl
      by_cases c19 : x = nI 19
      · have e9 := g_swI c19 (show (nI 19).toInt = 19 from by decide)
        refine lv_tableIn (tgt := 1115) C.x C.b dL_law_40 (by omega) (by omega) (by rw [e9]; rfl) (by decide) ?_
        exact lc_fill C SX hst hX I hI9 hP9 (hs.2.2.2.2.2.2.2.2.2.2.2.2.2.2.2.2.2.2.2.1) hcl hsl h1 h2 h3 h4 h5 h6 kk L ad σ f H locs ls hI E hl
      by_cases c20 : x = nI 20
      · have e9 := g_swI c20 (show (nI 20).toInt = 20 from by decide)
        refine lv_tableIn (tgt := 1140) C.x C.b dL_law_40 (by omega) (by omega) (by rw [e9]; rfl) (by decide) ?_
        exact lc_among C SX hst hX I hI9 hP9 (hs.2.2.2.2.2.2.2.2.2.2.2.2.2.2.2.2.2.2.2.2.1) hcl hsl h1 h2 h3 h4 h5 h6 kk L ad σ f H locs ls hI E hl
      by_cases c21 : x = nI 21
      · have e9 := g_swI c21 (show (nI 21).toInt = 21 from by decide)
        refine lv_tableIn (tgt := 1189) C.x C.b dL_law_40 (by omega) (by omega) (by rw [e9]; rfl) (by decide) ?_
        exact lc_election C SX hst hX I hI9 hP9 (hs.2.2.2.2.2.2.2.2.2.2.2.2.2.2.2.2.2.2.2.2.2.1) hcl hsl h1 h2 h3 h4 h5 h6 kk L ad σ f H locs ls hI E hl
      by_cases c22 : x = nI 22
      · have e9 := g_swI c22 (show (nI 22).toInt = 22 from by decide)
        refine lv_tableIn (tgt := 1226) C.x C.b dL_law_40 (by omega) (by omega) (by rw [e9]; rfl) (by decide) ?_
        exact lc_vote C SX hst hX I hI9 hP9 (hs.2.2.2.2.2.2.2.2.2.2.2.2.2.2.2.2.2.2.2.2.2.2.1) hcl hsl h1 h2 h3 h4 h5 h6 kk L ad σ f H locs ls hI E hl
      by_cases c23 : x = nI 23
      · have e9 := g_swI c23 (show (nI 23).toInt = 23 from by decide)
        refine lv_tableIn (tgt := 1263) C.x C.b dL_law_40 (by omega) (by omega) (by rw [e9]; rfl) (by decide) ?_
        exact lc_elected C SX hst hX I hI9 hP9 (hs.2.2.2.2.2.2.2.2.2.2.2.2.2.2.2.2.2.2.2.2.2.2.2.1) hcl hsl h1 h2 h3 h4 h5 h6 kk L ad σ f H locs ls hI E hl
      by_cases c24 : x = nI 24
      · have e9 := g_swI c24 (show (nI 24).toInt = 24 from by decide)
        refine lv_tableIn (tgt := 1344) C.x C.b dL_law_40 (by omega) (by omega) (by rw [e9]; rfl) (by decide) ?_
        exact lc_sure C SX hst hX I hI9 hP9 (hs.2.2.2.2.2.2.2.2.2.2.2.2.2.2.2.2.2.2.2.2.2.2.2.2.1) hcl hsl h1 h2 h3 h4 h5 h6 kk L ad σ f H locs ls hI E hl
      by_cases c25 : x = nI 25
      · have e9 := g_swI c25 (show (nI 25).toInt = 25 from by decide)
        refine lv_tableIn (tgt := 1401) C.x C.b dL_law_40 (by omega) (by omega) (by rw [e9]; rfl) (by decide) ?_
        exact lc_drawn C SX hst hX I hI9 hP9 (hs.2.2.2.2.2.2.2.2.2.2.2.2.2.2.2.2.2.2.2.2.2.2.2.2.2.1) hcl hsl h1 h2 h3 h4 h5 h6 kk L ad σ f H locs ls hI E hl
      by_cases c26 : x = nI 26
      · have e9 := g_swI c26 (show (nI 26).toInt = 26 from by decide)
        refine lv_tableIn (tgt := 1482) C.x C.b dL_law_40 (by omega) (by omega) (by rw [e9]; rfl) (by decide) ?_
        exact lc_province C SX hst hX I hI9 hP9 (hs.2.2.2.2.2.2.2.2.2.2.2.2.2.2.2.2.2.2.2.2.2.2.2.2.2.2.1) hcl hsl h1 h2 h3 h4 h5 h6 kk L ad σ f H locs ls hI E hl
      by_cases c27 : x = nI 27
      · have e9 := g_swI c27 (show (nI 27).toInt = 27 from by decide)
        refine lv_tableIn (tgt := 1589) C.x C.b dL_law_40 (by omega) (by omega) (by rw [e9]; rfl) (by decide) ?_
        exact lc_count C SX hst hX I hI9 hP9 (hs.2.2.2.2.2.2.2.2.2.2.2.2.2.2.2.2.2.2.2.2.2.2.2.2.2.2.2.1) hcl hsl h1 h2 h3 h4 h5 h6 kk L ad σ f H locs ls hI E hl
      by_cases c28 : x = nI 28
      · have e9 := g_swI c28 (show (nI 28).toInt = 28 from by decide)
        refine lv_tableIn (tgt := 1614) C.x C.b dL_law_40 (by omega) (by omega) (by rw [e9]; rfl) (by decide) ?_
        exact lc_keep C SX hst hX I hI9 hP9 (hs.2.2.2.2.2.2.2.2.2.2.2.2.2.2.2.2.2.2.2.2.2.2.2.2.2.2.2.2.1) hcl hsl h1 h2 h3 h4 h5 h6 kk L ad σ f H locs ls hI E hl
      by_cases c29 : x = nI 29
      · have e9 := g_swI c29 (show (nI 29).toInt = 29 from by decide)
        refine lv_tableIn (tgt := 1663) C.x C.b dL_law_40 (by omega) (by omega) (by rw [e9]; rfl) (by decide) ?_
        exact lc_make C SX hst hX I hI9 hP9 (hs.2.2.2.2.2.2.2.2.2.2.2.2.2.2.2.2.2.2.2.2.2.2.2.2.2.2.2.2.2.1) hcl hsl h1 h2 h3 h4 h5 h6 kk L ad σ f H locs ls hI E hl
      by_cases c30 : x = nI 30
      · have e9 := g_swI c30 (show (nI 30).toInt = 30 from by decide)
        refine lv_tableIn (tgt := 1712) C.x C.b dL_law_40 (by omega) (by omega) (by rw [e9]; rfl) (by decide) ?_
        exact lc_element C SX hst hX I hI9 (hs.2.2.2.2.2.2.2.2.2.2.2.2.2.2.2.2.2.2.2.2.2.2.2.2.2.2.2.2.2.2.1) hcl hsl h1 h2 kk L ad σ f H locs ls hI E hl
      by_cases c31 : x = nI 31
      · have e9 := g_swI c31 (show (nI 31).toInt = 31 from by decide)
        refine lv_tableIn (tgt := 1779) C.x C.b dL_law_40 (by omega) (by omega) (by rw [e9]; rfl) (by decide) ?_
        exact lc_copy C SX hst hX I hI9 hP9 (hs.2.2.2.2.2.2.2.2.2.2.2.2.2.2.2.2.2.2.2.2.2.2.2.2.2.2.2.2.2.2.2.1) hcl hsl h1 h2 h3 h4 h5 h6 kk L ad σ f H locs ls hI E hl
      by_cases c32 : x = nI 32
      · have e9 := g_swI c32 (show (nI 32).toInt = 32 from by decide)
        refine lv_tableIn (tgt := 1852) C.x C.b dL_law_40 (by omega) (by omega) (by rw [e9]; rfl) (by decide) ?_
        exact lc_weight C SX hst hX I hI9 hP9 (hs.2.2.2.2.2.2.2.2.2.2.2.2.2.2.2.2.2.2.2.2.2.2.2.2.2.2.2.2.2.2.2.2.1) hcl hsl h1 h2 h3 h4 h5 h6 kk L ad σ f H locs ls hI E hl
      by_cases c33 : x = nI 33
      · have e9 := g_swI c33 (show (nI 33).toInt = 33 from by decide)
        refine lv_tableIn (tgt := 1877) C.x C.b dL_law_40 (by omega) (by omega) (by rw [e9]; rfl) (by decide) ?_
        exact lc_toss C SX hst hX I hI9 hP9 (hs.2.2.2.2.2.2.2.2.2.2.2.2.2.2.2.2.2.2.2.2.2.2.2.2.2.2.2.2.2.2.2.2.2) hcl hsl h1 h2 h3 h4 h5 h6 kk L ad σ f H locs ls hI E hl
      refine lv_tableOut (tgt := 1902) C.x C.b dL_law_40 (l_tbl (fun k hk => ?_)) (by decide) ?_
      · rcases (show k = 0 ∨ k = 1 ∨ k = 2 ∨ k = 3 ∨ k = 4 ∨ k = 5 ∨ k = 6 ∨ k = 7 ∨ k = 8 ∨ k = 9 ∨ k = 10 ∨ k = 11 ∨ k = 12 ∨ k = 13 ∨ k = 14 ∨ k = 15 ∨ k = 16 ∨ k = 17 ∨ k = 18 ∨ k = 19 ∨ k = 20 ∨ k = 21 ∨ k = 22 ∨ k = 23 ∨ k = 24 ∨ k = 25 ∨ k = 26 ∨ k = 27 ∨ k = 28 ∨ k = 29 ∨ k = 30 ∨ k = 31 ∨ k = 32 ∨ k = 33 by omega) with rfl | rfl | rfl | rfl | rfl | rfl | rfl | rfl | rfl | rfl | rfl | rfl | rfl | rfl | rfl | rfl | rfl | rfl | rfl | rfl | rfl | rfl | rfl | rfl | rfl | rfl | rfl | rfl | rfl | rfl | rfl | rfl | rfl | rfl
        · exact c0
        · exact c1
        · exact c2
        · exact c3
        · exact c4
        · exact c5
        · exact c6
        · exact c7
        · exact c8
        · exact c9
        · exact c10
        · exact c11
        · exact c12
        · exact c13
        · exact c14
        · exact c15
        · exact c16
        · exact c17
        · exact c18
        · exact c19
        · exact c20
        · exact c21
        · exact c22
        · exact c23
        · exact c24
        · exact c25
        · exact c26
        · exact c27
        · exact c28
        · exact c29
        · exact c30
        · exact c31
        · exact c32
        · exact c33
      · refine W.widen (k := (100 + 2 * j) + 2) (n := (30000 + 700 * j) + 700) (by omega) (by omega) ?_
        exact kk L ad σ f H locs ls hI E hl
