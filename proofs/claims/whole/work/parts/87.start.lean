/-! THE LAW'S ENTRY, AND THE CLAIM -/
def ofl : List Nat := [13, 6, 0, 0, 5, 0, 1, 0, 0, 47, 14, 15, 16, 17, 18, 19, 20, 7, 8, 9, 10, 11, 12, 0, 0, 2, 3, 4, 0, 0, 21, 22, 0, 0, 0, 0, 0, 0, 0, 0, 0, 0, 0, 0, 48, 49, 50, 51, 52, 53, 54, 55, 56, 57, 58, 59, 60, 61, 62, 63, 64, 0, 0, 0, 0, 0, 0, 65, 66, 0, 0, 67, 68, 69, 70, 71, 72, 73, 0, 74, 75, 76, 77, 78, 79, 0, 0, 0, 0, 0, 0, 0, 0, 0, 0, 0, 0, 0, 0, 0, 13, 6, 0, 0, 5, 0, 1, 0, 0, 47]
/-- where things lie, behind the heap of the start -/
def ofs (K i : Nat) : Nat := if K = 7 ∨ K = 107 then 23 + 3 * i else if K = 28 then 24 + 3 * i else if K = 29 then 25 + 3 * i else ofl.getD K 0
def adS (h : Nat) : gA := fun K i => h + ofs K i
theorem aof {h K i a k : Nat} (e : ofs K i = a + k) : adS h K i = (h + a) + k := by unfold adS; omega
theorem acg {h K i K' i' : Nat} (e : ofs K i = ofs K' i') : adS h K i = adS h K' i' := by unfold adS; rw [e]
theorem sims_ok : sims gI := ⟨ok_office, ok_person, ok_death, ok_exile, ok_birth, ok_law, ok_repeal, ok_stone, ok_empty, ok_annul, ok_seat, ok_holds, ok_held, ok_could, ok_first, ok_who, ok_breaches, ok_breach, ok_fillings, ok_fill, ok_among, ok_election, ok_vote, ok_elected, ok_sure, ok_drawn, ok_province, ok_count, ok_keep, ok_make, ok_element, ok_copy, ok_weight, ok_toss⟩
theorem lw_flags {l : Launch} (h : l.flags = flags0) : l.stackTraces = false := by
  unfold Launch.stackTraces
  rw [h]
  decide +kernel
theorem l_prim {s : State} {args : Array Value} {ty : FieldType} (h : (Cond.arrayClass ty).before args s = true) : ∃ cA : ClassId, ArrOfT s cA ty ∧ s.vm.findClass ("[" ++ ty.toString) = some cA := by
  obtain ⟨cA, kA, comp, h1, h2, h3⟩ := Cond.arrayClass_spec h
  exact ⟨cA, fun n z => ⟨fun k h => (by cases h), kA, h2, comp, h3⟩, h1⟩
theorem l_obj {s : State} {C : String} (h : va_AO C s) : ∃ cA : ClassId, ArrOfT s cA (.object C) ∧ va_RA s cA (.object C) := by
  obtain ⟨comp, c, k, h1, h2, h3, h4, h5⟩ := Cond.arrayOver_spec h
  exact ⟨c, fun n z => ⟨fun k h => (by cases h), k, h3, comp, h4⟩, k, comp, h3, h4, h1, h5⟩
theorem nest_on : ∀ w ∈ g_nest, w.onTables = true := by decide +kernel
theorem nest_in : ∀ w ∈ g_nest, w ∈ lw_tbl := by decide +kernel
theorem xw_in : ∀ w ∈ g_xw, w ∈ lw_tbl := by decide +kernel
theorem ao_in : ∀ C ∈ ["OfficeLadder$Law", "OfficeLadder$Office", "OfficeLadder$Person", "OfficeLadder$Shelf"], Cond.arrayOver (.object C) ∈ lw_tbl := by decide +kernel
theorem xs_in : ∀ q ∈ g_xs, Cond.stringRef q.1 q.2.1 q.2.2 ∈ lw_tbl := by decide +kernel
theorem xs_ex : ∀ q ∈ g_xs, Cond.exactly (.string q.1 q.2.1) "java/lang/String" ∈ flatC (Jvm.Cond.and given_1 narrow_1) := by decide +kernel
theorem lay_in : Cond.laysStatic Bundle.tN "UNASSIGNED_STACK" Bundle.steD ∈ lw_tbl ∧ Cond.laysStatic Bundle.tN "SUPPRESSED_SENTINEL" Bundle.listD ∈ lw_tbl ∧ Cond.initialized Bundle.tN ∈ lw_tbl := by decide +kernel
theorem ref_in : Cond.isRef (.static Bundle.tN "UNASSIGNED_STACK" Bundle.steD) ∈ flatC (Jvm.Cond.and given_1 narrow_1) ∧ Cond.isRef (.static Bundle.tN "SUPPRESSED_SENTINEL" Bundle.listD) ∈ flatC (Jvm.Cond.and given_1 narrow_1) ∧ Cond.not (.castable "java/lang/IllegalStateException" "java/lang/IllegalArgumentException") ∈ flatC (Jvm.Cond.and given_1 narrow_1) := by decide +kernel
theorem l_gX {s : State} {b q : Nat} (hts : ∀ w ∈ lw_tbl, w.before #[Value.ref b] s = true) (hgv : (Jvm.Cond.and given_1 narrow_1).before #[Value.ref b] s = true) : g_X (l_A s q) s := by
  have hf := flat_of_before _ hgv
  have hA : ∀ a : Nat, a < s.heap.size → ¬ l_A s q a := fun a h h' => by have := h'.1; omega
  refine ⟨⟨vx_Zqof (hts _ lay_in.1) (hts _ lay_in.2.2) (hf _ ref_in.1) hA, vx_Zqof (hts _ lay_in.2.1) (hts _ lay_in.2.2) (hf _ ref_in.2.1) hA⟩, fun z hz => ?_, fun w hw => va_Nw.of (g_xw_on w hw) (hts w (xw_in w hw)), va_Nc.of (hf _ ref_in.2.2)⟩
  obtain ⟨a, -, -, -, ha, -⟩ := Cond.exactly_spec (hf _ (xs_ex z hz))
  exact ⟨a, vk_R.of (hts _ (xs_in z hz)) ha⟩
theorem l_known {s : State} {b : Nat} (hts : ∀ w ∈ lw_tbl, w.before #[Value.ref b] s = true) : ∃ (D : va_G) (cy : Nat → ClassId), va_K D vwCl (g_tys cy) s ∧ g_N s := by
  have hg : ∀ w ∈ lw_good, w.before #[Value.ref b] s = true := fun w hw => hts w (g_tw_tbl hw)
  obtain ⟨c0, i0, k0⟩ := u_known (C := RX0) (T := TX0) (N := 11) (n := 11) hg ginX0 (hg _ tw214)
  obtain ⟨c1, i1, k1⟩ := u_known (C := RX1) (T := TX1) (N := 15) (n := 15) hg ginX1 (hg _ tw156)
  obtain ⟨c2, i2, k2⟩ := u_known (C := RX2) (T := TX2) (N := 6) (n := 6) hg ginX2 (hg _ tw447)
  obtain ⟨c3, i3, k3⟩ := u_known (C := RX3) (T := TX3) (N := 3) (n := 3) hg ginX3 (hg _ tw305)
  obtain ⟨c4, i4, k4⟩ := u_known (C := RX4) (T := TX4) (N := 4) (n := 4) hg ginX4 (hg _ tw93)
  obtain ⟨c5, i5, k5⟩ := u_known (C := RX5) (T := TX5) (N := 9) (n := 9) hg ginX5 (hg _ tw345)
  obtain ⟨c6, i6, k6⟩ := u_known (C := RX6) (T := TX6) (N := 9) (n := 9) hg ginX6 (hg _ tw81)
  obtain ⟨c7, i7, k7⟩ := u_known (C := RX7) (T := TX7) (N := 5) (n := 5) hg ginX7 (hg _ tw259)
  obtain ⟨c8, i8, k8⟩ := u_known (C := RX8) (T := TX8) (N := 5) (n := 5) hg ginX8 (hg _ tw73)
  obtain ⟨c9, i9, k9⟩ := u_known (C := RX9) (T := TX9) (N := 45) (n := 45) hg ginX9 (hg _ tw945)
  have o1 : va_AO "OfficeLadder$Law" s := va_AO.of (hts _ (ao_in _ (by decide)))
  have o2 : va_AO "OfficeLadder$Office" s := va_AO.of (hts _ (ao_in _ (by decide)))
  have o3 : va_AO "OfficeLadder$Person" s := va_AO.of (hts _ (ao_in _ (by decide)))
  have o4 : va_AO "OfficeLadder$Shelf" s := va_AO.of (hts _ (ao_in _ (by decide)))
  obtain ⟨y0, a0, r0⟩ := l_prim (hg _ tw283)
  obtain ⟨y1, a1, r1⟩ := l_prim (hg _ tw211)
  obtain ⟨y2, a2, r2⟩ := l_prim (hg _ tw212)
  obtain ⟨y3, a3, r3⟩ := l_obj o1
  obtain ⟨y4, a4, r4⟩ := l_obj o2
  obtain ⟨y5, a5, r5⟩ := l_obj o3
  obtain ⟨y6, a6, r6⟩ := l_obj o4
  refine ⟨(fun k => match k with | 0 => c0 | 1 => c1 | 2 => c2 | 3 => c3 | 4 => c4 | 5 => c5 | 6 => c6 | 7 => c7 | 8 => c8 | _ => c9, fun k => match k with | 0 => i0 | 1 => i1 | 2 => i2 | 3 => i3 | 4 => i4 | 5 => i5 | 6 => i6 | 7 => i7 | 8 => i8 | _ => i9), (fun k => match k with | 0 => y0 | 1 => y1 | 2 => y2 | 3 => y3 | 4 => y4 | 5 => y5 | _ => y6), ⟨fun k q hq => ?_, fun k q hq => ?_⟩, ⟨fun w hw => va_Nw.of (nest_on w hw) (hts w (nest_in w hw)), o1, o2, o3, o4⟩⟩
  · match k, hq with
    | 0, hq => cases hq; exact k0
    | 1, hq => cases hq; exact k1
    | 2, hq => cases hq; exact k2
    | 3, hq => cases hq; exact k3
    | 4, hq => cases hq; exact k4
    | 5, hq => cases hq; exact k5
    | 6, hq => cases hq; exact k6
    | 7, hq => cases hq; exact k7
    | 8, hq => cases hq; exact k8
    | 9, hq => cases hq; exact k9
    | k + 10, hq => simp [vwCl] at hq
  · match k, hq with
    | 0, hq => cases hq; exact ⟨a0, r0⟩
    | 1, hq => cases hq; exact ⟨a1, r1⟩
    | 2, hq => cases hq; exact ⟨a2, r2⟩
    | 3, hq => cases hq; exact ⟨a3, r3⟩
    | 4, hq => cases hq; exact ⟨a4, r4⟩
    | 5, hq => cases hq; exact ⟨a5, r5⟩
    | 6, hq => cases hq; exact ⟨a6, r6⟩
    | k + 7, hq => simp [g_tys] at hq
set_option maxHeartbeats 4000000 in
set_option maxRecDepth 100000 in
theorem whole_start {p : Program} {e : Env} {s : State} {m : MethodId} {below : List Frame} {meth : Method} {c : Code} (l : Launch) (hst : l.stackTraces = false) {b L : Nat} {xs : Nat → Int32} (hL : L ≤ 3584) (C0 : lw_At p s m meth c b L xs) : W p l e room_1 s m #[Value.ref b] below meth c s.heap [] 0 0 (lw_Z below #[Value.ref b] s) (entryFrame m ([Value.ref b] : List Value).toArray 8) := by
  obtain ⟨hx, hb, hr, hml, hown, hts, hX, hbl, hlocks, hgv⟩ := id C0
  obtain ⟨D, cy, hK, hN⟩ := l_known hts
  have C : g_C "OfficeLadderLaw" code 8 D cy (fun q => s.heap.size ≤ q) p m c s #[Value.ref b] := ⟨⟨hx, hb, hml, hown, fun w hw => hts w (g_tw_tbl hw)⟩, ⟨hK, hN⟩, fun _ h => h⟩
  obtain ⟨h, hs⟩ : ∃ h, s.heap.size = h := ⟨_, rfl⟩
  have G : g_H D cy (fun q => s.heap.size ≤ q) (adS h) [] zS s.heap s.heap [] := ⟨fun k q hq => by simp [g_ws] at hq, ⟨fun i j p q hq => by simp [g_ws] at hq, fun k q hq => by simp [g_ws] at hq⟩, va_S.rf, ⟨fun K i j hq => absurd hq List.not_mem_nil, fun K i j hq => absurd hq List.not_mem_nil, fun i hq => absurd hq List.not_mem_nil⟩⟩
  have hl := lv_entry ([.ref b]) (n := 8) (Nat.le_of_ble_eq_true rfl)
  rw [lg_entry_eq]
  generalize (lg_sl ([.ref b]) ++ List.replicate (8 - (lg_sl ([.ref b])).length) Slot.unset).toArray = ls at hl ⊢
  have hl : lv_has ls 8 [(0, .ref b)] := hl
  -- the class's object
  refine g_new C G 8 0 rfl ginX8 tyX8_ok (by decide) (gz_X8 (adS h) 0) tw72 tw73 tw54 (by decide) ((aof (a := 0) (k := 0) (by decide)).trans hs.symm) (Nat.le_of_ble_eq_true rfl) (Nat.le_of_ble_eq_true rfl) dL_law_0 (fun H G => ?_)
  have G : g_H D cy (fun q => s.heap.size ≤ q) (adS h) [(108, 0)] (g_row zS 108 0 (g_z 8)) s.heap _ _ := G
  refine lv_dup C.x C.b dL_law_3 rfl ?_
  refine g_size (fun hle => ?_)
  have hsz := g_szk (k := 0) (K := 108) (i := 0) G (by decide) hs (aof (a := 0) (k := 0) (by decide)) hle
  refine g_callA G (g_runI (As := []) (rest := [.ref (adS h 108 0)]) C G (adS h 108 0) (c_X8_init l D cy (fun q => s.heap.size ≤ q) (adS h) (g_row zS 108 0 (g_z 8)) (h + 1) (aof (a := 1) (k := 0) (by decide)) (aof (a := 1) (k := 1) (by decide)) (aof (a := 1) (k := 2) (by decide)) (aof (a := 1) (k := 3) (by decide)) (aof (a := 1) (k := 4) (by decide)) (aof (a := 1) (k := 5) (by decide)) (aof (a := 1) (k := 6) (by decide)) (aof (a := 1) (k := 7) (by decide)) (aof (a := 1) (k := 8) (by decide)) (aof (a := 1) (k := 9) (by decide)) (aof (a := 1) (k := 10) (by decide)) (aof (a := 1) (k := 11) (by decide)) (aof (a := 1) (k := 12) (by decide)) (aof (a := 1) (k := 13) (by decide)) (aof (a := 1) (k := 14) (by decide)) (aof (a := 1) (k := 15) (by decide)) (aof (a := 1) (k := 16) (by decide)) (aof (a := 1) (k := 17) (by decide)) (aof (a := 1) (k := 18) (by decide)) (aof (a := 1) (k := 19) (by decide)) (aof (a := 1) (k := 20) (by decide)) (aof (a := 1) (k := 21) (by decide)) (aof (a := 1) (k := 22) (by decide)) (aof (a := 1) (k := 23) (by decide)) (aof (a := 1) (k := 24) (by decide)) (aof (a := 1) (k := 25) (by decide)) (aof (a := 1) (k := 26) (by decide)) (aof (a := 1) (k := 27) (by decide)) (aof (a := 1) (k := 28) (by decide)) (aof (a := 1) (k := 29) (by decide)) (aof (a := 1) (k := 30) (by decide)) (aof (a := 1) (k := 31) (by decide)) (aof (a := 1) (k := 32) (by decide)) (aof (a := 1) (k := 33) (by decide)) (aof (a := 1) (k := 34) (by decide)) (aof (a := 1) (k := 35) (by decide)) (aof (a := 1) (k := 36) (by decide)) (aof (a := 1) (k := 37) (by decide)) (aof (a := 1) (k := 38) (by decide)) (aof (a := 1) (k := 39) (by decide)) (aof (a := 1) (k := 40) (by decide)) (aof (a := 1) (k := 41) (by decide)) (aof (a := 1) (k := 42) (by decide)) (aof (a := 1) (k := 43) (by decide)) (aof (a := 1) (k := 44) (by decide)) (aof (a := 1) (k := 45) (by decide)) (acg (by decide)) (acg (by decide)) (acg (by decide)) (acg (by decide)) (acg (by decide)) (acg (by decide)) (acg (by decide)) (acg (by decide)) (acg (by decide)) (acg (by decide)) (acg (by decide)) (acg (by decide)) s8 ((i8_ad _ _).trans s8_ok)) ⟨tw76, tw54, tw74, ⟨rfl, tw75⟩, hd_X8_init⟩ (by decide) hsz hl.1 rfl (Nat.le_of_ble_eq_true rfl) dL_law_4 ⟨Nat.le_of_ble_eq_true rfl, Nat.le_of_ble_eq_true rfl⟩) (fun H locs G => ?_)
  have hc8 : adS h 8 0 = adS h 108 0 := acg (by decide)
  refine g_convW (k := 8) (i := 0) (L1 := []) (L2 := [(6, 0), (25, 0), (26, 0), (27, 0), (4, 0), (1, 0), (17, 0), (18, 0), (19, 0), (20, 0), (21, 0), (22, 0), (0, 0), (10, 0), (11, 0), (12, 0), (13, 0), (14, 0), (15, 0), (16, 0), (30, 0), (31, 0), (7, 0), (28, 0), (29, 0), (7, 1), (28, 1), (29, 1), (7, 2), (28, 2), (29, 2), (7, 3), (28, 3), (29, 3), (7, 4), (28, 4), (29, 4), (7, 5), (28, 5), (29, 5), (7, 6), (28, 6), (29, 6), (7, 7), (28, 7), (29, 7)]) G (by decide) hc8 (by decide) (g_allset_ok as8) (fun h => absurd h (by decide)) ?_ (fun G => ?_)
  · decide
  have G : g_H D cy (fun q => s.heap.size ≤ q) (adS h) [(8, 0), (6, 0), (25, 0), (26, 0), (27, 0), (4, 0), (1, 0), (17, 0), (18, 0), (19, 0), (20, 0), (21, 0), (22, 0), (0, 0), (10, 0), (11, 0), (12, 0), (13, 0), (14, 0), (15, 0), (16, 0), (30, 0), (31, 0), (7, 0), (28, 0), (29, 0), (7, 1), (28, 1), (29, 1), (7, 2), (28, 2), (29, 2), (7, 3), (28, 3), (29, 3), (7, 4), (28, 4), (29, 4), (7, 5), (28, 5), (29, 5), (7, 6), (28, 6), (29, 6), (7, 7), (28, 7), (29, 7)] (g_row s8 8 0 (s8 108 0)) s.heap _ _ := G
  refine W.eq (g2 := F0 m 7 ls [.ref (adS h 8 0)]) (by rw [hc8]) ?_
  refine lv_astore_n (lv' := [(1, .ref (adS h 8 0)), (0, .ref b)]) C.x C.b dL_law_7 rfl hl (by decide) rfl (fun ls hl => ?_)
  -- the reference's
  refine g_size (fun hle => ?_)
  have hsz := g_szk (k := 46) (K := 29) (i := 7) G (by decide) hs (aof (a := 0) (k := 46) (by decide)) hle
  refine g_new C G 9 0 rfl ginX9 tyX9_ok (by decide) (gz_X9 (adS h) 0) tw944 tw945 tw60 (by decide) ((aof (a := 0) (k := 47) (by decide)).trans hsz.symm) (Nat.le_of_ble_eq_true rfl) (Nat.le_of_ble_eq_true rfl) dL_law_8 (fun H G => ?_)
  have G : g_H D cy (fun q => s.heap.size ≤ q) (adS h) ([(8, 0), (6, 0), (25, 0), (26, 0), (27, 0), (4, 0), (1, 0), (17, 0), (18, 0), (19, 0), (20, 0), (21, 0), (22, 0), (0, 0), (10, 0), (11, 0), (12, 0), (13, 0), (14, 0), (15, 0), (16, 0), (30, 0), (31, 0), (7, 0), (28, 0), (29, 0), (7, 1), (28, 1), (29, 1), (7, 2), (28, 2), (29, 2), (7, 3), (28, 3), (29, 3), (7, 4), (28, 4), (29, 4), (7, 5), (28, 5), (29, 5), (7, 6), (28, 6), (29, 6), (7, 7), (28, 7), (29, 7)] ++ [(109, 0)]) s9 s.heap _ _ := G
  refine lv_dup C.x C.b dL_law_11 rfl ?_
  refine g_size (fun hle => ?_)
  have hsz := g_szk (k := 47) (K := 109) (i := 0) G (by decide) hs (aof (a := 0) (k := 47) (by decide)) hle
  obtain ⟨σ9, e9, hcv9, hI⟩ := g_begin (adS h)
  refine g_callA G (g_runI (As := []) (rest := [.ref (adS h 109 0)]) C G (adS h 109 0) (c_X9_init l D cy (fun q => s.heap.size ≤ q) (adS h) s9 (h + 48) (aof (a := 48) (k := 0) (by decide)) (aof (a := 48) (k := 1) (by decide)) (aof (a := 48) (k := 2) (by decide)) (aof (a := 48) (k := 3) (by decide)) (aof (a := 48) (k := 4) (by decide)) (aof (a := 48) (k := 5) (by decide)) (aof (a := 48) (k := 6) (by decide)) (aof (a := 48) (k := 7) (by decide)) (aof (a := 48) (k := 8) (by decide)) (aof (a := 48) (k := 9) (by decide)) (aof (a := 48) (k := 10) (by decide)) (aof (a := 48) (k := 11) (by decide)) (aof (a := 48) (k := 12) (by decide)) (aof (a := 48) (k := 13) (by decide)) (aof (a := 48) (k := 14) (by decide)) (aof (a := 48) (k := 15) (by decide)) (aof (a := 48) (k := 16) (by decide)) (aof (a := 48) (k := 17) (by decide)) (aof (a := 48) (k := 18) (by decide)) (aof (a := 48) (k := 19) (by decide)) (aof (a := 48) (k := 20) (by decide)) (aof (a := 48) (k := 21) (by decide)) (aof (a := 48) (k := 22) (by decide)) (aof (a := 48) (k := 23) (by decide)) (aof (a := 48) (k := 24) (by decide)) (aof (a := 48) (k := 25) (by decide)) (aof (a := 48) (k := 26) (by decide)) (aof (a := 48) (k := 27) (by decide)) (aof (a := 48) (k := 28) (by decide)) (aof (a := 48) (k := 29) (by decide)) (aof (a := 48) (k := 30) (by decide)) (aof (a := 48) (k := 31) (by decide)) σ9 e9) ⟨tw948, tw60, tw946, ⟨rfl, tw947⟩, hd_X9_init⟩ (by decide) hsz hl.1 rfl (Nat.le_of_ble_eq_true rfl) dL_law_12 ⟨Nat.le_of_ble_eq_true rfl, Nat.le_of_ble_eq_true rfl⟩) (fun H locs G => ?_)
  have hc9 : adS h 9 0 = adS h 109 0 := acg (by decide)
  refine g_convW (k := 9) (i := 0) (L1 := [(8, 0), (6, 0), (25, 0), (26, 0), (27, 0), (4, 0), (1, 0), (17, 0), (18, 0), (19, 0), (20, 0), (21, 0), (22, 0), (0, 0), (10, 0), (11, 0), (12, 0), (13, 0), (14, 0), (15, 0), (16, 0), (30, 0), (31, 0), (7, 0), (28, 0), (29, 0), (7, 1), (28, 1), (29, 1), (7, 2), (28, 2), (29, 2), (7, 3), (28, 3), (29, 3), (7, 4), (28, 4), (29, 4), (7, 5), (28, 5), (29, 5), (7, 6), (28, 6), (29, 6), (7, 7), (28, 7), (29, 7)]) (L2 := [(44, 0), (45, 0), (46, 0), (47, 0), (48, 0), (49, 0), (50, 0), (51, 0), (52, 0), (53, 0), (54, 0), (55, 0), (56, 0), (57, 0), (58, 0), (59, 0), (60, 0), (67, 0), (68, 0), (71, 0), (72, 0), (73, 0), (74, 0), (75, 0), (76, 0), (77, 0), (79, 0), (80, 0), (81, 0), (82, 0), (83, 0), (84, 0)]) G (by decide) hc9 (by decide) hcv9 (fun h => absurd h (by decide)) ?_ (fun G => ?_)
  · decide
  have G : g_H D cy (fun q => s.heap.size ≤ q) (adS h) LS0 (g_row σ9 9 0 (σ9 109 0)) s.heap _ _ := G
  refine W.eq (g2 := F0 m 15 ls [.ref (adS h 9 0)]) (by rw [hc9]) ?_
  refine lv_astore_n (lv' := [(2, .ref (adS h 9 0)), (1, .ref (adS h 8 0)), (0, .ref b)]) C.x C.b dL_law_15 rfl hl (by decide) rfl (fun ls hl => ?_)
  -- the row of one long
  refine lv_iconst (v := (1 : Int32)) C.x C.b dL_law_16 (by decide) ?_
  obtain ⟨hP, hD, hS, hCl⟩ := G
  refine va_newaK (atype := .long) (N := 1) hx hb (hts _ (g_tw_tbl tw1363)) rfl dL_law_17 rfl (by decide) rfl (by decide) (Nat.le_of_ble_eq_true rfl) (Nat.le_of_ble_eq_true rfl) rfl (fun H1 cJ n1 n2 n3 n4 n5 => ?_)
  have hkp : ∀ (k : Nat) (x : Nat × va_E), (g_ws cy (adS h) LS0 (g_row σ9 9 0 (σ9 109 0)))[k]? = some x → H1[x.1]? = H[x.1]? := fun k x hx => n3 x.1 ((hP k x hx).lt)
  have hS1 : va_S (fun q => s.heap.size ≤ q) s.heap H1 locs := ⟨Nat.le_trans hS.1 (by omega), fun x h1 h2 => (n3 x (Nat.lt_of_lt_of_le h1 hS.1)).trans (hS.2.1 x h1 h2), hS.2.2⟩
  have E : l_E D cy cJ H.size (fun _ => 0) (adS h) LS0 (g_row σ9 9 0 (σ9 109 0)) s H1 locs := by
    refine ⟨⟨hP.kept hkp, ⟨hD.1, fun k q hq => ⟨hD.2 k q hq, ?_⟩⟩, hCl⟩, ⟨n1, fun hh => hh.2 rfl⟩, hS1, hS.1⟩
    have := (hP k q hq).lt
    omega
  have CL : l_C D cy cJ p m c s #[Value.ref b] := ⟨C.1, C.2.1, n4, n5⟩
  refine lv_astore_n (lv' := [(3, .ref H.size), (2, .ref (adS h 9 0)), (1, .ref (adS h 8 0)), (0, .ref b)]) C.x C.b dL_law_19 rfl hl (by decide) rfl (fun ls hl => ?_)
  refine lv_iconst (v := (0 : Int32)) C.x C.b dL_law_20 (by decide) ?_
  refine lv_istore (lv' := [(4, .int 0), (3, .ref H.size), (2, .ref (adS h 9 0)), (1, .ref (adS h 8 0)), (0, .ref b)]) C.x C.b dL_law_21 hl (by decide) rfl (fun ls hl => ?_)
  refine W.widen (k := 100 + 2 * 0) (n := 30000 + 700 * 0) (by omega) (by omega) ?_
  exact law_loop CL hr hlocks ⟨hX, hbl⟩ hL hst (l_gX hts hgv) gI gI_89 gI_ty sims_ok (L + 1) 0 (by omega) (by omega) LS0 (adS h) _ _ H1 locs ls hI E (lv_sub hl [4, 3, 2, 1, 0] rfl)
