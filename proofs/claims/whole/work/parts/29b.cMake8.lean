def f_X8_init (ad : gA) (σ : gS) : Option gS := (g_let (g_row σ 106 0 (g_z 6)) fun σ1 => ((f_X6_init ad σ1).bind fun σ2 => (if g_allset 6 (σ2 106 0) = true then (g_let (g_row σ2 6 0 (σ2 106 0)) fun σ4 => (g_let (g_up σ4 108 0 0 (0 : Int32)) fun σ5 => (g_let (g_row σ5 101 0 (g_z 1)) fun σ6 => ((f_X1_init ad σ6).bind fun σ7 => (if g_allset 1 (σ7 101 0) = true then (g_let (g_row σ7 1 0 (σ7 101 0)) fun σ9 => (g_let (g_up σ9 108 0 1 (0 : Int32)) fun σ10 => (g_let (g_row σ10 100 0 (g_z 0)) fun σ11 => ((f_X0_init ad σ11).bind fun σ12 => (if g_allset 0 (σ12 100 0) = true then (g_let (g_row σ12 0 0 (σ12 100 0)) fun σ14 => (g_let (g_up σ14 108 0 2 (0 : Int32)) fun σ15 => (g_let (g_row σ15 30 0 (fun _ => -1)) fun σ16 => (g_let (g_up σ16 108 0 3 (0 : Int32)) fun σ17 => (g_let (g_row σ17 31 0 (fun _ => 0)) fun σ18 => (g_let (g_up σ18 108 0 4 (0 : Int32)) fun σ19 => (if σ19 108 0 3 < 0 then none else (g_let (g_row σ19 107 0 (g_z 7)) fun σ21 => ((f_X7_init ad σ21 0).bind fun σ22 => (if g_allset 7 (σ22 107 0) = true ∧ σ22 107 0 1 < 0 then (g_let (g_row σ22 7 0 (σ22 107 0)) fun σ24 => (if (0 : Int32).toNatClampNeg = 0 then (g_let (g_up σ24 30 0 0 0) fun σ25 => (if σ25 108 0 3 < 0 then none else (g_let (g_row σ25 107 1 (g_z 7)) fun σ28 => ((f_X7_init ad σ28 1).bind fun σ29 => (if g_allset 7 (σ29 107 1) = true ∧ σ29 107 1 1 < 0 then (g_let (g_row σ29 7 1 (σ29 107 1)) fun σ31 => (if (1 : Int32).toNatClampNeg = 1 then (g_let (g_up σ31 30 0 1 0) fun σ32 => (if σ32 108 0 3 < 0 then none else (g_let (g_row σ32 107 2 (g_z 7)) fun σ35 => ((f_X7_init ad σ35 2).bind fun σ36 => (if g_allset 7 (σ36 107 2) = true ∧ σ36 107 2 1 < 0 then (g_let (g_row σ36 7 2 (σ36 107 2)) fun σ38 => (if (2 : Int32).toNatClampNeg = 2 then (g_let (g_up σ38 30 0 2 0) fun σ39 => (if σ39 108 0 3 < 0 then none else (g_let (g_row σ39 107 3 (g_z 7)) fun σ42 => ((f_X7_init ad σ42 3).bind fun σ43 => (if g_allset 7 (σ43 107 3) = true ∧ σ43 107 3 1 < 0 then (g_let (g_row σ43 7 3 (σ43 107 3)) fun σ45 => (if (3 : Int32).toNatClampNeg = 3 then (g_let (g_up σ45 30 0 3 0) fun σ46 => (if σ46 108 0 3 < 0 then none else (g_let (g_row σ46 107 4 (g_z 7)) fun σ49 => ((f_X7_init ad σ49 4).bind fun σ50 => (if g_allset 7 (σ50 107 4) = true ∧ σ50 107 4 1 < 0 then (g_let (g_row σ50 7 4 (σ50 107 4)) fun σ52 => (if (4 : Int32).toNatClampNeg = 4 then (g_let (g_up σ52 30 0 4 0) fun σ53 => (if σ53 108 0 3 < 0 then none else (g_let (g_row σ53 107 5 (g_z 7)) fun σ56 => ((f_X7_init ad σ56 5).bind fun σ57 => (if g_allset 7 (σ57 107 5) = true ∧ σ57 107 5 1 < 0 then (g_let (g_row σ57 7 5 (σ57 107 5)) fun σ59 => (if (5 : Int32).toNatClampNeg = 5 then (g_let (g_up σ59 30 0 5 0) fun σ60 => (if σ60 108 0 3 < 0 then none else (g_let (g_row σ60 107 6 (g_z 7)) fun σ63 => ((f_X7_init ad σ63 6).bind fun σ64 => (if g_allset 7 (σ64 107 6) = true ∧ σ64 107 6 1 < 0 then (g_let (g_row σ64 7 6 (σ64 107 6)) fun σ66 => (if (6 : Int32).toNatClampNeg = 6 then (g_let (g_up σ66 30 0 6 0) fun σ67 => (if σ67 108 0 3 < 0 then none else (g_let (g_row σ67 107 7 (g_z 7)) fun σ70 => ((f_X7_init ad σ70 7).bind fun σ71 => (if g_allset 7 (σ71 107 7) = true ∧ σ71 107 7 1 < 0 then (g_let (g_row σ71 7 7 (σ71 107 7)) fun σ73 => (if (7 : Int32).toNatClampNeg = 7 then (g_let (g_up σ73 30 0 7 0) fun σ74 => (some σ74)) else none)) else none))))) else none)) else none))))) else none)) else none))))) else none)) else none))))) else none)) else none))))) else none)) else none))))) else none)) else none))))) else none)) else none)))))))))) else none))))) else none))))) else none)))
theorem hd_X8_init : yX8_init.cls ≠ "java/lang/invoke/MethodHandle" ∧ yX8_init.cls ≠ "java/lang/invoke/VarHandle" ∧ (parseMethodDescriptor yX8_init.desc).map (fun d => d.parameters.length) = some 0 := by decide +kernel
set_option maxHeartbeats 40000000 in
set_option maxRecDepth 100000 in
theorem c_X8_init (l : Launch) (D : va_G) (cy : Nat → ClassId) (A : Nat → Prop) (ad : gA) (σ : gS) (h : Nat)   (hd0 : ad 106 0 = h + 0) (hd1 : ad 25 0 = h + 1) (hd2 : ad 26 0 = h + 2) (hd3 : ad 27 0 = h + 3) (hd4 : ad 104 0 = h + 4) (hd5 : ad 101 0 = h + 5) (hd6 : ad 17 0 = h + 6) (hd7 : ad 18 0 = h + 7) (hd8 : ad 19 0 = h + 8) (hd9 : ad 20 0 = h + 9) (hd10 : ad 21 0 = h + 10) (hd11 : ad 22 0 = h + 11) (hd12 : ad 100 0 = h + 12) (hd13 : ad 10 0 = h + 13) (hd14 : ad 11 0 = h + 14) (hd15 : ad 12 0 = h + 15) (hd16 : ad 13 0 = h + 16) (hd17 : ad 14 0 = h + 17) (hd18 : ad 15 0 = h + 18) (hd19 : ad 16 0 = h + 19) (hd20 : ad 30 0 = h + 20) (hd21 : ad 31 0 = h + 21) (hd22 : ad 107 0 = h + 22) (hd23 : ad 28 0 = h + 23) (hd24 : ad 29 0 = h + 24) (hd25 : ad 107 1 = h + 25) (hd26 : ad 28 1 = h + 26) (hd27 : ad 29 1 = h + 27) (hd28 : ad 107 2 = h + 28) (hd29 : ad 28 2 = h + 29) (hd30 : ad 29 2 = h + 30) (hd31 : ad 107 3 = h + 31) (hd32 : ad 28 3 = h + 32) (hd33 : ad 29 3 = h + 33) (hd34 : ad 107 4 = h + 34) (hd35 : ad 28 4 = h + 35) (hd36 : ad 29 4 = h + 36) (hd37 : ad 107 5 = h + 37) (hd38 : ad 28 5 = h + 38) (hd39 : ad 29 5 = h + 39) (hd40 : ad 107 6 = h + 40) (hd41 : ad 28 6 = h + 41) (hd42 : ad 29 6 = h + 42) (hd43 : ad 107 7 = h + 43) (hd44 : ad 28 7 = h + 44) (hd45 : ad 29 7 = h + 45) (hc0 : ad 6 0 = ad 106 0) (hc1 : ad 4 0 = ad 104 0) (hc2 : ad 1 0 = ad 101 0) (hc3 : ad 0 0 = ad 100 0) (hc4 : ad 7 0 = ad 107 0) (hc5 : ad 7 1 = ad 107 1) (hc6 : ad 7 2 = ad 107 2) (hc7 : ad 7 3 = ad 107 3) (hc8 : ad 7 4 = ad 107 4) (hc9 : ad 7 5 = ad 107 5) (hc10 : ad 7 6 = ad 107 6) (hc11 : ad 7 7 = ad 107 7) (σ0 : gS) (hf : f_X8_init ad σ = some σ0) : g_MA l yX8_init cX8_init 2 ({ frames := 3, cells := 46, slots := 2436, locals := 52 } : Room) D cy A ad [(108, 0)] σ h [.ref (ad 108 0)] [(108, 0), (6, 0), (25, 0), (26, 0), (27, 0), (4, 0), (1, 0), (17, 0), (18, 0), (19, 0), (20, 0), (21, 0), (22, 0), (0, 0), (10, 0), (11, 0), (12, 0), (13, 0), (14, 0), (15, 0), (16, 0), (30, 0), (31, 0), (7, 0), (28, 0), (29, 0), (7, 1), (28, 1), (29, 1), (7, 2), (28, 2), (29, 2), (7, 3), (28, 3), (29, 3), (7, 4), (28, 4), (29, 4), (7, 5), (28, 5), (29, 5), (7, 6), (28, 6), (29, 6), (7, 7), (28, 7), (29, 7)] σ0 46 2436 := by
  refine g_metH (by decide) (Nat.le_of_ble_eq_true rfl) (fun p e s m below meth c C hr hlocks hnm hs G ls hl => ?_)
  have hl : lv_has ls 2 [(0, .ref (ad 108 0))] := hl
  unfold f_X8_init at hf
  refine lv_aload_n C.x C.b dX8_init_0 rfl (lv_at hl 0 rfl) ?_
  refine g_objI C tw77 tw78 tw79 hl.1 dX8_init_1 (by decide) (by decide) ?_
  refine lv_aload_n C.x C.b dX8_init_4 rfl (lv_at hl 0 rfl) ?_
  refine g_size (fun hle => ?_)
  have hsz := g_sz0 G hs hle
  refine g_new C G 6 0 rfl ginX6 tyX6_ok (by decide) (gz_X6 ad 0) tw80 tw81 tw55 (by decide) (hd0.trans hsz.symm) (Nat.le_of_ble_eq_true rfl) (Nat.le_of_ble_eq_true rfl) dX8_init_5 (fun H G => ?_)
  have G : g_H D cy A ad [(108, 0), (106, 0)] _ s.heap _ _ := G
  obtain ⟨σ1, eσ1, hf⟩ := g_lt hf
  rw [← eσ1] at G
  refine lv_dup C.x C.b dX8_init_8 rfl ?_
  refine g_size (fun hle => ?_)
  have hsz := g_szk (k := 0) (K := 106) (i := 0) G (by decide) hs hd0 hle
  obtain ⟨σ2, eσ2, hf⟩ := g_b hf
  refine g_callA G (g_runJ (As := []) (rest := [.ref (ad 106 0), .ref (ad 108 0)]) C G (ad 106 0) (c_X6_init l D cy A ad [(108, 0), (106, 0)] σ1 (h + 1) (by decide) hd1 hd2 hd3 hd4 (by decide) (by decide) (by decide) (by decide) (by decide) hc1 σ2 eσ2) ⟨tw84, tw55, List.mem_of_getElem? (i := 0) rfl, ⟨rfl, tw83⟩, hd_X6_init⟩ (by decide) hsz hl.1 rfl (Nat.le_of_ble_eq_true rfl) dX8_init_9 ⟨Nat.le_of_ble_eq_true rfl, Nat.le_of_ble_eq_true rfl⟩) (fun H locs G => ?_)
  have G : g_H D cy A ad [(108, 0), (106, 0), (25, 0), (26, 0), (27, 0), (4, 0)] _ s.heap _ _ := G
  obtain ⟨hcv, hf⟩ := g_ok hf
  refine g_convW (k := 6) (i := 0) (L1 := [(108, 0)]) (L2 := [(25, 0), (26, 0), (27, 0), (4, 0)]) G (by decide) hc0 (by decide) (g_allset_ok hcv) (fun h => absurd h (by decide)) ?_ (fun G => ?_)
  · decide
  have G : g_H D cy A ad [(108, 0), (6, 0), (25, 0), (26, 0), (27, 0), (4, 0)] _ s.heap _ _ := G
  obtain ⟨σ4, eσ4, hf⟩ := g_lt hf
  rw [← eσ4] at G
  refine W.eq (g2 := F0 m 12 ls [.ref (ad 6 0), .ref (ad 108 0)]) (by rw [hc0]) ?_
  refine g_mput C G 8 0 0 (0 : Int32) (by decide) rfl ginX8 tyX8_ok nmX8 (by decide) (g_vcr (K' := 6) (by decide)) ⟨rfl, rfl⟩ hnm rfl tw284 dX8_init_12 (fun H locs G => ?_)
  obtain ⟨σ5, eσ5, hf⟩ := g_lt hf
  rw [← eσ5] at G
  refine lv_aload_n C.x C.b dX8_init_15 rfl (lv_at hl 0 rfl) ?_
  refine g_size (fun hle => ?_)
  have hsz := g_szk (k := 4) (K := 4) (i := 0) G (by decide) hs (hc1.trans hd4) hle
  refine g_new C G 1 0 rfl ginX1 tyX1_ok (by decide) (gz_X1 ad 0) tw155 tw156 tw57 (by decide) (hd5.trans hsz.symm) (Nat.le_of_ble_eq_true rfl) (Nat.le_of_ble_eq_true rfl) dX8_init_16 (fun H G => ?_)
  have G : g_H D cy A ad [(108, 0), (6, 0), (25, 0), (26, 0), (27, 0), (4, 0), (101, 0)] _ s.heap _ _ := G
  obtain ⟨σ6, eσ6, hf⟩ := g_lt hf
  rw [← eσ6] at G
  refine lv_dup C.x C.b dX8_init_19 rfl ?_
  refine g_size (fun hle => ?_)
  have hsz := g_szk (k := 5) (K := 101) (i := 0) G (by decide) hs hd5 hle
  obtain ⟨σ7, eσ7, hf⟩ := g_b hf
  refine g_callA G (g_runJ (As := []) (rest := [.ref (ad 101 0), .ref (ad 108 0)]) C G (ad 101 0) (c_X1_init l D cy A ad [(108, 0), (6, 0), (25, 0), (26, 0), (27, 0), (4, 0), (101, 0)] σ6 (h + 6) (by decide) hd6 hd7 hd8 hd9 hd10 hd11 (by decide) (by decide) (by decide) (by decide) (by decide) (by decide) σ7 eσ7) ⟨tw159, tw57, List.mem_of_getElem? (i := 2) rfl, ⟨rfl, tw158⟩, hd_X1_init⟩ (by decide) hsz hl.1 rfl (Nat.le_of_ble_eq_true rfl) dX8_init_20 ⟨Nat.le_of_ble_eq_true rfl, Nat.le_of_ble_eq_true rfl⟩) (fun H locs G => ?_)
  have G : g_H D cy A ad [(108, 0), (6, 0), (25, 0), (26, 0), (27, 0), (4, 0), (101, 0), (17, 0), (18, 0), (19, 0), (20, 0), (21, 0), (22, 0)] _ s.heap _ _ := G
  obtain ⟨hcv, hf⟩ := g_ok hf
  refine g_convW (k := 1) (i := 0) (L1 := [(108, 0), (6, 0), (25, 0), (26, 0), (27, 0), (4, 0)]) (L2 := [(17, 0), (18, 0), (19, 0), (20, 0), (21, 0), (22, 0)]) G (by decide) hc2 (by decide) (g_allset_ok hcv) (fun h => absurd h (by decide)) ?_ (fun G => ?_)
  · decide
  have G : g_H D cy A ad [(108, 0), (6, 0), (25, 0), (26, 0), (27, 0), (4, 0), (1, 0), (17, 0), (18, 0), (19, 0), (20, 0), (21, 0), (22, 0)] _ s.heap _ _ := G
  obtain ⟨σ9, eσ9, hf⟩ := g_lt hf
  rw [← eσ9] at G
  refine W.eq (g2 := F0 m 23 ls [.ref (ad 1 0), .ref (ad 108 0)]) (by rw [hc2]) ?_
  refine g_mput C G 8 0 1 (0 : Int32) (by decide) rfl ginX8 tyX8_ok nmX8 (by decide) (g_vcr (K' := 1) (by decide)) ⟨rfl, rfl⟩ hnm rfl tw285 dX8_init_23 (fun H locs G => ?_)
  obtain ⟨σ10, eσ10, hf⟩ := g_lt hf
  rw [← eσ10] at G
  refine lv_aload_n C.x C.b dX8_init_26 rfl (lv_at hl 0 rfl) ?_
  refine g_size (fun hle => ?_)
  have hsz := g_szk (k := 11) (K := 22) (i := 0) G (by decide) hs hd11 hle
  refine g_new C G 0 0 rfl ginX0 tyX0_ok (by decide) (gz_X0 ad 0) tw213 tw214 tw58 (by decide) (hd12.trans hsz.symm) (Nat.le_of_ble_eq_true rfl) (Nat.le_of_ble_eq_true rfl) dX8_init_27 (fun H G => ?_)
  have G : g_H D cy A ad [(108, 0), (6, 0), (25, 0), (26, 0), (27, 0), (4, 0), (1, 0), (17, 0), (18, 0), (19, 0), (20, 0), (21, 0), (22, 0), (100, 0)] _ s.heap _ _ := G
  obtain ⟨σ11, eσ11, hf⟩ := g_lt hf
  rw [← eσ11] at G
  refine lv_dup C.x C.b dX8_init_30 rfl ?_
  refine g_size (fun hle => ?_)
  have hsz := g_szk (k := 12) (K := 100) (i := 0) G (by decide) hs hd12 hle
  obtain ⟨σ12, eσ12, hf⟩ := g_b hf
  refine g_callA G (g_runJ (As := []) (rest := [.ref (ad 100 0), .ref (ad 108 0)]) C G (ad 100 0) (c_X0_init l D cy A ad [(108, 0), (6, 0), (25, 0), (26, 0), (27, 0), (4, 0), (1, 0), (17, 0), (18, 0), (19, 0), (20, 0), (21, 0), (22, 0), (100, 0)] σ11 (h + 13) (by decide) hd13 hd14 hd15 hd16 hd17 hd18 hd19 (by decide) (by decide) (by decide) (by decide) (by decide) (by decide) (by decide) σ12 eσ12) ⟨tw217, tw58, List.mem_of_getElem? (i := 3) rfl, ⟨rfl, tw216⟩, hd_X0_init⟩ (by decide) hsz hl.1 rfl (Nat.le_of_ble_eq_true rfl) dX8_init_31 ⟨Nat.le_of_ble_eq_true rfl, Nat.le_of_ble_eq_true rfl⟩) (fun H locs G => ?_)
  have G : g_H D cy A ad [(108, 0), (6, 0), (25, 0), (26, 0), (27, 0), (4, 0), (1, 0), (17, 0), (18, 0), (19, 0), (20, 0), (21, 0), (22, 0), (100, 0), (10, 0), (11, 0), (12, 0), (13, 0), (14, 0), (15, 0), (16, 0)] _ s.heap _ _ := G
  obtain ⟨hcv, hf⟩ := g_ok hf
  refine g_convW (k := 0) (i := 0) (L1 := [(108, 0), (6, 0), (25, 0), (26, 0), (27, 0), (4, 0), (1, 0), (17, 0), (18, 0), (19, 0), (20, 0), (21, 0), (22, 0)]) (L2 := [(10, 0), (11, 0), (12, 0), (13, 0), (14, 0), (15, 0), (16, 0)]) G (by decide) hc3 (by decide) (g_allset_ok hcv) (fun h => absurd h (by decide)) ?_ (fun G => ?_)
  · decide
  have G : g_H D cy A ad [(108, 0), (6, 0), (25, 0), (26, 0), (27, 0), (4, 0), (1, 0), (17, 0), (18, 0), (19, 0), (20, 0), (21, 0), (22, 0), (0, 0), (10, 0), (11, 0), (12, 0), (13, 0), (14, 0), (15, 0), (16, 0)] _ s.heap _ _ := G
  obtain ⟨σ14, eσ14, hf⟩ := g_lt hf
  rw [← eσ14] at G
  refine W.eq (g2 := F0 m 34 ls [.ref (ad 0 0), .ref (ad 108 0)]) (by rw [hc3]) ?_
  refine g_mput C G 8 0 2 (0 : Int32) (by decide) rfl ginX8 tyX8_ok nmX8 (by decide) (g_vcr (K' := 0) (by decide)) ⟨rfl, rfl⟩ hnm rfl tw286 dX8_init_34 (fun H locs G => ?_)
  obtain ⟨σ15, eσ15, hf⟩ := g_lt hf
  rw [← eσ15] at G
  refine lv_aload_n C.x C.b dX8_init_37 rfl (lv_at hl 0 rfl) ?_
  refine lv_bipush (v := (8 : Int32)) C.x C.b dX8_init_38 (by decide) ?_
  refine g_size (fun hle => ?_)
  have hsz := g_szk (k := 19) (K := 16) (i := 0) G (by decide) hs hd19 hle
  refine g_newq (N := 8) C G 30 0 (t := 6) ⟨by decide, rfl, by decide, by decide⟩ rfl tw257 C.2.1.2.2.2.2.2 (by decide) (by decide) rfl (by decide) (by decide) (hd20.trans hsz.symm) (Nat.le_of_ble_eq_true rfl) (Nat.le_of_ble_eq_true rfl) dX8_init_40 (fun H G => ?_)
  have G : g_H D cy A ad [(108, 0), (6, 0), (25, 0), (26, 0), (27, 0), (4, 0), (1, 0), (17, 0), (18, 0), (19, 0), (20, 0), (21, 0), (22, 0), (0, 0), (10, 0), (11, 0), (12, 0), (13, 0), (14, 0), (15, 0), (16, 0), (30, 0)] _ s.heap _ _ := G
  obtain ⟨σ16, eσ16, hf⟩ := g_lt hf
  rw [← eσ16] at G
  refine g_mput C G 8 0 3 (0 : Int32) (by decide) rfl ginX8 tyX8_ok nmX8 (by decide) (g_vcr (K' := 30) (by decide)) ⟨rfl, rfl⟩ hnm rfl tw287 dX8_init_43 (fun H locs G => ?_)
  obtain ⟨σ17, eσ17, hf⟩ := g_lt hf
  rw [← eσ17] at G
  refine lv_aload_n C.x C.b dX8_init_46 rfl (lv_at hl 0 rfl) ?_
  refine lv_bipush (v := (35 : Int32)) C.x C.b dX8_init_47 (by decide) ?_
  refine g_size (fun hle => ?_)
  have hsz := g_szk (k := 20) (K := 30) (i := 0) G (by decide) hs hd20 hle
  refine g_newa (atype := .int) (ty := .int) (N := 35) C G 31 0 (t := 1) ⟨by decide, rfl, by decide⟩ ⟨rfl, rfl⟩ rfl (fun _ => rfl) tw211 (by decide) (by decide) rfl (by decide) (by decide) (hd21.trans hsz.symm) (Nat.le_of_ble_eq_true rfl) (Nat.le_of_ble_eq_true rfl) dX8_init_49 (fun H G => ?_)
  have G : g_H D cy A ad [(108, 0), (6, 0), (25, 0), (26, 0), (27, 0), (4, 0), (1, 0), (17, 0), (18, 0), (19, 0), (20, 0), (21, 0), (22, 0), (0, 0), (10, 0), (11, 0), (12, 0), (13, 0), (14, 0), (15, 0), (16, 0), (30, 0), (31, 0)] _ s.heap _ _ := G
  obtain ⟨σ18, eσ18, hf⟩ := g_lt hf
  rw [← eσ18] at G
  refine g_mput C G 8 0 4 (0 : Int32) (by decide) rfl ginX8 tyX8_ok nmX8 (by decide) (g_vcr (K' := 31) (by decide)) ⟨rfl, rfl⟩ hnm rfl tw288 dX8_init_51 (fun H locs G => ?_)
  obtain ⟨σ19, eσ19, hf⟩ := g_lt hf
  rw [← eσ19] at G
  refine lv_iconst (v := (0 : Int32)) C.x C.b dX8_init_54 (by decide) ?_
  refine lv_istore_n (lv' := [(1, .int (0 : Int32)), (0, .ref (ad 108 0))]) C.x C.b dX8_init_55 rfl hl (by decide) rfl (fun ls hl => ?_)
  refine lv_iload_n C.x C.b dX8_init_56 rfl (lv_at hl 0 rfl) ?_
  refine lv_bipush (v := (8 : Int32)) C.x C.b dX8_init_57 (by decide) ?_
  refine lv_icmp_ge (tgt := 81) C.x C.b dX8_init_59 (by decide) (fun cb => absurd cb (by decide)) (fun _ => ?_)
  refine lv_aload_n C.x C.b dX8_init_62 rfl (lv_at hl 1 rfl) ?_
  obtain ⟨hq20, hf⟩ := g_okn hf
  refine g_mget C G 8 0 3 (by decide) rfl ginX8 (by decide) (g_vcgr (K' := 30) (by decide) hq20) tw287 dX8_init_63 ?_
  refine lv_iload_n C.x C.b dX8_init_66 rfl (lv_at hl 0 rfl) ?_
  refine g_size (fun hle => ?_)
  have hsz := g_szk (k := 21) (K := 31) (i := 0) G (by decide) hs hd21 hle
  refine g_new C G 7 0 rfl ginX7 tyX7_ok (by decide) (gz_X7 ad 0) tw257 tw259 tw59 (by decide) (hd22.trans hsz.symm) (Nat.le_of_ble_eq_true rfl) (Nat.le_of_ble_eq_true rfl) dX8_init_67 (fun H G => ?_)
  have G : g_H D cy A ad [(108, 0), (6, 0), (25, 0), (26, 0), (27, 0), (4, 0), (1, 0), (17, 0), (18, 0), (19, 0), (20, 0), (21, 0), (22, 0), (0, 0), (10, 0), (11, 0), (12, 0), (13, 0), (14, 0), (15, 0), (16, 0), (30, 0), (31, 0), (107, 0)] _ s.heap _ _ := G
  obtain ⟨σ21, eσ21, hf⟩ := g_lt hf
  rw [← eσ21] at G
  refine lv_dup C.x C.b dX8_init_70 rfl ?_
  refine g_size (fun hle => ?_)
  have hsz := g_szk (k := 22) (K := 107) (i := 0) G (by decide) hs hd22 hle
  obtain ⟨σ22, eσ22, hf⟩ := g_b hf
  refine g_callA G (g_runJ (As := []) (rest := [.ref (ad 107 0), .int (0 : Int32), .ref (ad 30 0)]) C G (ad 107 0) (c_X7_init l D cy A ad [(108, 0), (6, 0), (25, 0), (26, 0), (27, 0), (4, 0), (1, 0), (17, 0), (18, 0), (19, 0), (20, 0), (21, 0), (22, 0), (0, 0), (10, 0), (11, 0), (12, 0), (13, 0), (14, 0), (15, 0), (16, 0), (30, 0), (31, 0), (107, 0)] σ21 (h + 23) 0 (by decide) hd23 hd24 (by decide) (by decide) σ22 eσ22) ⟨tw262, tw59, List.mem_of_getElem? (i := 4) rfl, ⟨rfl, tw261⟩, hd_X7_init⟩ (by decide) hsz hl.1 rfl (Nat.le_of_ble_eq_true rfl) dX8_init_71 ⟨Nat.le_of_ble_eq_true rfl, Nat.le_of_ble_eq_true rfl⟩) (fun H locs G => ?_)
  have G : g_H D cy A ad [(108, 0), (6, 0), (25, 0), (26, 0), (27, 0), (4, 0), (1, 0), (17, 0), (18, 0), (19, 0), (20, 0), (21, 0), (22, 0), (0, 0), (10, 0), (11, 0), (12, 0), (13, 0), (14, 0), (15, 0), (16, 0), (30, 0), (31, 0), (107, 0), (28, 0), (29, 0)] _ s.heap _ _ := G
  obtain ⟨hcv, hf⟩ := g_ok hf
  refine g_convW (k := 7) (i := 0) (L1 := [(108, 0), (6, 0), (25, 0), (26, 0), (27, 0), (4, 0), (1, 0), (17, 0), (18, 0), (19, 0), (20, 0), (21, 0), (22, 0), (0, 0), (10, 0), (11, 0), (12, 0), (13, 0), (14, 0), (15, 0), (16, 0), (30, 0), (31, 0)]) (L2 := [(28, 0), (29, 0)]) G (by decide) hc4 (by decide) (g_allset_ok hcv.1) (fun _ => hcv.2) ?_ (fun G => ?_)
  · decide
  have G : g_H D cy A ad [(108, 0), (6, 0), (25, 0), (26, 0), (27, 0), (4, 0), (1, 0), (17, 0), (18, 0), (19, 0), (20, 0), (21, 0), (22, 0), (0, 0), (10, 0), (11, 0), (12, 0), (13, 0), (14, 0), (15, 0), (16, 0), (30, 0), (31, 0), (7, 0), (28, 0), (29, 0)] _ s.heap _ _ := G
  obtain ⟨σ24, eσ24, hf⟩ := g_lt hf
  rw [← eσ24] at G
  refine W.eq (g2 := F0 m 74 ls [.ref (ad 7 0), .int (0 : Int32), .ref (ad 30 0)]) (by rw [hc4]) ?_
  obtain ⟨hq26, hf⟩ := g_ok hf
  refine g_astq (n := 8) C G 30 0 7 0 (by decide) (by decide) rfl hq26 (by decide) rfl (by decide) dX8_init_74 (fun H locs G => ?_)
  obtain ⟨σ25, eσ25, hf⟩ := g_lt hf
  rw [← eσ25] at G
  refine lv_iinc (v := (1 : Int32)) (lv' := [(1, .int (1 : Int32)), (0, .ref (ad 108 0))]) C.x C.b dX8_init_75 hl (k := 0) rfl (by decide) (by decide) rfl (fun ls hl => ?_)
  refine lv_goto (tgt := 56) C.x C.b dX8_init_78 (by decide) ?_
  refine lv_iload_n C.x C.b dX8_init_56 rfl (lv_at hl 0 rfl) ?_
  refine lv_bipush (v := (8 : Int32)) C.x C.b dX8_init_57 (by decide) ?_
  refine lv_icmp_ge (tgt := 81) C.x C.b dX8_init_59 (by decide) (fun cb => absurd cb (by decide)) (fun _ => ?_)
  refine lv_aload_n C.x C.b dX8_init_62 rfl (lv_at hl 1 rfl) ?_
  obtain ⟨hq27, hf⟩ := g_okn hf
  refine g_mget C G 8 0 3 (by decide) rfl ginX8 (by decide) (g_vcgr (K' := 30) (by decide) hq27) tw287 dX8_init_63 ?_
  refine lv_iload_n C.x C.b dX8_init_66 rfl (lv_at hl 0 rfl) ?_
  refine g_size (fun hle => ?_)
  have hsz := g_szk (k := 24) (K := 29) (i := 0) G (by decide) hs hd24 hle
  refine g_new C G 7 1 rfl ginX7 tyX7_ok (by decide) (gz_X7 ad 1) tw257 tw259 tw59 (by decide) (hd25.trans hsz.symm) (Nat.le_of_ble_eq_true rfl) (Nat.le_of_ble_eq_true rfl) dX8_init_67 (fun H G => ?_)
  have G : g_H D cy A ad [(108, 0), (6, 0), (25, 0), (26, 0), (27, 0), (4, 0), (1, 0), (17, 0), (18, 0), (19, 0), (20, 0), (21, 0), (22, 0), (0, 0), (10, 0), (11, 0), (12, 0), (13, 0), (14, 0), (15, 0), (16, 0), (30, 0), (31, 0), (7, 0), (28, 0), (29, 0), (107, 1)] _ s.heap _ _ := G
  obtain ⟨σ28, eσ28, hf⟩ := g_lt hf
  rw [← eσ28] at G
  refine lv_dup C.x C.b dX8_init_70 rfl ?_
  refine g_size (fun hle => ?_)
  have hsz := g_szk (k := 25) (K := 107) (i := 1) G (by decide) hs hd25 hle
  obtain ⟨σ29, eσ29, hf⟩ := g_b hf
  refine g_callA G (g_runJ (As := []) (rest := [.ref (ad 107 1), .int (1 : Int32), .ref (ad 30 0)]) C G (ad 107 1) (c_X7_init l D cy A ad [(108, 0), (6, 0), (25, 0), (26, 0), (27, 0), (4, 0), (1, 0), (17, 0), (18, 0), (19, 0), (20, 0), (21, 0), (22, 0), (0, 0), (10, 0), (11, 0), (12, 0), (13, 0), (14, 0), (15, 0), (16, 0), (30, 0), (31, 0), (7, 0), (28, 0), (29, 0), (107, 1)] σ28 (h + 26) 1 (by decide) hd26 hd27 (by decide) (by decide) σ29 eσ29) ⟨tw262, tw59, List.mem_of_getElem? (i := 4) rfl, ⟨rfl, tw261⟩, hd_X7_init⟩ (by decide) hsz hl.1 rfl (Nat.le_of_ble_eq_true rfl) dX8_init_71 ⟨Nat.le_of_ble_eq_true rfl, Nat.le_of_ble_eq_true rfl⟩) (fun H locs G => ?_)
  have G : g_H D cy A ad [(108, 0), (6, 0), (25, 0), (26, 0), (27, 0), (4, 0), (1, 0), (17, 0), (18, 0), (19, 0), (20, 0), (21, 0), (22, 0), (0, 0), (10, 0), (11, 0), (12, 0), (13, 0), (14, 0), (15, 0), (16, 0), (30, 0), (31, 0), (7, 0), (28, 0), (29, 0), (107, 1), (28, 1), (29, 1)] _ s.heap _ _ := G
  obtain ⟨hcv, hf⟩ := g_ok hf
  refine g_convW (k := 7) (i := 1) (L1 := [(108, 0), (6, 0), (25, 0), (26, 0), (27, 0), (4, 0), (1, 0), (17, 0), (18, 0), (19, 0), (20, 0), (21, 0), (22, 0), (0, 0), (10, 0), (11, 0), (12, 0), (13, 0), (14, 0), (15, 0), (16, 0), (30, 0), (31, 0), (7, 0), (28, 0), (29, 0)]) (L2 := [(28, 1), (29, 1)]) G (by decide) hc5 (by decide) (g_allset_ok hcv.1) (fun _ => hcv.2) ?_ (fun G => ?_)
  · decide
  have G : g_H D cy A ad [(108, 0), (6, 0), (25, 0), (26, 0), (27, 0), (4, 0), (1, 0), (17, 0), (18, 0), (19, 0), (20, 0), (21, 0), (22, 0), (0, 0), (10, 0), (11, 0), (12, 0), (13, 0), (14, 0), (15, 0), (16, 0), (30, 0), (31, 0), (7, 0), (28, 0), (29, 0), (7, 1), (28, 1), (29, 1)] _ s.heap _ _ := G
  obtain ⟨σ31, eσ31, hf⟩ := g_lt hf
  rw [← eσ31] at G
  refine W.eq (g2 := F0 m 74 ls [.ref (ad 7 1), .int (1 : Int32), .ref (ad 30 0)]) (by rw [hc5]) ?_
  obtain ⟨hq33, hf⟩ := g_ok hf
  refine g_astq (n := 8) C G 30 0 7 1 (by decide) (by decide) rfl hq33 (by decide) rfl (by decide) dX8_init_74 (fun H locs G => ?_)
  obtain ⟨σ32, eσ32, hf⟩ := g_lt hf
  rw [← eσ32] at G
  refine lv_iinc (v := (2 : Int32)) (lv' := [(1, .int (2 : Int32)), (0, .ref (ad 108 0))]) C.x C.b dX8_init_75 hl (k := 0) rfl (by decide) (by decide) rfl (fun ls hl => ?_)
  refine lv_goto (tgt := 56) C.x C.b dX8_init_78 (by decide) ?_
  refine lv_iload_n C.x C.b dX8_init_56 rfl (lv_at hl 0 rfl) ?_
  refine lv_bipush (v := (8 : Int32)) C.x C.b dX8_init_57 (by decide) ?_
  refine lv_icmp_ge (tgt := 81) C.x C.b dX8_init_59 (by decide) (fun cb => absurd cb (by decide)) (fun _ => ?_)
  refine lv_aload_n C.x C.b dX8_init_62 rfl (lv_at hl 1 rfl) ?_
  obtain ⟨hq34, hf⟩ := g_okn hf
  refine g_mget C G 8 0 3 (by decide) rfl ginX8 (by decide) (g_vcgr (K' := 30) (by decide) hq34) tw287 dX8_init_63 ?_
  refine lv_iload_n C.x C.b dX8_init_66 rfl (lv_at hl 0 rfl) ?_
  refine g_size (fun hle => ?_)
  have hsz := g_szk (k := 27) (K := 29) (i := 1) G (by decide) hs hd27 hle
  refine g_new C G 7 2 rfl ginX7 tyX7_ok (by decide) (gz_X7 ad 2) tw257 tw259 tw59 (by decide) (hd28.trans hsz.symm) (Nat.le_of_ble_eq_true rfl) (Nat.le_of_ble_eq_true rfl) dX8_init_67 (fun H G => ?_)
  have G : g_H D cy A ad [(108, 0), (6, 0), (25, 0), (26, 0), (27, 0), (4, 0), (1, 0), (17, 0), (18, 0), (19, 0), (20, 0), (21, 0), (22, 0), (0, 0), (10, 0), (11, 0), (12, 0), (13, 0), (14, 0), (15, 0), (16, 0), (30, 0), (31, 0), (7, 0), (28, 0), (29, 0), (7, 1), (28, 1), (29, 1), (107, 2)] _ s.heap _ _ := G
  obtain ⟨σ35, eσ35, hf⟩ := g_lt hf
  rw [← eσ35] at G
  refine lv_dup C.x C.b dX8_init_70 rfl ?_
  refine g_size (fun hle => ?_)
  have hsz := g_szk (k := 28) (K := 107) (i := 2) G (by decide) hs hd28 hle
  obtain ⟨σ36, eσ36, hf⟩ := g_b hf
  refine g_callA G (g_runJ (As := []) (rest := [.ref (ad 107 2), .int (2 : Int32), .ref (ad 30 0)]) C G (ad 107 2) (c_X7_init l D cy A ad [(108, 0), (6, 0), (25, 0), (26, 0), (27, 0), (4, 0), (1, 0), (17, 0), (18, 0), (19, 0), (20, 0), (21, 0), (22, 0), (0, 0), (10, 0), (11, 0), (12, 0), (13, 0), (14, 0), (15, 0), (16, 0), (30, 0), (31, 0), (7, 0), (28, 0), (29, 0), (7, 1), (28, 1), (29, 1), (107, 2)] σ35 (h + 29) 2 (by decide) hd29 hd30 (by decide) (by decide) σ36 eσ36) ⟨tw262, tw59, List.mem_of_getElem? (i := 4) rfl, ⟨rfl, tw261⟩, hd_X7_init⟩ (by decide) hsz hl.1 rfl (Nat.le_of_ble_eq_true rfl) dX8_init_71 ⟨Nat.le_of_ble_eq_true rfl, Nat.le_of_ble_eq_true rfl⟩) (fun H locs G => ?_)
  have G : g_H D cy A ad [(108, 0), (6, 0), (25, 0), (26, 0), (27, 0), (4, 0), (1, 0), (17, 0), (18, 0), (19, 0), (20, 0), (21, 0), (22, 0), (0, 0), (10, 0), (11, 0), (12, 0), (13, 0), (14, 0), (15, 0), (16, 0), (30, 0), (31, 0), (7, 0), (28, 0), (29, 0), (7, 1), (28, 1), (29, 1), (107, 2), (28, 2), (29, 2)] _ s.heap _ _ := G
  obtain ⟨hcv, hf⟩ := g_ok hf
  refine g_convW (k := 7) (i := 2) (L1 := [(108, 0), (6, 0), (25, 0), (26, 0), (27, 0), (4, 0), (1, 0), (17, 0), (18, 0), (19, 0), (20, 0), (21, 0), (22, 0), (0, 0), (10, 0), (11, 0), (12, 0), (13, 0), (14, 0), (15, 0), (16, 0), (30, 0), (31, 0), (7, 0), (28, 0), (29, 0), (7, 1), (28, 1), (29, 1)]) (L2 := [(28, 2), (29, 2)]) G (by decide) hc6 (by decide) (g_allset_ok hcv.1) (fun _ => hcv.2) ?_ (fun G => ?_)
  · decide
  have G : g_H D cy A ad [(108, 0), (6, 0), (25, 0), (26, 0), (27, 0), (4, 0), (1, 0), (17, 0), (18, 0), (19, 0), (20, 0), (21, 0), (22, 0), (0, 0), (10, 0), (11, 0), (12, 0), (13, 0), (14, 0), (15, 0), (16, 0), (30, 0), (31, 0), (7, 0), (28, 0), (29, 0), (7, 1), (28, 1), (29, 1), (7, 2), (28, 2), (29, 2)] _ s.heap _ _ := G
  obtain ⟨σ38, eσ38, hf⟩ := g_lt hf
  rw [← eσ38] at G
  refine W.eq (g2 := F0 m 74 ls [.ref (ad 7 2), .int (2 : Int32), .ref (ad 30 0)]) (by rw [hc6]) ?_
  obtain ⟨hq40, hf⟩ := g_ok hf
  refine g_astq (n := 8) C G 30 0 7 2 (by decide) (by decide) rfl hq40 (by decide) rfl (by decide) dX8_init_74 (fun H locs G => ?_)
  obtain ⟨σ39, eσ39, hf⟩ := g_lt hf
  rw [← eσ39] at G
  refine lv_iinc (v := (3 : Int32)) (lv' := [(1, .int (3 : Int32)), (0, .ref (ad 108 0))]) C.x C.b dX8_init_75 hl (k := 0) rfl (by decide) (by decide) rfl (fun ls hl => ?_)
  refine lv_goto (tgt := 56) C.x C.b dX8_init_78 (by decide) ?_
  refine lv_iload_n C.x C.b dX8_init_56 rfl (lv_at hl 0 rfl) ?_
  refine lv_bipush (v := (8 : Int32)) C.x C.b dX8_init_57 (by decide) ?_
  refine lv_icmp_ge (tgt := 81) C.x C.b dX8_init_59 (by decide) (fun cb => absurd cb (by decide)) (fun _ => ?_)
  refine lv_aload_n C.x C.b dX8_init_62 rfl (lv_at hl 1 rfl) ?_
  obtain ⟨hq41, hf⟩ := g_okn hf
  refine g_mget C G 8 0 3 (by decide) rfl ginX8 (by decide) (g_vcgr (K' := 30) (by decide) hq41) tw287 dX8_init_63 ?_
  refine lv_iload_n C.x C.b dX8_init_66 rfl (lv_at hl 0 rfl) ?_
  refine g_size (fun hle => ?_)
  have hsz := g_szk (k := 30) (K := 29) (i := 2) G (by decide) hs hd30 hle
  refine g_new C G 7 3 rfl ginX7 tyX7_ok (by decide) (gz_X7 ad 3) tw257 tw259 tw59 (by decide) (hd31.trans hsz.symm) (Nat.le_of_ble_eq_true rfl) (Nat.le_of_ble_eq_true rfl) dX8_init_67 (fun H G => ?_)
  have G : g_H D cy A ad [(108, 0), (6, 0), (25, 0), (26, 0), (27, 0), (4, 0), (1, 0), (17, 0), (18, 0), (19, 0), (20, 0), (21, 0), (22, 0), (0, 0), (10, 0), (11, 0), (12, 0), (13, 0), (14, 0), (15, 0), (16, 0), (30, 0), (31, 0), (7, 0), (28, 0), (29, 0), (7, 1), (28, 1), (29, 1), (7, 2), (28, 2), (29, 2), (107, 3)] _ s.heap _ _ := G
  obtain ⟨σ42, eσ42, hf⟩ := g_lt hf
  rw [← eσ42] at G
  refine lv_dup C.x C.b dX8_init_70 rfl ?_
  refine g_size (fun hle => ?_)
  have hsz := g_szk (k := 31) (K := 107) (i := 3) G (by decide) hs hd31 hle
  obtain ⟨σ43, eσ43, hf⟩ := g_b hf
  refine g_callA G (g_runJ (As := []) (rest := [.ref (ad 107 3), .int (3 : Int32), .ref (ad 30 0)]) C G (ad 107 3) (c_X7_init l D cy A ad [(108, 0), (6, 0), (25, 0), (26, 0), (27, 0), (4, 0), (1, 0), (17, 0), (18, 0), (19, 0), (20, 0), (21, 0), (22, 0), (0, 0), (10, 0), (11, 0), (12, 0), (13, 0), (14, 0), (15, 0), (16, 0), (30, 0), (31, 0), (7, 0), (28, 0), (29, 0), (7, 1), (28, 1), (29, 1), (7, 2), (28, 2), (29, 2), (107, 3)] σ42 (h + 32) 3 (by decide) hd32 hd33 (by decide) (by decide) σ43 eσ43) ⟨tw262, tw59, List.mem_of_getElem? (i := 4) rfl, ⟨rfl, tw261⟩, hd_X7_init⟩ (by decide) hsz hl.1 rfl (Nat.le_of_ble_eq_true rfl) dX8_init_71 ⟨Nat.le_of_ble_eq_true rfl, Nat.le_of_ble_eq_true rfl⟩) (fun H locs G => ?_)
  have G : g_H D cy A ad [(108, 0), (6, 0), (25, 0), (26, 0), (27, 0), (4, 0), (1, 0), (17, 0), (18, 0), (19, 0), (20, 0), (21, 0), (22, 0), (0, 0), (10, 0), (11, 0), (12, 0), (13, 0), (14, 0), (15, 0), (16, 0), (30, 0), (31, 0), (7, 0), (28, 0), (29, 0), (7, 1), (28, 1), (29, 1), (7, 2), (28, 2), (29, 2), (107, 3), (28, 3), (29, 3)] _ s.heap _ _ := G
  obtain ⟨hcv, hf⟩ := g_ok hf
  refine g_convW (k := 7) (i := 3) (L1 := [(108, 0), (6, 0), (25, 0), (26, 0), (27, 0), (4, 0), (1, 0), (17, 0), (18, 0), (19, 0), (20, 0), (21, 0), (22, 0), (0, 0), (10, 0), (11, 0), (12, 0), (13, 0), (14, 0), (15, 0), (16, 0), (30, 0), (31, 0), (7, 0), (28, 0), (29, 0), (7, 1), (28, 1), (29, 1), (7, 2), (28, 2), (29, 2)]) (L2 := [(28, 3), (29, 3)]) G (by decide) hc7 (by decide) (g_allset_ok hcv.1) (fun _ => hcv.2) ?_ (fun G => ?_)
  · decide
  have G : g_H D cy A ad [(108, 0), (6, 0), (25, 0), (26, 0), (27, 0), (4, 0), (1, 0), (17, 0), (18, 0), (19, 0), (20, 0), (21, 0), (22, 0), (0, 0), (10, 0), (11, 0), (12, 0), (13, 0), (14, 0), (15, 0), (16, 0), (30, 0), (31, 0), (7, 0), (28, 0), (29, 0), (7, 1), (28, 1), (29, 1), (7, 2), (28, 2), (29, 2), (7, 3), (28, 3), (29, 3)] _ s.heap _ _ := G
  obtain ⟨σ45, eσ45, hf⟩ := g_lt hf
  rw [← eσ45] at G
  refine W.eq (g2 := F0 m 74 ls [.ref (ad 7 3), .int (3 : Int32), .ref (ad 30 0)]) (by rw [hc7]) ?_
  obtain ⟨hq47, hf⟩ := g_ok hf
  refine g_astq (n := 8) C G 30 0 7 3 (by decide) (by decide) rfl hq47 (by decide) rfl (by decide) dX8_init_74 (fun H locs G => ?_)
  obtain ⟨σ46, eσ46, hf⟩ := g_lt hf
  rw [← eσ46] at G
  refine lv_iinc (v := (4 : Int32)) (lv' := [(1, .int (4 : Int32)), (0, .ref (ad 108 0))]) C.x C.b dX8_init_75 hl (k := 0) rfl (by decide) (by decide) rfl (fun ls hl => ?_)
  refine lv_goto (tgt := 56) C.x C.b dX8_init_78 (by decide) ?_
  refine lv_iload_n C.x C.b dX8_init_56 rfl (lv_at hl 0 rfl) ?_
  refine lv_bipush (v := (8 : Int32)) C.x C.b dX8_init_57 (by decide) ?_
  refine lv_icmp_ge (tgt := 81) C.x C.b dX8_init_59 (by decide) (fun cb => absurd cb (by decide)) (fun _ => ?_)
  refine lv_aload_n C.x C.b dX8_init_62 rfl (lv_at hl 1 rfl) ?_
  obtain ⟨hq48, hf⟩ := g_okn hf
  refine g_mget C G 8 0 3 (by decide) rfl ginX8 (by decide) (g_vcgr (K' := 30) (by decide) hq48) tw287 dX8_init_63 ?_
  refine lv_iload_n C.x C.b dX8_init_66 rfl (lv_at hl 0 rfl) ?_
  refine g_size (fun hle => ?_)
  have hsz := g_szk (k := 33) (K := 29) (i := 3) G (by decide) hs hd33 hle
  refine g_new C G 7 4 rfl ginX7 tyX7_ok (by decide) (gz_X7 ad 4) tw257 tw259 tw59 (by decide) (hd34.trans hsz.symm) (Nat.le_of_ble_eq_true rfl) (Nat.le_of_ble_eq_true rfl) dX8_init_67 (fun H G => ?_)
  have G : g_H D cy A ad [(108, 0), (6, 0), (25, 0), (26, 0), (27, 0), (4, 0), (1, 0), (17, 0), (18, 0), (19, 0), (20, 0), (21, 0), (22, 0), (0, 0), (10, 0), (11, 0), (12, 0), (13, 0), (14, 0), (15, 0), (16, 0), (30, 0), (31, 0), (7, 0), (28, 0), (29, 0), (7, 1), (28, 1), (29, 1), (7, 2), (28, 2), (29, 2), (7, 3), (28, 3), (29, 3), (107, 4)] _ s.heap _ _ := G
  obtain ⟨σ49, eσ49, hf⟩ := g_lt hf
  rw [← eσ49] at G
  refine lv_dup C.x C.b dX8_init_70 rfl ?_
  refine g_size (fun hle => ?_)
  have hsz := g_szk (k := 34) (K := 107) (i := 4) G (by decide) hs hd34 hle
  obtain ⟨σ50, eσ50, hf⟩ := g_b hf
  refine g_callA G (g_runJ (As := []) (rest := [.ref (ad 107 4), .int (4 : Int32), .ref (ad 30 0)]) C G (ad 107 4) (c_X7_init l D cy A ad [(108, 0), (6, 0), (25, 0), (26, 0), (27, 0), (4, 0), (1, 0), (17, 0), (18, 0), (19, 0), (20, 0), (21, 0), (22, 0), (0, 0), (10, 0), (11, 0), (12, 0), (13, 0), (14, 0), (15, 0), (16, 0), (30, 0), (31, 0), (7, 0), (28, 0), (29, 0), (7, 1), (28, 1), (29, 1), (7, 2), (28, 2), (29, 2), (7, 3), (28, 3), (29, 3), (107, 4)] σ49 (h + 35) 4 (by decide) hd35 hd36 (by decide) (by decide) σ50 eσ50) ⟨tw262, tw59, List.mem_of_getElem? (i := 4) rfl, ⟨rfl, tw261⟩, hd_X7_init⟩ (by decide) hsz hl.1 rfl (Nat.le_of_ble_eq_true rfl) dX8_init_71 ⟨Nat.le_of_ble_eq_true rfl, Nat.le_of_ble_eq_true rfl⟩) (fun H locs G => ?_)
  have G : g_H D cy A ad [(108, 0), (6, 0), (25, 0), (26, 0), (27, 0), (4, 0), (1, 0), (17, 0), (18, 0), (19, 0), (20, 0), (21, 0), (22, 0), (0, 0), (10, 0), (11, 0), (12, 0), (13, 0), (14, 0), (15, 0), (16, 0), (30, 0), (31, 0), (7, 0), (28, 0), (29, 0), (7, 1), (28, 1), (29, 1), (7, 2), (28, 2), (29, 2), (7, 3), (28, 3), (29, 3), (107, 4), (28, 4), (29, 4)] _ s.heap _ _ := G
  obtain ⟨hcv, hf⟩ := g_ok hf
  refine g_convW (k := 7) (i := 4) (L1 := [(108, 0), (6, 0), (25, 0), (26, 0), (27, 0), (4, 0), (1, 0), (17, 0), (18, 0), (19, 0), (20, 0), (21, 0), (22, 0), (0, 0), (10, 0), (11, 0), (12, 0), (13, 0), (14, 0), (15, 0), (16, 0), (30, 0), (31, 0), (7, 0), (28, 0), (29, 0), (7, 1), (28, 1), (29, 1), (7, 2), (28, 2), (29, 2), (7, 3), (28, 3), (29, 3)]) (L2 := [(28, 4), (29, 4)]) G (by decide) hc8 (by decide) (g_allset_ok hcv.1) (fun _ => hcv.2) ?_ (fun G => ?_)
  · decide
  have G : g_H D cy A ad [(108, 0), (6, 0), (25, 0), (26, 0), (27, 0), (4, 0), (1, 0), (17, 0), (18, 0), (19, 0), (20, 0), (21, 0), (22, 0), (0, 0), (10, 0), (11, 0), (12, 0), (13, 0), (14, 0), (15, 0), (16, 0), (30, 0), (31, 0), (7, 0), (28, 0), (29, 0), (7, 1), (28, 1), (29, 1), (7, 2), (28, 2), (29, 2), (7, 3), (28, 3), (29, 3), (7, 4), (28, 4), (29, 4)] _ s.heap _ _ := G
  obtain ⟨σ52, eσ52, hf⟩ := g_lt hf
  rw [← eσ52] at G
  refine W.eq (g2 := F0 m 74 ls [.ref (ad 7 4), .int (4 : Int32), .ref (ad 30 0)]) (by rw [hc8]) ?_
  obtain ⟨hq54, hf⟩ := g_ok hf
  refine g_astq (n := 8) C G 30 0 7 4 (by decide) (by decide) rfl hq54 (by decide) rfl (by decide) dX8_init_74 (fun H locs G => ?_)
  obtain ⟨σ53, eσ53, hf⟩ := g_lt hf
  rw [← eσ53] at G
  refine lv_iinc (v := (5 : Int32)) (lv' := [(1, .int (5 : Int32)), (0, .ref (ad 108 0))]) C.x C.b dX8_init_75 hl (k := 0) rfl (by decide) (by decide) rfl (fun ls hl => ?_)
  refine lv_goto (tgt := 56) C.x C.b dX8_init_78 (by decide) ?_
  refine lv_iload_n C.x C.b dX8_init_56 rfl (lv_at hl 0 rfl) ?_
  refine lv_bipush (v := (8 : Int32)) C.x C.b dX8_init_57 (by decide) ?_
  refine lv_icmp_ge (tgt := 81) C.x C.b dX8_init_59 (by decide) (fun cb => absurd cb (by decide)) (fun _ => ?_)
  refine lv_aload_n C.x C.b dX8_init_62 rfl (lv_at hl 1 rfl) ?_
  obtain ⟨hq55, hf⟩ := g_okn hf
  refine g_mget C G 8 0 3 (by decide) rfl ginX8 (by decide) (g_vcgr (K' := 30) (by decide) hq55) tw287 dX8_init_63 ?_
  refine lv_iload_n C.x C.b dX8_init_66 rfl (lv_at hl 0 rfl) ?_
  refine g_size (fun hle => ?_)
  have hsz := g_szk (k := 36) (K := 29) (i := 4) G (by decide) hs hd36 hle
  refine g_new C G 7 5 rfl ginX7 tyX7_ok (by decide) (gz_X7 ad 5) tw257 tw259 tw59 (by decide) (hd37.trans hsz.symm) (Nat.le_of_ble_eq_true rfl) (Nat.le_of_ble_eq_true rfl) dX8_init_67 (fun H G => ?_)
  have G : g_H D cy A ad [(108, 0), (6, 0), (25, 0), (26, 0), (27, 0), (4, 0), (1, 0), (17, 0), (18, 0), (19, 0), (20, 0), (21, 0), (22, 0), (0, 0), (10, 0), (11, 0), (12, 0), (13, 0), (14, 0), (15, 0), (16, 0), (30, 0), (31, 0), (7, 0), (28, 0), (29, 0), (7, 1), (28, 1), (29, 1), (7, 2), (28, 2), (29, 2), (7, 3), (28, 3), (29, 3), (7, 4), (28, 4), (29, 4), (107, 5)] _ s.heap _ _ := G
  obtain ⟨σ56, eσ56, hf⟩ := g_lt hf
  rw [← eσ56] at G
  refine lv_dup C.x C.b dX8_init_70 rfl ?_
  refine g_size (fun hle => ?_)
  have hsz := g_szk (k := 37) (K := 107) (i := 5) G (by decide) hs hd37 hle
  obtain ⟨σ57, eσ57, hf⟩ := g_b hf
  refine g_callA G (g_runJ (As := []) (rest := [.ref (ad 107 5), .int (5 : Int32), .ref (ad 30 0)]) C G (ad 107 5) (c_X7_init l D cy A ad [(108, 0), (6, 0), (25, 0), (26, 0), (27, 0), (4, 0), (1, 0), (17, 0), (18, 0), (19, 0), (20, 0), (21, 0), (22, 0), (0, 0), (10, 0), (11, 0), (12, 0), (13, 0), (14, 0), (15, 0), (16, 0), (30, 0), (31, 0), (7, 0), (28, 0), (29, 0), (7, 1), (28, 1), (29, 1), (7, 2), (28, 2), (29, 2), (7, 3), (28, 3), (29, 3), (7, 4), (28, 4), (29, 4), (107, 5)] σ56 (h + 38) 5 (by decide) hd38 hd39 (by decide) (by decide) σ57 eσ57) ⟨tw262, tw59, List.mem_of_getElem? (i := 4) rfl, ⟨rfl, tw261⟩, hd_X7_init⟩ (by decide) hsz hl.1 rfl (Nat.le_of_ble_eq_true rfl) dX8_init_71 ⟨Nat.le_of_ble_eq_true rfl, Nat.le_of_ble_eq_true rfl⟩) (fun H locs G => ?_)
  have G : g_H D cy A ad [(108, 0), (6, 0), (25, 0), (26, 0), (27, 0), (4, 0), (1, 0), (17, 0), (18, 0), (19, 0), (20, 0), (21, 0), (22, 0), (0, 0), (10, 0), (11, 0), (12, 0), (13, 0), (14, 0), (15, 0), (16, 0), (30, 0), (31, 0), (7, 0), (28, 0), (29, 0), (7, 1), (28, 1), (29, 1), (7, 2), (28, 2), (29, 2), (7, 3), (28, 3), (29, 3), (7, 4), (28, 4), (29, 4), (107, 5), (28, 5), (29, 5)] _ s.heap _ _ := G
  obtain ⟨hcv, hf⟩ := g_ok hf
  refine g_convW (k := 7) (i := 5) (L1 := [(108, 0), (6, 0), (25, 0), (26, 0), (27, 0), (4, 0), (1, 0), (17, 0), (18, 0), (19, 0), (20, 0), (21, 0), (22, 0), (0, 0), (10, 0), (11, 0), (12, 0), (13, 0), (14, 0), (15, 0), (16, 0), (30, 0), (31, 0), (7, 0), (28, 0), (29, 0), (7, 1), (28, 1), (29, 1), (7, 2), (28, 2), (29, 2), (7, 3), (28, 3), (29, 3), (7, 4), (28, 4), (29, 4)]) (L2 := [(28, 5), (29, 5)]) G (by decide) hc9 (by decide) (g_allset_ok hcv.1) (fun _ => hcv.2) ?_ (fun G => ?_)
  · decide
  have G : g_H D cy A ad [(108, 0), (6, 0), (25, 0), (26, 0), (27, 0), (4, 0), (1, 0), (17, 0), (18, 0), (19, 0), (20, 0), (21, 0), (22, 0), (0, 0), (10, 0), (11, 0), (12, 0), (13, 0), (14, 0), (15, 0), (16, 0), (30, 0), (31, 0), (7, 0), (28, 0), (29, 0), (7, 1), (28, 1), (29, 1), (7, 2), (28, 2), (29, 2), (7, 3), (28, 3), (29, 3), (7, 4), (28, 4), (29, 4), (7, 5), (28, 5), (29, 5)] _ s.heap _ _ := G
  obtain ⟨σ59, eσ59, hf⟩ := g_lt hf
  rw [← eσ59] at G
  refine W.eq (g2 := F0 m 74 ls [.ref (ad 7 5), .int (5 : Int32), .ref (ad 30 0)]) (by rw [hc9]) ?_
  obtain ⟨hq61, hf⟩ := g_ok hf
  refine g_astq (n := 8) C G 30 0 7 5 (by decide) (by decide) rfl hq61 (by decide) rfl (by decide) dX8_init_74 (fun H locs G => ?_)
  obtain ⟨σ60, eσ60, hf⟩ := g_lt hf
  rw [← eσ60] at G
  refine lv_iinc (v := (6 : Int32)) (lv' := [(1, .int (6 : Int32)), (0, .ref (ad 108 0))]) C.x C.b dX8_init_75 hl (k := 0) rfl (by decide) (by decide) rfl (fun ls hl => ?_)
  refine lv_goto (tgt := 56) C.x C.b dX8_init_78 (by decide) ?_
  refine lv_iload_n C.x C.b dX8_init_56 rfl (lv_at hl 0 rfl) ?_
  refine lv_bipush (v := (8 : Int32)) C.x C.b dX8_init_57 (by decide) ?_
  refine lv_icmp_ge (tgt := 81) C.x C.b dX8_init_59 (by decide) (fun cb => absurd cb (by decide)) (fun _ => ?_)
  refine lv_aload_n C.x C.b dX8_init_62 rfl (lv_at hl 1 rfl) ?_
  obtain ⟨hq62, hf⟩ := g_okn hf
  refine g_mget C G 8 0 3 (by decide) rfl ginX8 (by decide) (g_vcgr (K' := 30) (by decide) hq62) tw287 dX8_init_63 ?_
  refine lv_iload_n C.x C.b dX8_init_66 rfl (lv_at hl 0 rfl) ?_
  refine g_size (fun hle => ?_)
  have hsz := g_szk (k := 39) (K := 29) (i := 5) G (by decide) hs hd39 hle
  refine g_new C G 7 6 rfl ginX7 tyX7_ok (by decide) (gz_X7 ad 6) tw257 tw259 tw59 (by decide) (hd40.trans hsz.symm) (Nat.le_of_ble_eq_true rfl) (Nat.le_of_ble_eq_true rfl) dX8_init_67 (fun H G => ?_)
  have G : g_H D cy A ad [(108, 0), (6, 0), (25, 0), (26, 0), (27, 0), (4, 0), (1, 0), (17, 0), (18, 0), (19, 0), (20, 0), (21, 0), (22, 0), (0, 0), (10, 0), (11, 0), (12, 0), (13, 0), (14, 0), (15, 0), (16, 0), (30, 0), (31, 0), (7, 0), (28, 0), (29, 0), (7, 1), (28, 1), (29, 1), (7, 2), (28, 2), (29, 2), (7, 3), (28, 3), (29, 3), (7, 4), (28, 4), (29, 4), (7, 5), (28, 5), (29, 5), (107, 6)] _ s.heap _ _ := G
  obtain ⟨σ63, eσ63, hf⟩ := g_lt hf
  rw [← eσ63] at G
  refine lv_dup C.x C.b dX8_init_70 rfl ?_
  refine g_size (fun hle => ?_)
  have hsz := g_szk (k := 40) (K := 107) (i := 6) G (by decide) hs hd40 hle
  obtain ⟨σ64, eσ64, hf⟩ := g_b hf
  refine g_callA G (g_runJ (As := []) (rest := [.ref (ad 107 6), .int (6 : Int32), .ref (ad 30 0)]) C G (ad 107 6) (c_X7_init l D cy A ad [(108, 0), (6, 0), (25, 0), (26, 0), (27, 0), (4, 0), (1, 0), (17, 0), (18, 0), (19, 0), (20, 0), (21, 0), (22, 0), (0, 0), (10, 0), (11, 0), (12, 0), (13, 0), (14, 0), (15, 0), (16, 0), (30, 0), (31, 0), (7, 0), (28, 0), (29, 0), (7, 1), (28, 1), (29, 1), (7, 2), (28, 2), (29, 2), (7, 3), (28, 3), (29, 3), (7, 4), (28, 4), (29, 4), (7, 5), (28, 5), (29, 5), (107, 6)] σ63 (h + 41) 6 (by decide) hd41 hd42 (by decide) (by decide) σ64 eσ64) ⟨tw262, tw59, List.mem_of_getElem? (i := 4) rfl, ⟨rfl, tw261⟩, hd_X7_init⟩ (by decide) hsz hl.1 rfl (Nat.le_of_ble_eq_true rfl) dX8_init_71 ⟨Nat.le_of_ble_eq_true rfl, Nat.le_of_ble_eq_true rfl⟩) (fun H locs G => ?_)
  have G : g_H D cy A ad [(108, 0), (6, 0), (25, 0), (26, 0), (27, 0), (4, 0), (1, 0), (17, 0), (18, 0), (19, 0), (20, 0), (21, 0), (22, 0), (0, 0), (10, 0), (11, 0), (12, 0), (13, 0), (14, 0), (15, 0), (16, 0), (30, 0), (31, 0), (7, 0), (28, 0), (29, 0), (7, 1), (28, 1), (29, 1), (7, 2), (28, 2), (29, 2), (7, 3), (28, 3), (29, 3), (7, 4), (28, 4), (29, 4), (7, 5), (28, 5), (29, 5), (107, 6), (28, 6), (29, 6)] _ s.heap _ _ := G
  obtain ⟨hcv, hf⟩ := g_ok hf
  refine g_convW (k := 7) (i := 6) (L1 := [(108, 0), (6, 0), (25, 0), (26, 0), (27, 0), (4, 0), (1, 0), (17, 0), (18, 0), (19, 0), (20, 0), (21, 0), (22, 0), (0, 0), (10, 0), (11, 0), (12, 0), (13, 0), (14, 0), (15, 0), (16, 0), (30, 0), (31, 0), (7, 0), (28, 0), (29, 0), (7, 1), (28, 1), (29, 1), (7, 2), (28, 2), (29, 2), (7, 3), (28, 3), (29, 3), (7, 4), (28, 4), (29, 4), (7, 5), (28, 5), (29, 5)]) (L2 := [(28, 6), (29, 6)]) G (by decide) hc10 (by decide) (g_allset_ok hcv.1) (fun _ => hcv.2) ?_ (fun G => ?_)
  · decide
  have G : g_H D cy A ad [(108, 0), (6, 0), (25, 0), (26, 0), (27, 0), (4, 0), (1, 0), (17, 0), (18, 0), (19, 0), (20, 0), (21, 0), (22, 0), (0, 0), (10, 0), (11, 0), (12, 0), (13, 0), (14, 0), (15, 0), (16, 0), (30, 0), (31, 0), (7, 0), (28, 0), (29, 0), (7, 1), (28, 1), (29, 1), (7, 2), (28, 2), (29, 2), (7, 3), (28, 3), (29, 3), (7, 4), (28, 4), (29, 4), (7, 5), (28, 5), (29, 5), (7, 6), (28, 6), (29, 6)] _ s.heap _ _ := G
  obtain ⟨σ66, eσ66, hf⟩ := g_lt hf
  rw [← eσ66] at G
  refine W.eq (g2 := F0 m 74 ls [.ref (ad 7 6), .int (6 : Int32), .ref (ad 30 0)]) (by rw [hc10]) ?_
  obtain ⟨hq68, hf⟩ := g_ok hf
  refine g_astq (n := 8) C G 30 0 7 6 (by decide) (by decide) rfl hq68 (by decide) rfl (by decide) dX8_init_74 (fun H locs G => ?_)
  obtain ⟨σ67, eσ67, hf⟩ := g_lt hf
  rw [← eσ67] at G
  refine lv_iinc (v := (7 : Int32)) (lv' := [(1, .int (7 : Int32)), (0, .ref (ad 108 0))]) C.x C.b dX8_init_75 hl (k := 0) rfl (by decide) (by decide) rfl (fun ls hl => ?_)
  refine lv_goto (tgt := 56) C.x C.b dX8_init_78 (by decide) ?_
  refine lv_iload_n C.x C.b dX8_init_56 rfl (lv_at hl 0 rfl) ?_
  refine lv_bipush (v := (8 : Int32)) C.x C.b dX8_init_57 (by decide) ?_
  refine lv_icmp_ge (tgt := 81) C.x C.b dX8_init_59 (by decide) (fun cb => absurd cb (by decide)) (fun _ => ?_)
  refine lv_aload_n C.x C.b dX8_init_62 rfl (lv_at hl 1 rfl) ?_
  obtain ⟨hq69, hf⟩ := g_okn hf
  refine g_mget C G 8 0 3 (by decide) rfl ginX8 (by decide) (g_vcgr (K' := 30) (by decide) hq69) tw287 dX8_init_63 ?_
  refine lv_iload_n C.x C.b dX8_init_66 rfl (lv_at hl 0 rfl) ?_
  refine g_size (fun hle => ?_)
  have hsz := g_szk (k := 42) (K := 29) (i := 6) G (by decide) hs hd42 hle
  refine g_new C G 7 7 rfl ginX7 tyX7_ok (by decide) (gz_X7 ad 7) tw257 tw259 tw59 (by decide) (hd43.trans hsz.symm) (Nat.le_of_ble_eq_true rfl) (Nat.le_of_ble_eq_true rfl) dX8_init_67 (fun H G => ?_)
  have G : g_H D cy A ad [(108, 0), (6, 0), (25, 0), (26, 0), (27, 0), (4, 0), (1, 0), (17, 0), (18, 0), (19, 0), (20, 0), (21, 0), (22, 0), (0, 0), (10, 0), (11, 0), (12, 0), (13, 0), (14, 0), (15, 0), (16, 0), (30, 0), (31, 0), (7, 0), (28, 0), (29, 0), (7, 1), (28, 1), (29, 1), (7, 2), (28, 2), (29, 2), (7, 3), (28, 3), (29, 3), (7, 4), (28, 4), (29, 4), (7, 5), (28, 5), (29, 5), (7, 6), (28, 6), (29, 6), (107, 7)] _ s.heap _ _ := G
  obtain ⟨σ70, eσ70, hf⟩ := g_lt hf
  rw [← eσ70] at G
  refine lv_dup C.x C.b dX8_init_70 rfl ?_
  refine g_size (fun hle => ?_)
  have hsz := g_szk (k := 43) (K := 107) (i := 7) G (by decide) hs hd43 hle
  obtain ⟨σ71, eσ71, hf⟩ := g_b hf
  refine g_callA G (g_runJ (As := []) (rest := [.ref (ad 107 7), .int (7 : Int32), .ref (ad 30 0)]) C G (ad 107 7) (c_X7_init l D cy A ad [(108, 0), (6, 0), (25, 0), (26, 0), (27, 0), (4, 0), (1, 0), (17, 0), (18, 0), (19, 0), (20, 0), (21, 0), (22, 0), (0, 0), (10, 0), (11, 0), (12, 0), (13, 0), (14, 0), (15, 0), (16, 0), (30, 0), (31, 0), (7, 0), (28, 0), (29, 0), (7, 1), (28, 1), (29, 1), (7, 2), (28, 2), (29, 2), (7, 3), (28, 3), (29, 3), (7, 4), (28, 4), (29, 4), (7, 5), (28, 5), (29, 5), (7, 6), (28, 6), (29, 6), (107, 7)] σ70 (h + 44) 7 (by decide) hd44 hd45 (by decide) (by decide) σ71 eσ71) ⟨tw262, tw59, List.mem_of_getElem? (i := 4) rfl, ⟨rfl, tw261⟩, hd_X7_init⟩ (by decide) hsz hl.1 rfl (Nat.le_of_ble_eq_true rfl) dX8_init_71 ⟨Nat.le_of_ble_eq_true rfl, Nat.le_of_ble_eq_true rfl⟩) (fun H locs G => ?_)
  have G : g_H D cy A ad [(108, 0), (6, 0), (25, 0), (26, 0), (27, 0), (4, 0), (1, 0), (17, 0), (18, 0), (19, 0), (20, 0), (21, 0), (22, 0), (0, 0), (10, 0), (11, 0), (12, 0), (13, 0), (14, 0), (15, 0), (16, 0), (30, 0), (31, 0), (7, 0), (28, 0), (29, 0), (7, 1), (28, 1), (29, 1), (7, 2), (28, 2), (29, 2), (7, 3), (28, 3), (29, 3), (7, 4), (28, 4), (29, 4), (7, 5), (28, 5), (29, 5), (7, 6), (28, 6), (29, 6), (107, 7), (28, 7), (29, 7)] _ s.heap _ _ := G
  obtain ⟨hcv, hf⟩ := g_ok hf
  refine g_convW (k := 7) (i := 7) (L1 := [(108, 0), (6, 0), (25, 0), (26, 0), (27, 0), (4, 0), (1, 0), (17, 0), (18, 0), (19, 0), (20, 0), (21, 0), (22, 0), (0, 0), (10, 0), (11, 0), (12, 0), (13, 0), (14, 0), (15, 0), (16, 0), (30, 0), (31, 0), (7, 0), (28, 0), (29, 0), (7, 1), (28, 1), (29, 1), (7, 2), (28, 2), (29, 2), (7, 3), (28, 3), (29, 3), (7, 4), (28, 4), (29, 4), (7, 5), (28, 5), (29, 5), (7, 6), (28, 6), (29, 6)]) (L2 := [(28, 7), (29, 7)]) G (by decide) hc11 (by decide) (g_allset_ok hcv.1) (fun _ => hcv.2) ?_ (fun G => ?_)
  · decide
  have G : g_H D cy A ad [(108, 0), (6, 0), (25, 0), (26, 0), (27, 0), (4, 0), (1, 0), (17, 0), (18, 0), (19, 0), (20, 0), (21, 0), (22, 0), (0, 0), (10, 0), (11, 0), (12, 0), (13, 0), (14, 0), (15, 0), (16, 0), (30, 0), (31, 0), (7, 0), (28, 0), (29, 0), (7, 1), (28, 1), (29, 1), (7, 2), (28, 2), (29, 2), (7, 3), (28, 3), (29, 3), (7, 4), (28, 4), (29, 4), (7, 5), (28, 5), (29, 5), (7, 6), (28, 6), (29, 6), (7, 7), (28, 7), (29, 7)] _ s.heap _ _ := G
  obtain ⟨σ73, eσ73, hf⟩ := g_lt hf
  rw [← eσ73] at G
  refine W.eq (g2 := F0 m 74 ls [.ref (ad 7 7), .int (7 : Int32), .ref (ad 30 0)]) (by rw [hc11]) ?_
  obtain ⟨hq75, hf⟩ := g_ok hf
  refine g_astq (n := 8) C G 30 0 7 7 (by decide) (by decide) rfl hq75 (by decide) rfl (by decide) dX8_init_74 (fun H locs G => ?_)
  obtain ⟨σ74, eσ74, hf⟩ := g_lt hf
  rw [← eσ74] at G
  refine lv_iinc (v := (8 : Int32)) (lv' := [(1, .int (8 : Int32)), (0, .ref (ad 108 0))]) C.x C.b dX8_init_75 hl (k := 0) rfl (by decide) (by decide) rfl (fun ls hl => ?_)
  refine lv_goto (tgt := 56) C.x C.b dX8_init_78 (by decide) ?_
  refine lv_iload_n C.x C.b dX8_init_56 rfl (lv_at hl 0 rfl) ?_
  refine lv_bipush (v := (8 : Int32)) C.x C.b dX8_init_57 (by decide) ?_
  refine lv_icmp_ge (tgt := 81) C.x C.b dX8_init_59 (by decide) (fun _ => ?_) (fun cb => absurd cb (by decide))
  refine W.widen (k := 46) (n := 2436) (Nat.le_of_ble_eq_true rfl) (Nat.le_of_ble_eq_true rfl) ?_
  exact g_evi C G hr hlocks hf dX8_init_81
