def f_X9_init_P354 (σ : gS) : Option gS := (some σ)
def f_X9_init_L327 (K327 : gS → Option gS) : Nat → gS → Int32 → Option gS
  | 0, _, _ => none
  | n + 1, σ, v1 => (if (4800 : Int32) ≤ v1 then (K327 σ) else (if σ 109 0 18 < 0 then none else (if g_ix v1 4800 then (g_let (g_up σ 58 0 v1.toNatClampNeg (-1 : Int32)) fun σ80 => (if σ80 109 0 20 < 0 then none else (if g_ix v1 4800 then (g_let (g_up σ80 60 0 v1.toNatClampNeg (-1 : Int32)) fun σ83 => (f_X9_init_L327 K327 n σ83 (v1 + (1 : Int32)))) else none))) else none)))
def f_X9_init (ad : gA) (σ : gS) : Option gS := (g_let (g_up σ 109 0 0 (0 : Int32)) fun σ1 => (g_let (g_up σ1 109 0 1 (0 : Int32)) fun σ2 => (g_let (g_up σ2 109 0 2 (0 : Int32)) fun σ3 => (g_let (g_up σ3 109 0 3 (0 : Int32)) fun σ4 => (g_let (g_row σ4 44 0 (fun _ => 0)) fun σ5 => (g_let (g_up σ5 109 0 4 (0 : Int32)) fun σ6 => (g_let (g_row σ6 45 0 (fun _ => 0)) fun σ7 => (g_let (g_up σ7 109 0 5 (0 : Int32)) fun σ8 => (g_let (g_row σ8 46 0 (fun _ => 0)) fun σ9 => (g_let (g_up σ9 109 0 6 (0 : Int32)) fun σ10 => (g_let (g_row σ10 47 0 (fun _ => 0)) fun σ11 => (g_let (g_up σ11 109 0 7 (0 : Int32)) fun σ12 => (g_let (g_row σ12 48 0 (fun _ => 0)) fun σ13 => (g_let (g_up σ13 109 0 8 (0 : Int32)) fun σ14 => (g_let (g_row σ14 49 0 (fun _ => 0)) fun σ15 => (g_let (g_up σ15 109 0 9 (0 : Int32)) fun σ16 => (g_let (g_row σ16 50 0 (fun _ => 0)) fun σ17 => (g_let (g_up σ17 109 0 10 (0 : Int32)) fun σ18 => (g_let (g_row σ18 51 0 (fun _ => 0)) fun σ19 => (g_let (g_up σ19 109 0 11 (0 : Int32)) fun σ20 => (g_let (g_row σ20 52 0 (fun _ => 0)) fun σ21 => (g_let (g_up σ21 109 0 12 (0 : Int32)) fun σ22 => (g_let (g_row σ22 53 0 (fun _ => 0)) fun σ23 => (g_let (g_up σ23 109 0 13 (0 : Int32)) fun σ24 => (g_let (g_row σ24 54 0 (fun _ => 0)) fun σ25 => (g_let (g_up σ25 109 0 14 (0 : Int32)) fun σ26 => (g_let (g_row σ26 55 0 (fun _ => 0)) fun σ27 => (g_let (g_up σ27 109 0 15 (0 : Int32)) fun σ28 => (g_let (g_row σ28 56 0 (fun _ => 0)) fun σ29 => (g_let (g_up σ29 109 0 16 (0 : Int32)) fun σ30 => (g_let (g_row σ30 57 0 (fun _ => 0)) fun σ31 => (g_let (g_up σ31 109 0 17 (0 : Int32)) fun σ32 => (g_let (g_row σ32 58 0 (fun _ => 0)) fun σ33 => (g_let (g_up σ33 109 0 18 (0 : Int32)) fun σ34 => (g_let (g_row σ34 59 0 (fun _ => 0)) fun σ35 => (g_let (g_up σ35 109 0 19 (0 : Int32)) fun σ36 => (g_let (g_row σ36 60 0 (fun _ => 0)) fun σ37 => (g_let (g_up σ37 109 0 20 (0 : Int32)) fun σ38 => (g_let (g_up σ38 109 0 21 (0 : Int32)) fun σ39 => (g_let (g_up σ39 109 0 22 (0 : Int32)) fun σ40 => (g_let (g_up σ40 109 0 23 (0 : Int32)) fun σ41 => (g_let (g_up σ41 109 0 24 (0 : Int32)) fun σ42 => (g_let (g_up σ42 109 0 25 (0 : Int32)) fun σ43 => (g_let (g_up σ43 109 0 26 (0 : Int32)) fun σ44 => (g_let (g_row σ44 67 0 (fun _ => 0)) fun σ45 => (g_let (g_up σ45 109 0 27 (0 : Int32)) fun σ46 => (g_let (g_row σ46 68 0 (fun _ => 0)) fun σ47 => (g_let (g_up σ47 109 0 28 (0 : Int32)) fun σ48 => (g_let (g_up σ48 109 0 29 (2 : Int32)) fun σ49 => (g_let (g_up σ49 109 0 30 (1 : Int32)) fun σ50 => (g_let (g_row σ50 71 0 (fun _ => 0)) fun σ51 => (g_let (g_up σ51 109 0 31 (0 : Int32)) fun σ52 => (g_let (g_row σ52 72 0 (fun _ => 0)) fun σ53 => (g_let (g_up σ53 109 0 32 (0 : Int32)) fun σ54 => (g_let (g_row σ54 73 0 (fun _ => 0)) fun σ55 => (g_let (g_up σ55 109 0 33 (0 : Int32)) fun σ56 => (g_let (g_row σ56 74 0 (fun _ => 0)) fun σ57 => (g_let (g_up σ57 109 0 34 (0 : Int32)) fun σ58 => (g_let (g_row σ58 75 0 (fun _ => 0)) fun σ59 => (g_let (g_up σ59 109 0 35 (0 : Int32)) fun σ60 => (g_let (g_row σ60 76 0 (fun _ => 0)) fun σ61 => (g_let (g_up σ61 109 0 36 (0 : Int32)) fun σ62 => (g_let (g_row σ62 77 0 (fun _ => 0)) fun σ63 => (g_let (g_up σ63 109 0 37 (0 : Int32)) fun σ64 => (g_let (g_up σ64 109 0 38 (0 : Int32)) fun σ65 => (g_let (g_row σ65 79 0 (fun _ => 0)) fun σ66 => (g_let (g_up σ66 109 0 39 (0 : Int32)) fun σ67 => (g_let (g_row σ67 80 0 (fun _ => 0)) fun σ68 => (g_let (g_up σ68 109 0 40 (0 : Int32)) fun σ69 => (g_let (g_row σ69 81 0 (fun _ => 0)) fun σ70 => (g_let (g_up σ70 109 0 41 (0 : Int32)) fun σ71 => (g_let (g_row σ71 82 0 (fun _ => 0)) fun σ72 => (g_let (g_up σ72 109 0 42 (0 : Int32)) fun σ73 => (g_let (g_row σ73 83 0 (fun _ => 0)) fun σ74 => (g_let (g_up σ74 109 0 43 (0 : Int32)) fun σ75 => (g_let (g_row σ75 84 0 (fun _ => 0)) fun σ76 => (g_let (g_up σ76 109 0 44 (0 : Int32)) fun σ77 => (f_X9_init_L327 (f_X9_init_P354) g_fuel σ77 (0 : Int32)))))))))))))))))))))))))))))))))))))))))))))))))))))))))))))))))))))))))))))))
theorem hd_X9_init : yX9_init.cls ≠ "java/lang/invoke/MethodHandle" ∧ yX9_init.cls ≠ "java/lang/invoke/VarHandle" ∧ (parseMethodDescriptor yX9_init.desc).map (fun d => d.parameters.length) = some 0 := by decide +kernel
set_option maxHeartbeats 40000000 in
set_option maxRecDepth 100000 in
theorem c_X9_init (l : Launch) (D : va_G) (cy : Nat → ClassId) (A : Nat → Prop) (ad : gA) (σ : gS) (h : Nat)   (hd0 : ad 44 0 = h + 0) (hd1 : ad 45 0 = h + 1) (hd2 : ad 46 0 = h + 2) (hd3 : ad 47 0 = h + 3) (hd4 : ad 48 0 = h + 4) (hd5 : ad 49 0 = h + 5) (hd6 : ad 50 0 = h + 6) (hd7 : ad 51 0 = h + 7) (hd8 : ad 52 0 = h + 8) (hd9 : ad 53 0 = h + 9) (hd10 : ad 54 0 = h + 10) (hd11 : ad 55 0 = h + 11) (hd12 : ad 56 0 = h + 12) (hd13 : ad 57 0 = h + 13) (hd14 : ad 58 0 = h + 14) (hd15 : ad 59 0 = h + 15) (hd16 : ad 60 0 = h + 16) (hd17 : ad 67 0 = h + 17) (hd18 : ad 68 0 = h + 18) (hd19 : ad 71 0 = h + 19) (hd20 : ad 72 0 = h + 20) (hd21 : ad 73 0 = h + 21) (hd22 : ad 74 0 = h + 22) (hd23 : ad 75 0 = h + 23) (hd24 : ad 76 0 = h + 24) (hd25 : ad 77 0 = h + 25) (hd26 : ad 79 0 = h + 26) (hd27 : ad 80 0 = h + 27) (hd28 : ad 81 0 = h + 28) (hd29 : ad 82 0 = h + 29) (hd30 : ad 83 0 = h + 30) (hd31 : ad 84 0 = h + 31) (σ0 : gS) (hf : f_X9_init ad σ = some σ0) : g_MA l yX9_init cX9_init 2 ({ frames := 1, cells := 32, slots := 16677, locals := 12 } : Room) D cy A ad [(8, 0), (6, 0), (25, 0), (26, 0), (27, 0), (4, 0), (1, 0), (17, 0), (18, 0), (19, 0), (20, 0), (21, 0), (22, 0), (0, 0), (10, 0), (11, 0), (12, 0), (13, 0), (14, 0), (15, 0), (16, 0), (30, 0), (31, 0), (7, 0), (28, 0), (29, 0), (7, 1), (28, 1), (29, 1), (7, 2), (28, 2), (29, 2), (7, 3), (28, 3), (29, 3), (7, 4), (28, 4), (29, 4), (7, 5), (28, 5), (29, 5), (7, 6), (28, 6), (29, 6), (7, 7), (28, 7), (29, 7), (109, 0)] σ h [.ref (ad 109 0)] [(8, 0), (6, 0), (25, 0), (26, 0), (27, 0), (4, 0), (1, 0), (17, 0), (18, 0), (19, 0), (20, 0), (21, 0), (22, 0), (0, 0), (10, 0), (11, 0), (12, 0), (13, 0), (14, 0), (15, 0), (16, 0), (30, 0), (31, 0), (7, 0), (28, 0), (29, 0), (7, 1), (28, 1), (29, 1), (7, 2), (28, 2), (29, 2), (7, 3), (28, 3), (29, 3), (7, 4), (28, 4), (29, 4), (7, 5), (28, 5), (29, 5), (7, 6), (28, 6), (29, 6), (7, 7), (28, 7), (29, 7), (109, 0), (44, 0), (45, 0), (46, 0), (47, 0), (48, 0), (49, 0), (50, 0), (51, 0), (52, 0), (53, 0), (54, 0), (55, 0), (56, 0), (57, 0), (58, 0), (59, 0), (60, 0), (67, 0), (68, 0), (71, 0), (72, 0), (73, 0), (74, 0), (75, 0), (76, 0), (77, 0), (79, 0), (80, 0), (81, 0), (82, 0), (83, 0), (84, 0)] σ0 32 16677 := by
  refine g_metH (by decide) (Nat.le_of_ble_eq_true rfl) (fun p e s m below meth c C hr hlocks hnm hs G ls hl => ?_)
  have hl : lv_has ls 2 [(0, .ref (ad 109 0))] := hl
  have pt354 : ∀ (σ : gS) (H : Heap) (locs : List Loc) (ls : Array Slot), g_H D cy A ad [(8, 0), (6, 0), (25, 0), (26, 0), (27, 0), (4, 0), (1, 0), (17, 0), (18, 0), (19, 0), (20, 0), (21, 0), (22, 0), (0, 0), (10, 0), (11, 0), (12, 0), (13, 0), (14, 0), (15, 0), (16, 0), (30, 0), (31, 0), (7, 0), (28, 0), (29, 0), (7, 1), (28, 1), (29, 1), (7, 2), (28, 2), (29, 2), (7, 3), (28, 3), (29, 3), (7, 4), (28, 4), (29, 4), (7, 5), (28, 5), (29, 5), (7, 6), (28, 6), (29, 6), (7, 7), (28, 7), (29, 7), (109, 0), (44, 0), (45, 0), (46, 0), (47, 0), (48, 0), (49, 0), (50, 0), (51, 0), (52, 0), (53, 0), (54, 0), (55, 0), (56, 0), (57, 0), (58, 0), (59, 0), (60, 0), (67, 0), (68, 0), (71, 0), (72, 0), (73, 0), (74, 0), (75, 0), (76, 0), (77, 0), (79, 0), (80, 0), (81, 0), (82, 0), (83, 0), (84, 0)] σ s.heap H locs → lv_has ls 2 [] → f_X9_init_P354 σ = some σ0 → g_WA p l e ({ frames := 1, cells := 32, slots := 16677, locals := 12 } : Room) s m below meth c H locs 32 16677 D cy A ad [.ref (ad 109 0)] [(8, 0), (6, 0), (25, 0), (26, 0), (27, 0), (4, 0), (1, 0), (17, 0), (18, 0), (19, 0), (20, 0), (21, 0), (22, 0), (0, 0), (10, 0), (11, 0), (12, 0), (13, 0), (14, 0), (15, 0), (16, 0), (30, 0), (31, 0), (7, 0), (28, 0), (29, 0), (7, 1), (28, 1), (29, 1), (7, 2), (28, 2), (29, 2), (7, 3), (28, 3), (29, 3), (7, 4), (28, 4), (29, 4), (7, 5), (28, 5), (29, 5), (7, 6), (28, 6), (29, 6), (7, 7), (28, 7), (29, 7), (109, 0), (44, 0), (45, 0), (46, 0), (47, 0), (48, 0), (49, 0), (50, 0), (51, 0), (52, 0), (53, 0), (54, 0), (55, 0), (56, 0), (57, 0), (58, 0), (59, 0), (60, 0), (67, 0), (68, 0), (71, 0), (72, 0), (73, 0), (74, 0), (75, 0), (76, 0), (77, 0), (79, 0), (80, 0), (81, 0), (82, 0), (83, 0), (84, 0)] σ0 32 16677 (F0 m 354 ls []) := by
    intro σ H locs ls G hl hf
    unfold f_X9_init_P354 at hf
    refine W.widen (k := 32) (n := 16677) (Nat.le_of_ble_eq_true rfl) (Nat.le_of_ble_eq_true rfl) ?_
    exact g_evi C G hr hlocks hf dX9_init_354
  have lp327 : ∀ n327 : Nat, ∀ (σ : gS) (v1 : Int32) (H : Heap) (locs : List Loc) (ls : Array Slot), g_H D cy A ad [(8, 0), (6, 0), (25, 0), (26, 0), (27, 0), (4, 0), (1, 0), (17, 0), (18, 0), (19, 0), (20, 0), (21, 0), (22, 0), (0, 0), (10, 0), (11, 0), (12, 0), (13, 0), (14, 0), (15, 0), (16, 0), (30, 0), (31, 0), (7, 0), (28, 0), (29, 0), (7, 1), (28, 1), (29, 1), (7, 2), (28, 2), (29, 2), (7, 3), (28, 3), (29, 3), (7, 4), (28, 4), (29, 4), (7, 5), (28, 5), (29, 5), (7, 6), (28, 6), (29, 6), (7, 7), (28, 7), (29, 7), (109, 0), (44, 0), (45, 0), (46, 0), (47, 0), (48, 0), (49, 0), (50, 0), (51, 0), (52, 0), (53, 0), (54, 0), (55, 0), (56, 0), (57, 0), (58, 0), (59, 0), (60, 0), (67, 0), (68, 0), (71, 0), (72, 0), (73, 0), (74, 0), (75, 0), (76, 0), (77, 0), (79, 0), (80, 0), (81, 0), (82, 0), (83, 0), (84, 0)] σ s.heap H locs → lv_has ls 2 [(0, .ref (ad 109 0)), (1, .int v1)] → f_X9_init_L327 (f_X9_init_P354) n327 σ v1 = some σ0 → g_WA p l e ({ frames := 1, cells := 32, slots := 16677, locals := 12 } : Room) s m below meth c H locs 32 16677 D cy A ad [.ref (ad 109 0)] [(8, 0), (6, 0), (25, 0), (26, 0), (27, 0), (4, 0), (1, 0), (17, 0), (18, 0), (19, 0), (20, 0), (21, 0), (22, 0), (0, 0), (10, 0), (11, 0), (12, 0), (13, 0), (14, 0), (15, 0), (16, 0), (30, 0), (31, 0), (7, 0), (28, 0), (29, 0), (7, 1), (28, 1), (29, 1), (7, 2), (28, 2), (29, 2), (7, 3), (28, 3), (29, 3), (7, 4), (28, 4), (29, 4), (7, 5), (28, 5), (29, 5), (7, 6), (28, 6), (29, 6), (7, 7), (28, 7), (29, 7), (109, 0), (44, 0), (45, 0), (46, 0), (47, 0), (48, 0), (49, 0), (50, 0), (51, 0), (52, 0), (53, 0), (54, 0), (55, 0), (56, 0), (57, 0), (58, 0), (59, 0), (60, 0), (67, 0), (68, 0), (71, 0), (72, 0), (73, 0), (74, 0), (75, 0), (76, 0), (77, 0), (79, 0), (80, 0), (81, 0), (82, 0), (83, 0), (84, 0)] σ0 32 16677 (F0 m 327 ls []) := by
    intro n327
    induction n327 with
    | zero =>
      intro σ v1 H locs ls G hl hf
      rw [f_X9_init_L327] at hf
      cases hf
    | succ n327 ih327 =>
      intro σ v1 H locs ls G hl hf
      rw [f_X9_init_L327] at hf
      refine lv_iload_n C.x C.b dX9_init_327 rfl (lv_at hl 1 rfl) ?_
      refine lv_sipush (v := (4800 : Int32)) C.x C.b dX9_init_328 (by decide) ?_
      refine lv_icmp_ge (tgt := 354) C.x C.b dX9_init_331 (by decide) (fun cb => ?_) (fun cb => ?_)
      · have hf := g_t cb hf
        exact pt354 σ _ _ ls G (lv_sub hl [] rfl) hf
      · have hf := g_f cb hf
        refine lv_aload_n C.x C.b dX9_init_334 rfl (lv_at hl 0 rfl) ?_
        obtain ⟨hq78, hf⟩ := g_okn hf
        refine g_mget C G 9 0 18 (by decide) rfl ginX9 (by decide) (g_vcgr (K' := 58) (by decide) hq78) tw968 dX9_init_335 ?_
        refine lv_iload_n C.x C.b dX9_init_338 rfl (lv_at hl 1 rfl) ?_
        refine lv_iconst (v := (-1 : Int32)) C.x C.b dX9_init_339 (by decide) ?_
        obtain ⟨hi79, hf⟩ := g_ok hf
        refine g_iast (n := 4800) C G 58 0 (by decide) (by decide) rfl hi79 dX9_init_340 (fun H locs G => ?_)
        obtain ⟨σ80, eσ80, hf⟩ := g_lt hf
        rw [← eσ80] at G
        refine lv_aload_n C.x C.b dX9_init_341 rfl (lv_at hl 0 rfl) ?_
        obtain ⟨hq81, hf⟩ := g_okn hf
        refine g_mget C G 9 0 20 (by decide) rfl ginX9 (by decide) (g_vcgr (K' := 60) (by decide) hq81) tw970 dX9_init_342 ?_
        refine lv_iload_n C.x C.b dX9_init_345 rfl (lv_at hl 1 rfl) ?_
        refine lv_iconst (v := (-1 : Int32)) C.x C.b dX9_init_346 (by decide) ?_
        obtain ⟨hi82, hf⟩ := g_ok hf
        refine g_iast (n := 4800) C G 60 0 (by decide) (by decide) rfl hi82 dX9_init_347 (fun H locs G => ?_)
        obtain ⟨σ83, eσ83, hf⟩ := g_lt hf
        rw [← eσ83] at G
        refine lv_iinc (v := (v1 + (1 : Int32))) (lv' := [(1, .int (v1 + (1 : Int32))), (0, .ref (ad 109 0))]) C.x C.b dX9_init_348 hl (k := 1) rfl rfl (by decide) rfl (fun ls hl => ?_)
        refine lv_goto (tgt := 327) C.x C.b dX9_init_351 (by decide) ?_
        exact ih327 σ83 (v1 + (1 : Int32)) _ _ ls G (lv_sub hl [1, 0] rfl) hf
  unfold f_X9_init at hf
  refine lv_aload_n C.x C.b dX9_init_0 rfl (lv_at hl 0 rfl) ?_
  refine g_objI C tw949 tw78 tw79 hl.1 dX9_init_1 (by decide) (by decide) ?_
  refine lv_aload_n C.x C.b dX9_init_4 rfl (lv_at hl 0 rfl) ?_
  refine lv_iconst (v := (0 : Int32)) C.x C.b dX9_init_5 (by decide) ?_
  refine g_mput C G 9 0 0 (0 : Int32) (by decide) rfl ginX9 tyX9_ok nmX9 (by decide) (g_vci (by decide)) ⟨rfl, rfl⟩ hnm rfl tw950 dX9_init_6 (fun H locs G => ?_)
  obtain ⟨σ1, eσ1, hf⟩ := g_lt hf
  rw [← eσ1] at G
  refine lv_aload_n C.x C.b dX9_init_9 rfl (lv_at hl 0 rfl) ?_
  refine lv_iconst (v := (0 : Int32)) C.x C.b dX9_init_10 (by decide) ?_
  refine g_mput C G 9 0 1 (0 : Int32) (by decide) rfl ginX9 tyX9_ok nmX9 (by decide) (g_vci (by decide)) ⟨rfl, rfl⟩ hnm rfl tw951 dX9_init_11 (fun H locs G => ?_)
  obtain ⟨σ2, eσ2, hf⟩ := g_lt hf
  rw [← eσ2] at G
  refine lv_aload_n C.x C.b dX9_init_14 rfl (lv_at hl 0 rfl) ?_
  refine lv_iconst (v := (0 : Int32)) C.x C.b dX9_init_15 (by decide) ?_
  refine g_mput C G 9 0 2 (0 : Int32) (by decide) rfl ginX9 tyX9_ok nmX9 (by decide) (g_vci (by decide)) ⟨rfl, rfl⟩ hnm rfl tw952 dX9_init_16 (fun H locs G => ?_)
  obtain ⟨σ3, eσ3, hf⟩ := g_lt hf
  rw [← eσ3] at G
  refine lv_aload_n C.x C.b dX9_init_19 rfl (lv_at hl 0 rfl) ?_
  refine lv_iconst (v := (0 : Int32)) C.x C.b dX9_init_20 (by decide) ?_
  refine g_mput C G 9 0 3 (0 : Int32) (by decide) rfl ginX9 tyX9_ok nmX9 (by decide) (g_vci (by decide)) ⟨rfl, rfl⟩ hnm rfl tw953 dX9_init_21 (fun H locs G => ?_)
  obtain ⟨σ4, eσ4, hf⟩ := g_lt hf
  rw [← eσ4] at G
  refine lv_aload_n C.x C.b dX9_init_24 rfl (lv_at hl 0 rfl) ?_
  refine lv_bipush (v := (8 : Int32)) C.x C.b dX9_init_25 (by decide) ?_
  refine g_size (fun hle => ?_)
  have hsz := g_sz0 G hs hle
  refine g_newa (atype := .int) (ty := .int) (N := 8) C G 44 0 (t := 1) ⟨by decide, rfl, by decide⟩ ⟨rfl, rfl⟩ rfl (fun _ => rfl) tw211 (by decide) (by decide) rfl (by decide) (by decide) (hd0.trans hsz.symm) (Nat.le_of_ble_eq_true rfl) (Nat.le_of_ble_eq_true rfl) dX9_init_27 (fun H G => ?_)
  have G : g_H D cy A ad [(8, 0), (6, 0), (25, 0), (26, 0), (27, 0), (4, 0), (1, 0), (17, 0), (18, 0), (19, 0), (20, 0), (21, 0), (22, 0), (0, 0), (10, 0), (11, 0), (12, 0), (13, 0), (14, 0), (15, 0), (16, 0), (30, 0), (31, 0), (7, 0), (28, 0), (29, 0), (7, 1), (28, 1), (29, 1), (7, 2), (28, 2), (29, 2), (7, 3), (28, 3), (29, 3), (7, 4), (28, 4), (29, 4), (7, 5), (28, 5), (29, 5), (7, 6), (28, 6), (29, 6), (7, 7), (28, 7), (29, 7), (109, 0), (44, 0)] _ s.heap _ _ := G
  obtain ⟨σ5, eσ5, hf⟩ := g_lt hf
  rw [← eσ5] at G
  refine g_mput C G 9 0 4 (0 : Int32) (by decide) rfl ginX9 tyX9_ok nmX9 (by decide) (g_vcr (K' := 44) (by decide)) ⟨rfl, rfl⟩ hnm rfl tw954 dX9_init_29 (fun H locs G => ?_)
  obtain ⟨σ6, eσ6, hf⟩ := g_lt hf
  rw [← eσ6] at G
  refine lv_aload_n C.x C.b dX9_init_32 rfl (lv_at hl 0 rfl) ?_
  refine lv_bipush (v := (8 : Int32)) C.x C.b dX9_init_33 (by decide) ?_
  refine g_size (fun hle => ?_)
  have hsz := g_szk (k := 0) (K := 44) (i := 0) G (by decide) hs hd0 hle
  refine g_newa (atype := .boolean) (ty := .boolean) (N := 8) C G 45 0 (t := 2) ⟨by decide, rfl, by decide⟩ ⟨rfl, rfl⟩ rfl (fun _ => rfl) tw212 (by decide) (by decide) rfl (by decide) (by decide) (hd1.trans hsz.symm) (Nat.le_of_ble_eq_true rfl) (Nat.le_of_ble_eq_true rfl) dX9_init_35 (fun H G => ?_)
  have G : g_H D cy A ad [(8, 0), (6, 0), (25, 0), (26, 0), (27, 0), (4, 0), (1, 0), (17, 0), (18, 0), (19, 0), (20, 0), (21, 0), (22, 0), (0, 0), (10, 0), (11, 0), (12, 0), (13, 0), (14, 0), (15, 0), (16, 0), (30, 0), (31, 0), (7, 0), (28, 0), (29, 0), (7, 1), (28, 1), (29, 1), (7, 2), (28, 2), (29, 2), (7, 3), (28, 3), (29, 3), (7, 4), (28, 4), (29, 4), (7, 5), (28, 5), (29, 5), (7, 6), (28, 6), (29, 6), (7, 7), (28, 7), (29, 7), (109, 0), (44, 0), (45, 0)] _ s.heap _ _ := G
  obtain ⟨σ7, eσ7, hf⟩ := g_lt hf
  rw [← eσ7] at G
  refine g_mput C G 9 0 5 (0 : Int32) (by decide) rfl ginX9 tyX9_ok nmX9 (by decide) (g_vcr (K' := 45) (by decide)) ⟨rfl, rfl⟩ hnm rfl tw955 dX9_init_37 (fun H locs G => ?_)
  obtain ⟨σ8, eσ8, hf⟩ := g_lt hf
  rw [← eσ8] at G
  refine lv_aload_n C.x C.b dX9_init_40 rfl (lv_at hl 0 rfl) ?_
  refine lv_bipush (v := (24 : Int32)) C.x C.b dX9_init_41 (by decide) ?_
  refine g_size (fun hle => ?_)
  have hsz := g_szk (k := 1) (K := 45) (i := 0) G (by decide) hs hd1 hle
  refine g_newa (atype := .int) (ty := .int) (N := 24) C G 46 0 (t := 1) ⟨by decide, rfl, by decide⟩ ⟨rfl, rfl⟩ rfl (fun _ => rfl) tw211 (by decide) (by decide) rfl (by decide) (by decide) (hd2.trans hsz.symm) (Nat.le_of_ble_eq_true rfl) (Nat.le_of_ble_eq_true rfl) dX9_init_43 (fun H G => ?_)
  have G : g_H D cy A ad [(8, 0), (6, 0), (25, 0), (26, 0), (27, 0), (4, 0), (1, 0), (17, 0), (18, 0), (19, 0), (20, 0), (21, 0), (22, 0), (0, 0), (10, 0), (11, 0), (12, 0), (13, 0), (14, 0), (15, 0), (16, 0), (30, 0), (31, 0), (7, 0), (28, 0), (29, 0), (7, 1), (28, 1), (29, 1), (7, 2), (28, 2), (29, 2), (7, 3), (28, 3), (29, 3), (7, 4), (28, 4), (29, 4), (7, 5), (28, 5), (29, 5), (7, 6), (28, 6), (29, 6), (7, 7), (28, 7), (29, 7), (109, 0), (44, 0), (45, 0), (46, 0)] _ s.heap _ _ := G
  obtain ⟨σ9, eσ9, hf⟩ := g_lt hf
  rw [← eσ9] at G
  refine g_mput C G 9 0 6 (0 : Int32) (by decide) rfl ginX9 tyX9_ok nmX9 (by decide) (g_vcr (K' := 46) (by decide)) ⟨rfl, rfl⟩ hnm rfl tw956 dX9_init_45 (fun H locs G => ?_)
  obtain ⟨σ10, eσ10, hf⟩ := g_lt hf
  rw [← eσ10] at G
  refine lv_aload_n C.x C.b dX9_init_48 rfl (lv_at hl 0 rfl) ?_
  refine lv_bipush (v := (24 : Int32)) C.x C.b dX9_init_49 (by decide) ?_
  refine g_size (fun hle => ?_)
  have hsz := g_szk (k := 2) (K := 46) (i := 0) G (by decide) hs hd2 hle
  refine g_newa (atype := .int) (ty := .int) (N := 24) C G 47 0 (t := 1) ⟨by decide, rfl, by decide⟩ ⟨rfl, rfl⟩ rfl (fun _ => rfl) tw211 (by decide) (by decide) rfl (by decide) (by decide) (hd3.trans hsz.symm) (Nat.le_of_ble_eq_true rfl) (Nat.le_of_ble_eq_true rfl) dX9_init_51 (fun H G => ?_)
  have G : g_H D cy A ad [(8, 0), (6, 0), (25, 0), (26, 0), (27, 0), (4, 0), (1, 0), (17, 0), (18, 0), (19, 0), (20, 0), (21, 0), (22, 0), (0, 0), (10, 0), (11, 0), (12, 0), (13, 0), (14, 0), (15, 0), (16, 0), (30, 0), (31, 0), (7, 0), (28, 0), (29, 0), (7, 1), (28, 1), (29, 1), (7, 2), (28, 2), (29, 2), (7, 3), (28, 3), (29, 3), (7, 4), (28, 4), (29, 4), (7, 5), (28, 5), (29, 5), (7, 6), (28, 6), (29, 6), (7, 7), (28, 7), (29, 7), (109, 0), (44, 0), (45, 0), (46, 0), (47, 0)] _ s.heap _ _ := G
  obtain ⟨σ11, eσ11, hf⟩ := g_lt hf
  rw [← eσ11] at G
  refine g_mput C G 9 0 7 (0 : Int32) (by decide) rfl ginX9 tyX9_ok nmX9 (by decide) (g_vcr (K' := 47) (by decide)) ⟨rfl, rfl⟩ hnm rfl tw957 dX9_init_53 (fun H locs G => ?_)
  obtain ⟨σ12, eσ12, hf⟩ := g_lt hf
  rw [← eσ12] at G
  refine lv_aload_n C.x C.b dX9_init_56 rfl (lv_at hl 0 rfl) ?_
  refine lv_bipush (v := (24 : Int32)) C.x C.b dX9_init_57 (by decide) ?_
  refine g_size (fun hle => ?_)
  have hsz := g_szk (k := 3) (K := 47) (i := 0) G (by decide) hs hd3 hle
  refine g_newa (atype := .int) (ty := .int) (N := 24) C G 48 0 (t := 1) ⟨by decide, rfl, by decide⟩ ⟨rfl, rfl⟩ rfl (fun _ => rfl) tw211 (by decide) (by decide) rfl (by decide) (by decide) (hd4.trans hsz.symm) (Nat.le_of_ble_eq_true rfl) (Nat.le_of_ble_eq_true rfl) dX9_init_59 (fun H G => ?_)
  have G : g_H D cy A ad [(8, 0), (6, 0), (25, 0), (26, 0), (27, 0), (4, 0), (1, 0), (17, 0), (18, 0), (19, 0), (20, 0), (21, 0), (22, 0), (0, 0), (10, 0), (11, 0), (12, 0), (13, 0), (14, 0), (15, 0), (16, 0), (30, 0), (31, 0), (7, 0), (28, 0), (29, 0), (7, 1), (28, 1), (29, 1), (7, 2), (28, 2), (29, 2), (7, 3), (28, 3), (29, 3), (7, 4), (28, 4), (29, 4), (7, 5), (28, 5), (29, 5), (7, 6), (28, 6), (29, 6), (7, 7), (28, 7), (29, 7), (109, 0), (44, 0), (45, 0), (46, 0), (47, 0), (48, 0)] _ s.heap _ _ := G
  obtain ⟨σ13, eσ13, hf⟩ := g_lt hf
  rw [← eσ13] at G
  refine g_mput C G 9 0 8 (0 : Int32) (by decide) rfl ginX9 tyX9_ok nmX9 (by decide) (g_vcr (K' := 48) (by decide)) ⟨rfl, rfl⟩ hnm rfl tw958 dX9_init_61 (fun H locs G => ?_)
  obtain ⟨σ14, eσ14, hf⟩ := g_lt hf
  rw [← eσ14] at G
  refine lv_aload_n C.x C.b dX9_init_64 rfl (lv_at hl 0 rfl) ?_
  refine lv_bipush (v := (24 : Int32)) C.x C.b dX9_init_65 (by decide) ?_
  refine g_size (fun hle => ?_)
  have hsz := g_szk (k := 4) (K := 48) (i := 0) G (by decide) hs hd4 hle
  refine g_newa (atype := .int) (ty := .int) (N := 24) C G 49 0 (t := 1) ⟨by decide, rfl, by decide⟩ ⟨rfl, rfl⟩ rfl (fun _ => rfl) tw211 (by decide) (by decide) rfl (by decide) (by decide) (hd5.trans hsz.symm) (Nat.le_of_ble_eq_true rfl) (Nat.le_of_ble_eq_true rfl) dX9_init_67 (fun H G => ?_)
  have G : g_H D cy A ad [(8, 0), (6, 0), (25, 0), (26, 0), (27, 0), (4, 0), (1, 0), (17, 0), (18, 0), (19, 0), (20, 0), (21, 0), (22, 0), (0, 0), (10, 0), (11, 0), (12, 0), (13, 0), (14, 0), (15, 0), (16, 0), (30, 0), (31, 0), (7, 0), (28, 0), (29, 0), (7, 1), (28, 1), (29, 1), (7, 2), (28, 2), (29, 2), (7, 3), (28, 3), (29, 3), (7, 4), (28, 4), (29, 4), (7, 5), (28, 5), (29, 5), (7, 6), (28, 6), (29, 6), (7, 7), (28, 7), (29, 7), (109, 0), (44, 0), (45, 0), (46, 0), (47, 0), (48, 0), (49, 0)] _ s.heap _ _ := G
  obtain ⟨σ15, eσ15, hf⟩ := g_lt hf
  rw [← eσ15] at G
  refine g_mput C G 9 0 9 (0 : Int32) (by decide) rfl ginX9 tyX9_ok nmX9 (by decide) (g_vcr (K' := 49) (by decide)) ⟨rfl, rfl⟩ hnm rfl tw959 dX9_init_69 (fun H locs G => ?_)
  obtain ⟨σ16, eσ16, hf⟩ := g_lt hf
  rw [← eσ16] at G
  refine lv_aload_n C.x C.b dX9_init_72 rfl (lv_at hl 0 rfl) ?_
  refine lv_bipush (v := (24 : Int32)) C.x C.b dX9_init_73 (by decide) ?_
  refine g_size (fun hle => ?_)
  have hsz := g_szk (k := 5) (K := 49) (i := 0) G (by decide) hs hd5 hle
  refine g_newa (atype := .int) (ty := .int) (N := 24) C G 50 0 (t := 1) ⟨by decide, rfl, by decide⟩ ⟨rfl, rfl⟩ rfl (fun _ => rfl) tw211 (by decide) (by decide) rfl (by decide) (by decide) (hd6.trans hsz.symm) (Nat.le_of_ble_eq_true rfl) (Nat.le_of_ble_eq_true rfl) dX9_init_75 (fun H G => ?_)
  have G : g_H D cy A ad [(8, 0), (6, 0), (25, 0), (26, 0), (27, 0), (4, 0), (1, 0), (17, 0), (18, 0), (19, 0), (20, 0), (21, 0), (22, 0), (0, 0), (10, 0), (11, 0), (12, 0), (13, 0), (14, 0), (15, 0), (16, 0), (30, 0), (31, 0), (7, 0), (28, 0), (29, 0), (7, 1), (28, 1), (29, 1), (7, 2), (28, 2), (29, 2), (7, 3), (28, 3), (29, 3), (7, 4), (28, 4), (29, 4), (7, 5), (28, 5), (29, 5), (7, 6), (28, 6), (29, 6), (7, 7), (28, 7), (29, 7), (109, 0), (44, 0), (45, 0), (46, 0), (47, 0), (48, 0), (49, 0), (50, 0)] _ s.heap _ _ := G
  obtain ⟨σ17, eσ17, hf⟩ := g_lt hf
  rw [← eσ17] at G
  refine g_mput C G 9 0 10 (0 : Int32) (by decide) rfl ginX9 tyX9_ok nmX9 (by decide) (g_vcr (K' := 50) (by decide)) ⟨rfl, rfl⟩ hnm rfl tw960 dX9_init_77 (fun H locs G => ?_)
  obtain ⟨σ18, eσ18, hf⟩ := g_lt hf
  rw [← eσ18] at G
  refine lv_aload_n C.x C.b dX9_init_80 rfl (lv_at hl 0 rfl) ?_
  refine lv_bipush (v := (24 : Int32)) C.x C.b dX9_init_81 (by decide) ?_
  refine g_size (fun hle => ?_)
  have hsz := g_szk (k := 6) (K := 50) (i := 0) G (by decide) hs hd6 hle
  refine g_newa (atype := .int) (ty := .int) (N := 24) C G 51 0 (t := 1) ⟨by decide, rfl, by decide⟩ ⟨rfl, rfl⟩ rfl (fun _ => rfl) tw211 (by decide) (by decide) rfl (by decide) (by decide) (hd7.trans hsz.symm) (Nat.le_of_ble_eq_true rfl) (Nat.le_of_ble_eq_true rfl) dX9_init_83 (fun H G => ?_)
  have G : g_H D cy A ad [(8, 0), (6, 0), (25, 0), (26, 0), (27, 0), (4, 0), (1, 0), (17, 0), (18, 0), (19, 0), (20, 0), (21, 0), (22, 0), (0, 0), (10, 0), (11, 0), (12, 0), (13, 0), (14, 0), (15, 0), (16, 0), (30, 0), (31, 0), (7, 0), (28, 0), (29, 0), (7, 1), (28, 1), (29, 1), (7, 2), (28, 2), (29, 2), (7, 3), (28, 3), (29, 3), (7, 4), (28, 4), (29, 4), (7, 5), (28, 5), (29, 5), (7, 6), (28, 6), (29, 6), (7, 7), (28, 7), (29, 7), (109, 0), (44, 0), (45, 0), (46, 0), (47, 0), (48, 0), (49, 0), (50, 0), (51, 0)] _ s.heap _ _ := G
  obtain ⟨σ19, eσ19, hf⟩ := g_lt hf
  rw [← eσ19] at G
  refine g_mput C G 9 0 11 (0 : Int32) (by decide) rfl ginX9 tyX9_ok nmX9 (by decide) (g_vcr (K' := 51) (by decide)) ⟨rfl, rfl⟩ hnm rfl tw961 dX9_init_85 (fun H locs G => ?_)
  obtain ⟨σ20, eσ20, hf⟩ := g_lt hf
  rw [← eσ20] at G
  refine lv_aload_n C.x C.b dX9_init_88 rfl (lv_at hl 0 rfl) ?_
  refine lv_bipush (v := (24 : Int32)) C.x C.b dX9_init_89 (by decide) ?_
  refine g_size (fun hle => ?_)
  have hsz := g_szk (k := 7) (K := 51) (i := 0) G (by decide) hs hd7 hle
  refine g_newa (atype := .int) (ty := .int) (N := 24) C G 52 0 (t := 1) ⟨by decide, rfl, by decide⟩ ⟨rfl, rfl⟩ rfl (fun _ => rfl) tw211 (by decide) (by decide) rfl (by decide) (by decide) (hd8.trans hsz.symm) (Nat.le_of_ble_eq_true rfl) (Nat.le_of_ble_eq_true rfl) dX9_init_91 (fun H G => ?_)
  have G : g_H D cy A ad [(8, 0), (6, 0), (25, 0), (26, 0), (27, 0), (4, 0), (1, 0), (17, 0), (18, 0), (19, 0), (20, 0), (21, 0), (22, 0), (0, 0), (10, 0), (11, 0), (12, 0), (13, 0), (14, 0), (15, 0), (16, 0), (30, 0), (31, 0), (7, 0), (28, 0), (29, 0), (7, 1), (28, 1), (29, 1), (7, 2), (28, 2), (29, 2), (7, 3), (28, 3), (29, 3), (7, 4), (28, 4), (29, 4), (7, 5), (28, 5), (29, 5), (7, 6), (28, 6), (29, 6), (7, 7), (28, 7), (29, 7), (109, 0), (44, 0), (45, 0), (46, 0), (47, 0), (48, 0), (49, 0), (50, 0), (51, 0), (52, 0)] _ s.heap _ _ := G
  obtain ⟨σ21, eσ21, hf⟩ := g_lt hf
  rw [← eσ21] at G
  refine g_mput C G 9 0 12 (0 : Int32) (by decide) rfl ginX9 tyX9_ok nmX9 (by decide) (g_vcr (K' := 52) (by decide)) ⟨rfl, rfl⟩ hnm rfl tw962 dX9_init_93 (fun H locs G => ?_)
  obtain ⟨σ22, eσ22, hf⟩ := g_lt hf
  rw [← eσ22] at G
  refine lv_aload_n C.x C.b dX9_init_96 rfl (lv_at hl 0 rfl) ?_
  refine lv_bipush (v := (20 : Int32)) C.x C.b dX9_init_97 (by decide) ?_
  refine g_size (fun hle => ?_)
  have hsz := g_szk (k := 8) (K := 52) (i := 0) G (by decide) hs hd8 hle
  refine g_newa (atype := .int) (ty := .int) (N := 20) C G 53 0 (t := 1) ⟨by decide, rfl, by decide⟩ ⟨rfl, rfl⟩ rfl (fun _ => rfl) tw211 (by decide) (by decide) rfl (by decide) (by decide) (hd9.trans hsz.symm) (Nat.le_of_ble_eq_true rfl) (Nat.le_of_ble_eq_true rfl) dX9_init_99 (fun H G => ?_)
  have G : g_H D cy A ad [(8, 0), (6, 0), (25, 0), (26, 0), (27, 0), (4, 0), (1, 0), (17, 0), (18, 0), (19, 0), (20, 0), (21, 0), (22, 0), (0, 0), (10, 0), (11, 0), (12, 0), (13, 0), (14, 0), (15, 0), (16, 0), (30, 0), (31, 0), (7, 0), (28, 0), (29, 0), (7, 1), (28, 1), (29, 1), (7, 2), (28, 2), (29, 2), (7, 3), (28, 3), (29, 3), (7, 4), (28, 4), (29, 4), (7, 5), (28, 5), (29, 5), (7, 6), (28, 6), (29, 6), (7, 7), (28, 7), (29, 7), (109, 0), (44, 0), (45, 0), (46, 0), (47, 0), (48, 0), (49, 0), (50, 0), (51, 0), (52, 0), (53, 0)] _ s.heap _ _ := G
  obtain ⟨σ23, eσ23, hf⟩ := g_lt hf
  rw [← eσ23] at G
  refine g_mput C G 9 0 13 (0 : Int32) (by decide) rfl ginX9 tyX9_ok nmX9 (by decide) (g_vcr (K' := 53) (by decide)) ⟨rfl, rfl⟩ hnm rfl tw963 dX9_init_101 (fun H locs G => ?_)
  obtain ⟨σ24, eσ24, hf⟩ := g_lt hf
  rw [← eσ24] at G
  refine lv_aload_n C.x C.b dX9_init_104 rfl (lv_at hl 0 rfl) ?_
  refine lv_bipush (v := (20 : Int32)) C.x C.b dX9_init_105 (by decide) ?_
  refine g_size (fun hle => ?_)
  have hsz := g_szk (k := 9) (K := 53) (i := 0) G (by decide) hs hd9 hle
  refine g_newa (atype := .int) (ty := .int) (N := 20) C G 54 0 (t := 1) ⟨by decide, rfl, by decide⟩ ⟨rfl, rfl⟩ rfl (fun _ => rfl) tw211 (by decide) (by decide) rfl (by decide) (by decide) (hd10.trans hsz.symm) (Nat.le_of_ble_eq_true rfl) (Nat.le_of_ble_eq_true rfl) dX9_init_107 (fun H G => ?_)
  have G : g_H D cy A ad [(8, 0), (6, 0), (25, 0), (26, 0), (27, 0), (4, 0), (1, 0), (17, 0), (18, 0), (19, 0), (20, 0), (21, 0), (22, 0), (0, 0), (10, 0), (11, 0), (12, 0), (13, 0), (14, 0), (15, 0), (16, 0), (30, 0), (31, 0), (7, 0), (28, 0), (29, 0), (7, 1), (28, 1), (29, 1), (7, 2), (28, 2), (29, 2), (7, 3), (28, 3), (29, 3), (7, 4), (28, 4), (29, 4), (7, 5), (28, 5), (29, 5), (7, 6), (28, 6), (29, 6), (7, 7), (28, 7), (29, 7), (109, 0), (44, 0), (45, 0), (46, 0), (47, 0), (48, 0), (49, 0), (50, 0), (51, 0), (52, 0), (53, 0), (54, 0)] _ s.heap _ _ := G
  obtain ⟨σ25, eσ25, hf⟩ := g_lt hf
  rw [← eσ25] at G
  refine g_mput C G 9 0 14 (0 : Int32) (by decide) rfl ginX9 tyX9_ok nmX9 (by decide) (g_vcr (K' := 54) (by decide)) ⟨rfl, rfl⟩ hnm rfl tw964 dX9_init_109 (fun H locs G => ?_)
  obtain ⟨σ26, eσ26, hf⟩ := g_lt hf
  rw [← eσ26] at G
  refine lv_aload_n C.x C.b dX9_init_112 rfl (lv_at hl 0 rfl) ?_
  refine lv_bipush (v := (20 : Int32)) C.x C.b dX9_init_113 (by decide) ?_
  refine g_size (fun hle => ?_)
  have hsz := g_szk (k := 10) (K := 54) (i := 0) G (by decide) hs hd10 hle
  refine g_newa (atype := .int) (ty := .int) (N := 20) C G 55 0 (t := 1) ⟨by decide, rfl, by decide⟩ ⟨rfl, rfl⟩ rfl (fun _ => rfl) tw211 (by decide) (by decide) rfl (by decide) (by decide) (hd11.trans hsz.symm) (Nat.le_of_ble_eq_true rfl) (Nat.le_of_ble_eq_true rfl) dX9_init_115 (fun H G => ?_)
  have G : g_H D cy A ad [(8, 0), (6, 0), (25, 0), (26, 0), (27, 0), (4, 0), (1, 0), (17, 0), (18, 0), (19, 0), (20, 0), (21, 0), (22, 0), (0, 0), (10, 0), (11, 0), (12, 0), (13, 0), (14, 0), (15, 0), (16, 0), (30, 0), (31, 0), (7, 0), (28, 0), (29, 0), (7, 1), (28, 1), (29, 1), (7, 2), (28, 2), (29, 2), (7, 3), (28, 3), (29, 3), (7, 4), (28, 4), (29, 4), (7, 5), (28, 5), (29, 5), (7, 6), (28, 6), (29, 6), (7, 7), (28, 7), (29, 7), (109, 0), (44, 0), (45, 0), (46, 0), (47, 0), (48, 0), (49, 0), (50, 0), (51, 0), (52, 0), (53, 0), (54, 0), (55, 0)] _ s.heap _ _ := G
  obtain ⟨σ27, eσ27, hf⟩ := g_lt hf
  rw [← eσ27] at G
  refine g_mput C G 9 0 15 (0 : Int32) (by decide) rfl ginX9 tyX9_ok nmX9 (by decide) (g_vcr (K' := 55) (by decide)) ⟨rfl, rfl⟩ hnm rfl tw965 dX9_init_117 (fun H locs G => ?_)
  obtain ⟨σ28, eσ28, hf⟩ := g_lt hf
  rw [← eσ28] at G
  refine lv_aload_n C.x C.b dX9_init_120 rfl (lv_at hl 0 rfl) ?_
  refine lv_bipush (v := (20 : Int32)) C.x C.b dX9_init_121 (by decide) ?_
  refine g_size (fun hle => ?_)
  have hsz := g_szk (k := 11) (K := 55) (i := 0) G (by decide) hs hd11 hle
  refine g_newa (atype := .int) (ty := .int) (N := 20) C G 56 0 (t := 1) ⟨by decide, rfl, by decide⟩ ⟨rfl, rfl⟩ rfl (fun _ => rfl) tw211 (by decide) (by decide) rfl (by decide) (by decide) (hd12.trans hsz.symm) (Nat.le_of_ble_eq_true rfl) (Nat.le_of_ble_eq_true rfl) dX9_init_123 (fun H G => ?_)
  have G : g_H D cy A ad [(8, 0), (6, 0), (25, 0), (26, 0), (27, 0), (4, 0), (1, 0), (17, 0), (18, 0), (19, 0), (20, 0), (21, 0), (22, 0), (0, 0), (10, 0), (11, 0), (12, 0), (13, 0), (14, 0), (15, 0), (16, 0), (30, 0), (31, 0), (7, 0), (28, 0), (29, 0), (7, 1), (28, 1), (29, 1), (7, 2), (28, 2), (29, 2), (7, 3), (28, 3), (29, 3), (7, 4), (28, 4), (29, 4), (7, 5), (28, 5), (29, 5), (7, 6), (28, 6), (29, 6), (7, 7), (28, 7), (29, 7), (109, 0), (44, 0), (45, 0), (46, 0), (47, 0), (48, 0), (49, 0), (50, 0), (51, 0), (52, 0), (53, 0), (54, 0), (55, 0), (56, 0)] _ s.heap _ _ := G
  obtain ⟨σ29, eσ29, hf⟩ := g_lt hf
  rw [← eσ29] at G
  refine g_mput C G 9 0 16 (0 : Int32) (by decide) rfl ginX9 tyX9_ok nmX9 (by decide) (g_vcr (K' := 56) (by decide)) ⟨rfl, rfl⟩ hnm rfl tw966 dX9_init_125 (fun H locs G => ?_)
  obtain ⟨σ30, eσ30, hf⟩ := g_lt hf
  rw [← eσ30] at G
  refine lv_aload_n C.x C.b dX9_init_128 rfl (lv_at hl 0 rfl) ?_
  refine lv_bipush (v := (20 : Int32)) C.x C.b dX9_init_129 (by decide) ?_
  refine g_size (fun hle => ?_)
  have hsz := g_szk (k := 12) (K := 56) (i := 0) G (by decide) hs hd12 hle
  refine g_newa (atype := .int) (ty := .int) (N := 20) C G 57 0 (t := 1) ⟨by decide, rfl, by decide⟩ ⟨rfl, rfl⟩ rfl (fun _ => rfl) tw211 (by decide) (by decide) rfl (by decide) (by decide) (hd13.trans hsz.symm) (Nat.le_of_ble_eq_true rfl) (Nat.le_of_ble_eq_true rfl) dX9_init_131 (fun H G => ?_)
  have G : g_H D cy A ad [(8, 0), (6, 0), (25, 0), (26, 0), (27, 0), (4, 0), (1, 0), (17, 0), (18, 0), (19, 0), (20, 0), (21, 0), (22, 0), (0, 0), (10, 0), (11, 0), (12, 0), (13, 0), (14, 0), (15, 0), (16, 0), (30, 0), (31, 0), (7, 0), (28, 0), (29, 0), (7, 1), (28, 1), (29, 1), (7, 2), (28, 2), (29, 2), (7, 3), (28, 3), (29, 3), (7, 4), (28, 4), (29, 4), (7, 5), (28, 5), (29, 5), (7, 6), (28, 6), (29, 6), (7, 7), (28, 7), (29, 7), (109, 0), (44, 0), (45, 0), (46, 0), (47, 0), (48, 0), (49, 0), (50, 0), (51, 0), (52, 0), (53, 0), (54, 0), (55, 0), (56, 0), (57, 0)] _ s.heap _ _ := G
  obtain ⟨σ31, eσ31, hf⟩ := g_lt hf
  rw [← eσ31] at G
  refine g_mput C G 9 0 17 (0 : Int32) (by decide) rfl ginX9 tyX9_ok nmX9 (by decide) (g_vcr (K' := 57) (by decide)) ⟨rfl, rfl⟩ hnm rfl tw967 dX9_init_133 (fun H locs G => ?_)
  obtain ⟨σ32, eσ32, hf⟩ := g_lt hf
  rw [← eσ32] at G
  refine lv_aload_n C.x C.b dX9_init_136 rfl (lv_at hl 0 rfl) ?_
  refine lv_sipush (v := (4800 : Int32)) C.x C.b dX9_init_137 (by decide) ?_
  refine g_size (fun hle => ?_)
  have hsz := g_szk (k := 13) (K := 57) (i := 0) G (by decide) hs hd13 hle
  refine g_newa (atype := .int) (ty := .int) (N := 4800) C G 58 0 (t := 1) ⟨by decide, rfl, by decide⟩ ⟨rfl, rfl⟩ rfl (fun _ => rfl) tw211 (by decide) (by decide) rfl (by decide) (by decide) (hd14.trans hsz.symm) (Nat.le_of_ble_eq_true rfl) (Nat.le_of_ble_eq_true rfl) dX9_init_140 (fun H G => ?_)
  have G : g_H D cy A ad [(8, 0), (6, 0), (25, 0), (26, 0), (27, 0), (4, 0), (1, 0), (17, 0), (18, 0), (19, 0), (20, 0), (21, 0), (22, 0), (0, 0), (10, 0), (11, 0), (12, 0), (13, 0), (14, 0), (15, 0), (16, 0), (30, 0), (31, 0), (7, 0), (28, 0), (29, 0), (7, 1), (28, 1), (29, 1), (7, 2), (28, 2), (29, 2), (7, 3), (28, 3), (29, 3), (7, 4), (28, 4), (29, 4), (7, 5), (28, 5), (29, 5), (7, 6), (28, 6), (29, 6), (7, 7), (28, 7), (29, 7), (109, 0), (44, 0), (45, 0), (46, 0), (47, 0), (48, 0), (49, 0), (50, 0), (51, 0), (52, 0), (53, 0), (54, 0), (55, 0), (56, 0), (57, 0), (58, 0)] _ s.heap _ _ := G
  obtain ⟨σ33, eσ33, hf⟩ := g_lt hf
  rw [← eσ33] at G
  refine g_mput C G 9 0 18 (0 : Int32) (by decide) rfl ginX9 tyX9_ok nmX9 (by decide) (g_vcr (K' := 58) (by decide)) ⟨rfl, rfl⟩ hnm rfl tw968 dX9_init_142 (fun H locs G => ?_)
  obtain ⟨σ34, eσ34, hf⟩ := g_lt hf
  rw [← eσ34] at G
  refine lv_aload_n C.x C.b dX9_init_145 rfl (lv_at hl 0 rfl) ?_
  refine lv_sipush (v := (4800 : Int32)) C.x C.b dX9_init_146 (by decide) ?_
  refine g_size (fun hle => ?_)
  have hsz := g_szk (k := 14) (K := 58) (i := 0) G (by decide) hs hd14 hle
  refine g_newa (atype := .boolean) (ty := .boolean) (N := 4800) C G 59 0 (t := 2) ⟨by decide, rfl, by decide⟩ ⟨rfl, rfl⟩ rfl (fun _ => rfl) tw212 (by decide) (by decide) rfl (by decide) (by decide) (hd15.trans hsz.symm) (Nat.le_of_ble_eq_true rfl) (Nat.le_of_ble_eq_true rfl) dX9_init_149 (fun H G => ?_)
  have G : g_H D cy A ad [(8, 0), (6, 0), (25, 0), (26, 0), (27, 0), (4, 0), (1, 0), (17, 0), (18, 0), (19, 0), (20, 0), (21, 0), (22, 0), (0, 0), (10, 0), (11, 0), (12, 0), (13, 0), (14, 0), (15, 0), (16, 0), (30, 0), (31, 0), (7, 0), (28, 0), (29, 0), (7, 1), (28, 1), (29, 1), (7, 2), (28, 2), (29, 2), (7, 3), (28, 3), (29, 3), (7, 4), (28, 4), (29, 4), (7, 5), (28, 5), (29, 5), (7, 6), (28, 6), (29, 6), (7, 7), (28, 7), (29, 7), (109, 0), (44, 0), (45, 0), (46, 0), (47, 0), (48, 0), (49, 0), (50, 0), (51, 0), (52, 0), (53, 0), (54, 0), (55, 0), (56, 0), (57, 0), (58, 0), (59, 0)] _ s.heap _ _ := G
  obtain ⟨σ35, eσ35, hf⟩ := g_lt hf
  rw [← eσ35] at G
  refine g_mput C G 9 0 19 (0 : Int32) (by decide) rfl ginX9 tyX9_ok nmX9 (by decide) (g_vcr (K' := 59) (by decide)) ⟨rfl, rfl⟩ hnm rfl tw969 dX9_init_151 (fun H locs G => ?_)
  obtain ⟨σ36, eσ36, hf⟩ := g_lt hf
  rw [← eσ36] at G
  refine lv_aload_n C.x C.b dX9_init_154 rfl (lv_at hl 0 rfl) ?_
  refine lv_sipush (v := (4800 : Int32)) C.x C.b dX9_init_155 (by decide) ?_
  refine g_size (fun hle => ?_)
  have hsz := g_szk (k := 15) (K := 59) (i := 0) G (by decide) hs hd15 hle
  refine g_newa (atype := .int) (ty := .int) (N := 4800) C G 60 0 (t := 1) ⟨by decide, rfl, by decide⟩ ⟨rfl, rfl⟩ rfl (fun _ => rfl) tw211 (by decide) (by decide) rfl (by decide) (by decide) (hd16.trans hsz.symm) (Nat.le_of_ble_eq_true rfl) (Nat.le_of_ble_eq_true rfl) dX9_init_158 (fun H G => ?_)
  have G : g_H D cy A ad [(8, 0), (6, 0), (25, 0), (26, 0), (27, 0), (4, 0), (1, 0), (17, 0), (18, 0), (19, 0), (20, 0), (21, 0), (22, 0), (0, 0), (10, 0), (11, 0), (12, 0), (13, 0), (14, 0), (15, 0), (16, 0), (30, 0), (31, 0), (7, 0), (28, 0), (29, 0), (7, 1), (28, 1), (29, 1), (7, 2), (28, 2), (29, 2), (7, 3), (28, 3), (29, 3), (7, 4), (28, 4), (29, 4), (7, 5), (28, 5), (29, 5), (7, 6), (28, 6), (29, 6), (7, 7), (28, 7), (29, 7), (109, 0), (44, 0), (45, 0), (46, 0), (47, 0), (48, 0), (49, 0), (50, 0), (51, 0), (52, 0), (53, 0), (54, 0), (55, 0), (56, 0), (57, 0), (58, 0), (59, 0), (60, 0)] _ s.heap _ _ := G
  obtain ⟨σ37, eσ37, hf⟩ := g_lt hf
  rw [← eσ37] at G
  refine g_mput C G 9 0 20 (0 : Int32) (by decide) rfl ginX9 tyX9_ok nmX9 (by decide) (g_vcr (K' := 60) (by decide)) ⟨rfl, rfl⟩ hnm rfl tw970 dX9_init_160 (fun H locs G => ?_)
  obtain ⟨σ38, eσ38, hf⟩ := g_lt hf
  rw [← eσ38] at G
  refine lv_aload_n C.x C.b dX9_init_163 rfl (lv_at hl 0 rfl) ?_
  refine lv_iconst (v := (0 : Int32)) C.x C.b dX9_init_164 (by decide) ?_
  refine g_mput C G 9 0 21 (0 : Int32) (by decide) rfl ginX9 tyX9_ok nmX9 (by decide) (g_vci (by decide)) ⟨rfl, rfl⟩ hnm rfl tw971 dX9_init_165 (fun H locs G => ?_)
  obtain ⟨σ39, eσ39, hf⟩ := g_lt hf
  rw [← eσ39] at G
  refine lv_aload_n C.x C.b dX9_init_168 rfl (lv_at hl 0 rfl) ?_
  refine lv_iconst (v := (0 : Int32)) C.x C.b dX9_init_169 (by decide) ?_
  refine g_mput C G 9 0 22 (0 : Int32) (by decide) rfl ginX9 tyX9_ok nmX9 (by decide) (g_vci (by decide)) ⟨rfl, rfl⟩ hnm rfl tw972 dX9_init_170 (fun H locs G => ?_)
  obtain ⟨σ40, eσ40, hf⟩ := g_lt hf
  rw [← eσ40] at G
  refine lv_aload_n C.x C.b dX9_init_173 rfl (lv_at hl 0 rfl) ?_
  refine lv_iconst (v := (0 : Int32)) C.x C.b dX9_init_174 (by decide) ?_
  refine g_mput C G 9 0 23 (0 : Int32) (by decide) rfl ginX9 tyX9_ok nmX9 (by decide) (g_vci (by decide)) ⟨rfl, rfl⟩ hnm rfl tw973 dX9_init_175 (fun H locs G => ?_)
  obtain ⟨σ41, eσ41, hf⟩ := g_lt hf
  rw [← eσ41] at G
  refine lv_aload_n C.x C.b dX9_init_178 rfl (lv_at hl 0 rfl) ?_
  refine lv_iconst (v := (0 : Int32)) C.x C.b dX9_init_179 (by decide) ?_
  refine g_mput C G 9 0 24 (0 : Int32) (by decide) rfl ginX9 tyX9_ok nmX9 (by decide) (g_vci (by decide)) ⟨rfl, rfl⟩ hnm rfl tw974 dX9_init_180 (fun H locs G => ?_)
  obtain ⟨σ42, eσ42, hf⟩ := g_lt hf
  rw [← eσ42] at G
  refine lv_aload_n C.x C.b dX9_init_183 rfl (lv_at hl 0 rfl) ?_
  refine lv_iconst (v := (0 : Int32)) C.x C.b dX9_init_184 (by decide) ?_
  refine g_mput C G 9 0 25 (0 : Int32) (by decide) rfl ginX9 tyX9_ok nmX9 (by decide) (g_vci (by decide)) ⟨rfl, rfl⟩ hnm rfl tw975 dX9_init_185 (fun H locs G => ?_)
  obtain ⟨σ43, eσ43, hf⟩ := g_lt hf
  rw [← eσ43] at G
  refine lv_aload_n C.x C.b dX9_init_188 rfl (lv_at hl 0 rfl) ?_
  refine lv_iconst (v := (0 : Int32)) C.x C.b dX9_init_189 (by decide) ?_
  refine g_mput C G 9 0 26 (0 : Int32) (by decide) rfl ginX9 tyX9_ok nmX9 (by decide) (g_vci (by decide)) ⟨rfl, rfl⟩ hnm rfl tw976 dX9_init_190 (fun H locs G => ?_)
  obtain ⟨σ44, eσ44, hf⟩ := g_lt hf
  rw [← eσ44] at G
  refine lv_aload_n C.x C.b dX9_init_193 rfl (lv_at hl 0 rfl) ?_
  refine lv_bipush (v := (24 : Int32)) C.x C.b dX9_init_194 (by decide) ?_
  refine g_size (fun hle => ?_)
  have hsz := g_szk (k := 16) (K := 60) (i := 0) G (by decide) hs hd16 hle
  refine g_newa (atype := .int) (ty := .int) (N := 24) C G 67 0 (t := 1) ⟨by decide, rfl, by decide⟩ ⟨rfl, rfl⟩ rfl (fun _ => rfl) tw211 (by decide) (by decide) rfl (by decide) (by decide) (hd17.trans hsz.symm) (Nat.le_of_ble_eq_true rfl) (Nat.le_of_ble_eq_true rfl) dX9_init_196 (fun H G => ?_)
  have G : g_H D cy A ad [(8, 0), (6, 0), (25, 0), (26, 0), (27, 0), (4, 0), (1, 0), (17, 0), (18, 0), (19, 0), (20, 0), (21, 0), (22, 0), (0, 0), (10, 0), (11, 0), (12, 0), (13, 0), (14, 0), (15, 0), (16, 0), (30, 0), (31, 0), (7, 0), (28, 0), (29, 0), (7, 1), (28, 1), (29, 1), (7, 2), (28, 2), (29, 2), (7, 3), (28, 3), (29, 3), (7, 4), (28, 4), (29, 4), (7, 5), (28, 5), (29, 5), (7, 6), (28, 6), (29, 6), (7, 7), (28, 7), (29, 7), (109, 0), (44, 0), (45, 0), (46, 0), (47, 0), (48, 0), (49, 0), (50, 0), (51, 0), (52, 0), (53, 0), (54, 0), (55, 0), (56, 0), (57, 0), (58, 0), (59, 0), (60, 0), (67, 0)] _ s.heap _ _ := G
  obtain ⟨σ45, eσ45, hf⟩ := g_lt hf
  rw [← eσ45] at G
  refine g_mput C G 9 0 27 (0 : Int32) (by decide) rfl ginX9 tyX9_ok nmX9 (by decide) (g_vcr (K' := 67) (by decide)) ⟨rfl, rfl⟩ hnm rfl tw977 dX9_init_198 (fun H locs G => ?_)
  obtain ⟨σ46, eσ46, hf⟩ := g_lt hf
  rw [← eσ46] at G
  refine lv_aload_n C.x C.b dX9_init_201 rfl (lv_at hl 0 rfl) ?_
  refine lv_bipush (v := (24 : Int32)) C.x C.b dX9_init_202 (by decide) ?_
  refine g_size (fun hle => ?_)
  have hsz := g_szk (k := 17) (K := 67) (i := 0) G (by decide) hs hd17 hle
  refine g_newa (atype := .int) (ty := .int) (N := 24) C G 68 0 (t := 1) ⟨by decide, rfl, by decide⟩ ⟨rfl, rfl⟩ rfl (fun _ => rfl) tw211 (by decide) (by decide) rfl (by decide) (by decide) (hd18.trans hsz.symm) (Nat.le_of_ble_eq_true rfl) (Nat.le_of_ble_eq_true rfl) dX9_init_204 (fun H G => ?_)
  have G : g_H D cy A ad [(8, 0), (6, 0), (25, 0), (26, 0), (27, 0), (4, 0), (1, 0), (17, 0), (18, 0), (19, 0), (20, 0), (21, 0), (22, 0), (0, 0), (10, 0), (11, 0), (12, 0), (13, 0), (14, 0), (15, 0), (16, 0), (30, 0), (31, 0), (7, 0), (28, 0), (29, 0), (7, 1), (28, 1), (29, 1), (7, 2), (28, 2), (29, 2), (7, 3), (28, 3), (29, 3), (7, 4), (28, 4), (29, 4), (7, 5), (28, 5), (29, 5), (7, 6), (28, 6), (29, 6), (7, 7), (28, 7), (29, 7), (109, 0), (44, 0), (45, 0), (46, 0), (47, 0), (48, 0), (49, 0), (50, 0), (51, 0), (52, 0), (53, 0), (54, 0), (55, 0), (56, 0), (57, 0), (58, 0), (59, 0), (60, 0), (67, 0), (68, 0)] _ s.heap _ _ := G
  obtain ⟨σ47, eσ47, hf⟩ := g_lt hf
  rw [← eσ47] at G
  refine g_mput C G 9 0 28 (0 : Int32) (by decide) rfl ginX9 tyX9_ok nmX9 (by decide) (g_vcr (K' := 68) (by decide)) ⟨rfl, rfl⟩ hnm rfl tw978 dX9_init_206 (fun H locs G => ?_)
  obtain ⟨σ48, eσ48, hf⟩ := g_lt hf
  rw [← eσ48] at G
  refine lv_aload_n C.x C.b dX9_init_209 rfl (lv_at hl 0 rfl) ?_
  refine lv_iconst (v := (2 : Int32)) C.x C.b dX9_init_210 (by decide) ?_
  refine g_mput C G 9 0 29 (2 : Int32) (by decide) rfl ginX9 tyX9_ok nmX9 (by decide) (g_vci (by decide)) ⟨rfl, rfl⟩ hnm rfl tw979 dX9_init_211 (fun H locs G => ?_)
  obtain ⟨σ49, eσ49, hf⟩ := g_lt hf
  rw [← eσ49] at G
  refine lv_aload_n C.x C.b dX9_init_214 rfl (lv_at hl 0 rfl) ?_
  refine lv_iconst (v := (1 : Int32)) C.x C.b dX9_init_215 (by decide) ?_
  refine g_mput C G 9 0 30 (1 : Int32) (by decide) rfl ginX9 tyX9_ok nmX9 (by decide) (g_vci (by decide)) ⟨rfl, rfl⟩ hnm rfl tw980 dX9_init_216 (fun H locs G => ?_)
  obtain ⟨σ50, eσ50, hf⟩ := g_lt hf
  rw [← eσ50] at G
  refine lv_aload_n C.x C.b dX9_init_219 rfl (lv_at hl 0 rfl) ?_
  refine lv_bipush (v := (35 : Int32)) C.x C.b dX9_init_220 (by decide) ?_
  refine g_size (fun hle => ?_)
  have hsz := g_szk (k := 18) (K := 68) (i := 0) G (by decide) hs hd18 hle
  refine g_newa (atype := .int) (ty := .int) (N := 35) C G 71 0 (t := 1) ⟨by decide, rfl, by decide⟩ ⟨rfl, rfl⟩ rfl (fun _ => rfl) tw211 (by decide) (by decide) rfl (by decide) (by decide) (hd19.trans hsz.symm) (Nat.le_of_ble_eq_true rfl) (Nat.le_of_ble_eq_true rfl) dX9_init_222 (fun H G => ?_)
  have G : g_H D cy A ad [(8, 0), (6, 0), (25, 0), (26, 0), (27, 0), (4, 0), (1, 0), (17, 0), (18, 0), (19, 0), (20, 0), (21, 0), (22, 0), (0, 0), (10, 0), (11, 0), (12, 0), (13, 0), (14, 0), (15, 0), (16, 0), (30, 0), (31, 0), (7, 0), (28, 0), (29, 0), (7, 1), (28, 1), (29, 1), (7, 2), (28, 2), (29, 2), (7, 3), (28, 3), (29, 3), (7, 4), (28, 4), (29, 4), (7, 5), (28, 5), (29, 5), (7, 6), (28, 6), (29, 6), (7, 7), (28, 7), (29, 7), (109, 0), (44, 0), (45, 0), (46, 0), (47, 0), (48, 0), (49, 0), (50, 0), (51, 0), (52, 0), (53, 0), (54, 0), (55, 0), (56, 0), (57, 0), (58, 0), (59, 0), (60, 0), (67, 0), (68, 0), (71, 0)] _ s.heap _ _ := G
  obtain ⟨σ51, eσ51, hf⟩ := g_lt hf
  rw [← eσ51] at G
  refine g_mput C G 9 0 31 (0 : Int32) (by decide) rfl ginX9 tyX9_ok nmX9 (by decide) (g_vcr (K' := 71) (by decide)) ⟨rfl, rfl⟩ hnm rfl tw981 dX9_init_224 (fun H locs G => ?_)
  obtain ⟨σ52, eσ52, hf⟩ := g_lt hf
  rw [← eσ52] at G
  refine lv_aload_n C.x C.b dX9_init_227 rfl (lv_at hl 0 rfl) ?_
  refine lv_bipush (v := (35 : Int32)) C.x C.b dX9_init_228 (by decide) ?_
  refine g_size (fun hle => ?_)
  have hsz := g_szk (k := 19) (K := 71) (i := 0) G (by decide) hs hd19 hle
  refine g_newa (atype := .int) (ty := .int) (N := 35) C G 72 0 (t := 1) ⟨by decide, rfl, by decide⟩ ⟨rfl, rfl⟩ rfl (fun _ => rfl) tw211 (by decide) (by decide) rfl (by decide) (by decide) (hd20.trans hsz.symm) (Nat.le_of_ble_eq_true rfl) (Nat.le_of_ble_eq_true rfl) dX9_init_230 (fun H G => ?_)
  have G : g_H D cy A ad [(8, 0), (6, 0), (25, 0), (26, 0), (27, 0), (4, 0), (1, 0), (17, 0), (18, 0), (19, 0), (20, 0), (21, 0), (22, 0), (0, 0), (10, 0), (11, 0), (12, 0), (13, 0), (14, 0), (15, 0), (16, 0), (30, 0), (31, 0), (7, 0), (28, 0), (29, 0), (7, 1), (28, 1), (29, 1), (7, 2), (28, 2), (29, 2), (7, 3), (28, 3), (29, 3), (7, 4), (28, 4), (29, 4), (7, 5), (28, 5), (29, 5), (7, 6), (28, 6), (29, 6), (7, 7), (28, 7), (29, 7), (109, 0), (44, 0), (45, 0), (46, 0), (47, 0), (48, 0), (49, 0), (50, 0), (51, 0), (52, 0), (53, 0), (54, 0), (55, 0), (56, 0), (57, 0), (58, 0), (59, 0), (60, 0), (67, 0), (68, 0), (71, 0), (72, 0)] _ s.heap _ _ := G
  obtain ⟨σ53, eσ53, hf⟩ := g_lt hf
  rw [← eσ53] at G
  refine g_mput C G 9 0 32 (0 : Int32) (by decide) rfl ginX9 tyX9_ok nmX9 (by decide) (g_vcr (K' := 72) (by decide)) ⟨rfl, rfl⟩ hnm rfl tw982 dX9_init_232 (fun H locs G => ?_)
  obtain ⟨σ54, eσ54, hf⟩ := g_lt hf
  rw [← eσ54] at G
  refine lv_aload_n C.x C.b dX9_init_235 rfl (lv_at hl 0 rfl) ?_
  refine lv_bipush (v := (35 : Int32)) C.x C.b dX9_init_236 (by decide) ?_
  refine g_size (fun hle => ?_)
  have hsz := g_szk (k := 20) (K := 72) (i := 0) G (by decide) hs hd20 hle
  refine g_newa (atype := .int) (ty := .int) (N := 35) C G 73 0 (t := 1) ⟨by decide, rfl, by decide⟩ ⟨rfl, rfl⟩ rfl (fun _ => rfl) tw211 (by decide) (by decide) rfl (by decide) (by decide) (hd21.trans hsz.symm) (Nat.le_of_ble_eq_true rfl) (Nat.le_of_ble_eq_true rfl) dX9_init_238 (fun H G => ?_)
  have G : g_H D cy A ad [(8, 0), (6, 0), (25, 0), (26, 0), (27, 0), (4, 0), (1, 0), (17, 0), (18, 0), (19, 0), (20, 0), (21, 0), (22, 0), (0, 0), (10, 0), (11, 0), (12, 0), (13, 0), (14, 0), (15, 0), (16, 0), (30, 0), (31, 0), (7, 0), (28, 0), (29, 0), (7, 1), (28, 1), (29, 1), (7, 2), (28, 2), (29, 2), (7, 3), (28, 3), (29, 3), (7, 4), (28, 4), (29, 4), (7, 5), (28, 5), (29, 5), (7, 6), (28, 6), (29, 6), (7, 7), (28, 7), (29, 7), (109, 0), (44, 0), (45, 0), (46, 0), (47, 0), (48, 0), (49, 0), (50, 0), (51, 0), (52, 0), (53, 0), (54, 0), (55, 0), (56, 0), (57, 0), (58, 0), (59, 0), (60, 0), (67, 0), (68, 0), (71, 0), (72, 0), (73, 0)] _ s.heap _ _ := G
  obtain ⟨σ55, eσ55, hf⟩ := g_lt hf
  rw [← eσ55] at G
  refine g_mput C G 9 0 33 (0 : Int32) (by decide) rfl ginX9 tyX9_ok nmX9 (by decide) (g_vcr (K' := 73) (by decide)) ⟨rfl, rfl⟩ hnm rfl tw983 dX9_init_240 (fun H locs G => ?_)
  obtain ⟨σ56, eσ56, hf⟩ := g_lt hf
  rw [← eσ56] at G
  refine lv_aload_n C.x C.b dX9_init_243 rfl (lv_at hl 0 rfl) ?_
  refine lv_iconst (v := (4 : Int32)) C.x C.b dX9_init_244 (by decide) ?_
  refine g_size (fun hle => ?_)
  have hsz := g_szk (k := 21) (K := 73) (i := 0) G (by decide) hs hd21 hle
  refine g_newa (atype := .int) (ty := .int) (N := 4) C G 74 0 (t := 1) ⟨by decide, rfl, by decide⟩ ⟨rfl, rfl⟩ rfl (fun _ => rfl) tw211 (by decide) (by decide) rfl (by decide) (by decide) (hd22.trans hsz.symm) (Nat.le_of_ble_eq_true rfl) (Nat.le_of_ble_eq_true rfl) dX9_init_245 (fun H G => ?_)
  have G : g_H D cy A ad [(8, 0), (6, 0), (25, 0), (26, 0), (27, 0), (4, 0), (1, 0), (17, 0), (18, 0), (19, 0), (20, 0), (21, 0), (22, 0), (0, 0), (10, 0), (11, 0), (12, 0), (13, 0), (14, 0), (15, 0), (16, 0), (30, 0), (31, 0), (7, 0), (28, 0), (29, 0), (7, 1), (28, 1), (29, 1), (7, 2), (28, 2), (29, 2), (7, 3), (28, 3), (29, 3), (7, 4), (28, 4), (29, 4), (7, 5), (28, 5), (29, 5), (7, 6), (28, 6), (29, 6), (7, 7), (28, 7), (29, 7), (109, 0), (44, 0), (45, 0), (46, 0), (47, 0), (48, 0), (49, 0), (50, 0), (51, 0), (52, 0), (53, 0), (54, 0), (55, 0), (56, 0), (57, 0), (58, 0), (59, 0), (60, 0), (67, 0), (68, 0), (71, 0), (72, 0), (73, 0), (74, 0)] _ s.heap _ _ := G
  obtain ⟨σ57, eσ57, hf⟩ := g_lt hf
  rw [← eσ57] at G
  refine g_mput C G 9 0 34 (0 : Int32) (by decide) rfl ginX9 tyX9_ok nmX9 (by decide) (g_vcr (K' := 74) (by decide)) ⟨rfl, rfl⟩ hnm rfl tw984 dX9_init_247 (fun H locs G => ?_)
  obtain ⟨σ58, eσ58, hf⟩ := g_lt hf
  rw [← eσ58] at G
  refine lv_aload_n C.x C.b dX9_init_250 rfl (lv_at hl 0 rfl) ?_
  refine lv_iconst (v := (4 : Int32)) C.x C.b dX9_init_251 (by decide) ?_
  refine g_size (fun hle => ?_)
  have hsz := g_szk (k := 22) (K := 74) (i := 0) G (by decide) hs hd22 hle
  refine g_newa (atype := .int) (ty := .int) (N := 4) C G 75 0 (t := 1) ⟨by decide, rfl, by decide⟩ ⟨rfl, rfl⟩ rfl (fun _ => rfl) tw211 (by decide) (by decide) rfl (by decide) (by decide) (hd23.trans hsz.symm) (Nat.le_of_ble_eq_true rfl) (Nat.le_of_ble_eq_true rfl) dX9_init_252 (fun H G => ?_)
  have G : g_H D cy A ad [(8, 0), (6, 0), (25, 0), (26, 0), (27, 0), (4, 0), (1, 0), (17, 0), (18, 0), (19, 0), (20, 0), (21, 0), (22, 0), (0, 0), (10, 0), (11, 0), (12, 0), (13, 0), (14, 0), (15, 0), (16, 0), (30, 0), (31, 0), (7, 0), (28, 0), (29, 0), (7, 1), (28, 1), (29, 1), (7, 2), (28, 2), (29, 2), (7, 3), (28, 3), (29, 3), (7, 4), (28, 4), (29, 4), (7, 5), (28, 5), (29, 5), (7, 6), (28, 6), (29, 6), (7, 7), (28, 7), (29, 7), (109, 0), (44, 0), (45, 0), (46, 0), (47, 0), (48, 0), (49, 0), (50, 0), (51, 0), (52, 0), (53, 0), (54, 0), (55, 0), (56, 0), (57, 0), (58, 0), (59, 0), (60, 0), (67, 0), (68, 0), (71, 0), (72, 0), (73, 0), (74, 0), (75, 0)] _ s.heap _ _ := G
  obtain ⟨σ59, eσ59, hf⟩ := g_lt hf
  rw [← eσ59] at G
  refine g_mput C G 9 0 35 (0 : Int32) (by decide) rfl ginX9 tyX9_ok nmX9 (by decide) (g_vcr (K' := 75) (by decide)) ⟨rfl, rfl⟩ hnm rfl tw985 dX9_init_254 (fun H locs G => ?_)
  obtain ⟨σ60, eσ60, hf⟩ := g_lt hf
  rw [← eσ60] at G
  refine lv_aload_n C.x C.b dX9_init_257 rfl (lv_at hl 0 rfl) ?_
  refine lv_iconst (v := (2 : Int32)) C.x C.b dX9_init_258 (by decide) ?_
  refine g_size (fun hle => ?_)
  have hsz := g_szk (k := 23) (K := 75) (i := 0) G (by decide) hs hd23 hle
  refine g_newa (atype := .int) (ty := .int) (N := 2) C G 76 0 (t := 1) ⟨by decide, rfl, by decide⟩ ⟨rfl, rfl⟩ rfl (fun _ => rfl) tw211 (by decide) (by decide) rfl (by decide) (by decide) (hd24.trans hsz.symm) (Nat.le_of_ble_eq_true rfl) (Nat.le_of_ble_eq_true rfl) dX9_init_259 (fun H G => ?_)
  have G : g_H D cy A ad [(8, 0), (6, 0), (25, 0), (26, 0), (27, 0), (4, 0), (1, 0), (17, 0), (18, 0), (19, 0), (20, 0), (21, 0), (22, 0), (0, 0), (10, 0), (11, 0), (12, 0), (13, 0), (14, 0), (15, 0), (16, 0), (30, 0), (31, 0), (7, 0), (28, 0), (29, 0), (7, 1), (28, 1), (29, 1), (7, 2), (28, 2), (29, 2), (7, 3), (28, 3), (29, 3), (7, 4), (28, 4), (29, 4), (7, 5), (28, 5), (29, 5), (7, 6), (28, 6), (29, 6), (7, 7), (28, 7), (29, 7), (109, 0), (44, 0), (45, 0), (46, 0), (47, 0), (48, 0), (49, 0), (50, 0), (51, 0), (52, 0), (53, 0), (54, 0), (55, 0), (56, 0), (57, 0), (58, 0), (59, 0), (60, 0), (67, 0), (68, 0), (71, 0), (72, 0), (73, 0), (74, 0), (75, 0), (76, 0)] _ s.heap _ _ := G
  obtain ⟨σ61, eσ61, hf⟩ := g_lt hf
  rw [← eσ61] at G
  refine g_mput C G 9 0 36 (0 : Int32) (by decide) rfl ginX9 tyX9_ok nmX9 (by decide) (g_vcr (K' := 76) (by decide)) ⟨rfl, rfl⟩ hnm rfl tw986 dX9_init_261 (fun H locs G => ?_)
  obtain ⟨σ62, eσ62, hf⟩ := g_lt hf
  rw [← eσ62] at G
  refine lv_aload_n C.x C.b dX9_init_264 rfl (lv_at hl 0 rfl) ?_
  refine lv_iconst (v := (2 : Int32)) C.x C.b dX9_init_265 (by decide) ?_
  refine g_size (fun hle => ?_)
  have hsz := g_szk (k := 24) (K := 76) (i := 0) G (by decide) hs hd24 hle
  refine g_newa (atype := .int) (ty := .int) (N := 2) C G 77 0 (t := 1) ⟨by decide, rfl, by decide⟩ ⟨rfl, rfl⟩ rfl (fun _ => rfl) tw211 (by decide) (by decide) rfl (by decide) (by decide) (hd25.trans hsz.symm) (Nat.le_of_ble_eq_true rfl) (Nat.le_of_ble_eq_true rfl) dX9_init_266 (fun H G => ?_)
  have G : g_H D cy A ad [(8, 0), (6, 0), (25, 0), (26, 0), (27, 0), (4, 0), (1, 0), (17, 0), (18, 0), (19, 0), (20, 0), (21, 0), (22, 0), (0, 0), (10, 0), (11, 0), (12, 0), (13, 0), (14, 0), (15, 0), (16, 0), (30, 0), (31, 0), (7, 0), (28, 0), (29, 0), (7, 1), (28, 1), (29, 1), (7, 2), (28, 2), (29, 2), (7, 3), (28, 3), (29, 3), (7, 4), (28, 4), (29, 4), (7, 5), (28, 5), (29, 5), (7, 6), (28, 6), (29, 6), (7, 7), (28, 7), (29, 7), (109, 0), (44, 0), (45, 0), (46, 0), (47, 0), (48, 0), (49, 0), (50, 0), (51, 0), (52, 0), (53, 0), (54, 0), (55, 0), (56, 0), (57, 0), (58, 0), (59, 0), (60, 0), (67, 0), (68, 0), (71, 0), (72, 0), (73, 0), (74, 0), (75, 0), (76, 0), (77, 0)] _ s.heap _ _ := G
  obtain ⟨σ63, eσ63, hf⟩ := g_lt hf
  rw [← eσ63] at G
  refine g_mput C G 9 0 37 (0 : Int32) (by decide) rfl ginX9 tyX9_ok nmX9 (by decide) (g_vcr (K' := 77) (by decide)) ⟨rfl, rfl⟩ hnm rfl tw987 dX9_init_268 (fun H locs G => ?_)
  obtain ⟨σ64, eσ64, hf⟩ := g_lt hf
  rw [← eσ64] at G
  refine lv_aload_n C.x C.b dX9_init_271 rfl (lv_at hl 0 rfl) ?_
  refine lv_iconst (v := (0 : Int32)) C.x C.b dX9_init_272 (by decide) ?_
  refine g_mput C G 9 0 38 (0 : Int32) (by decide) rfl ginX9 tyX9_ok nmX9 (by decide) (g_vci (by decide)) ⟨rfl, rfl⟩ hnm rfl tw988 dX9_init_273 (fun H locs G => ?_)
  obtain ⟨σ65, eσ65, hf⟩ := g_lt hf
  rw [← eσ65] at G
  refine lv_aload_n C.x C.b dX9_init_276 rfl (lv_at hl 0 rfl) ?_
  refine lv_iconst (v := (4 : Int32)) C.x C.b dX9_init_277 (by decide) ?_
  refine g_size (fun hle => ?_)
  have hsz := g_szk (k := 25) (K := 77) (i := 0) G (by decide) hs hd25 hle
  refine g_newa (atype := .boolean) (ty := .boolean) (N := 4) C G 79 0 (t := 2) ⟨by decide, rfl, by decide⟩ ⟨rfl, rfl⟩ rfl (fun _ => rfl) tw212 (by decide) (by decide) rfl (by decide) (by decide) (hd26.trans hsz.symm) (Nat.le_of_ble_eq_true rfl) (Nat.le_of_ble_eq_true rfl) dX9_init_278 (fun H G => ?_)
  have G : g_H D cy A ad [(8, 0), (6, 0), (25, 0), (26, 0), (27, 0), (4, 0), (1, 0), (17, 0), (18, 0), (19, 0), (20, 0), (21, 0), (22, 0), (0, 0), (10, 0), (11, 0), (12, 0), (13, 0), (14, 0), (15, 0), (16, 0), (30, 0), (31, 0), (7, 0), (28, 0), (29, 0), (7, 1), (28, 1), (29, 1), (7, 2), (28, 2), (29, 2), (7, 3), (28, 3), (29, 3), (7, 4), (28, 4), (29, 4), (7, 5), (28, 5), (29, 5), (7, 6), (28, 6), (29, 6), (7, 7), (28, 7), (29, 7), (109, 0), (44, 0), (45, 0), (46, 0), (47, 0), (48, 0), (49, 0), (50, 0), (51, 0), (52, 0), (53, 0), (54, 0), (55, 0), (56, 0), (57, 0), (58, 0), (59, 0), (60, 0), (67, 0), (68, 0), (71, 0), (72, 0), (73, 0), (74, 0), (75, 0), (76, 0), (77, 0), (79, 0)] _ s.heap _ _ := G
  obtain ⟨σ66, eσ66, hf⟩ := g_lt hf
  rw [← eσ66] at G
  refine g_mput C G 9 0 39 (0 : Int32) (by decide) rfl ginX9 tyX9_ok nmX9 (by decide) (g_vcr (K' := 79) (by decide)) ⟨rfl, rfl⟩ hnm rfl tw989 dX9_init_280 (fun H locs G => ?_)
  obtain ⟨σ67, eσ67, hf⟩ := g_lt hf
  rw [← eσ67] at G
  refine lv_aload_n C.x C.b dX9_init_283 rfl (lv_at hl 0 rfl) ?_
  refine lv_bipush (v := (8 : Int32)) C.x C.b dX9_init_284 (by decide) ?_
  refine g_size (fun hle => ?_)
  have hsz := g_szk (k := 26) (K := 79) (i := 0) G (by decide) hs hd26 hle
  refine g_newa (atype := .int) (ty := .int) (N := 8) C G 80 0 (t := 1) ⟨by decide, rfl, by decide⟩ ⟨rfl, rfl⟩ rfl (fun _ => rfl) tw211 (by decide) (by decide) rfl (by decide) (by decide) (hd27.trans hsz.symm) (Nat.le_of_ble_eq_true rfl) (Nat.le_of_ble_eq_true rfl) dX9_init_286 (fun H G => ?_)
  have G : g_H D cy A ad [(8, 0), (6, 0), (25, 0), (26, 0), (27, 0), (4, 0), (1, 0), (17, 0), (18, 0), (19, 0), (20, 0), (21, 0), (22, 0), (0, 0), (10, 0), (11, 0), (12, 0), (13, 0), (14, 0), (15, 0), (16, 0), (30, 0), (31, 0), (7, 0), (28, 0), (29, 0), (7, 1), (28, 1), (29, 1), (7, 2), (28, 2), (29, 2), (7, 3), (28, 3), (29, 3), (7, 4), (28, 4), (29, 4), (7, 5), (28, 5), (29, 5), (7, 6), (28, 6), (29, 6), (7, 7), (28, 7), (29, 7), (109, 0), (44, 0), (45, 0), (46, 0), (47, 0), (48, 0), (49, 0), (50, 0), (51, 0), (52, 0), (53, 0), (54, 0), (55, 0), (56, 0), (57, 0), (58, 0), (59, 0), (60, 0), (67, 0), (68, 0), (71, 0), (72, 0), (73, 0), (74, 0), (75, 0), (76, 0), (77, 0), (79, 0), (80, 0)] _ s.heap _ _ := G
  obtain ⟨σ68, eσ68, hf⟩ := g_lt hf
  rw [← eσ68] at G
  refine g_mput C G 9 0 40 (0 : Int32) (by decide) rfl ginX9 tyX9_ok nmX9 (by decide) (g_vcr (K' := 80) (by decide)) ⟨rfl, rfl⟩ hnm rfl tw990 dX9_init_288 (fun H locs G => ?_)
  obtain ⟨σ69, eσ69, hf⟩ := g_lt hf
  rw [← eσ69] at G
  refine lv_aload_n C.x C.b dX9_init_291 rfl (lv_at hl 0 rfl) ?_
  refine lv_bipush (v := (8 : Int32)) C.x C.b dX9_init_292 (by decide) ?_
  refine g_size (fun hle => ?_)
  have hsz := g_szk (k := 27) (K := 80) (i := 0) G (by decide) hs hd27 hle
  refine g_newa (atype := .int) (ty := .int) (N := 8) C G 81 0 (t := 1) ⟨by decide, rfl, by decide⟩ ⟨rfl, rfl⟩ rfl (fun _ => rfl) tw211 (by decide) (by decide) rfl (by decide) (by decide) (hd28.trans hsz.symm) (Nat.le_of_ble_eq_true rfl) (Nat.le_of_ble_eq_true rfl) dX9_init_294 (fun H G => ?_)
  have G : g_H D cy A ad [(8, 0), (6, 0), (25, 0), (26, 0), (27, 0), (4, 0), (1, 0), (17, 0), (18, 0), (19, 0), (20, 0), (21, 0), (22, 0), (0, 0), (10, 0), (11, 0), (12, 0), (13, 0), (14, 0), (15, 0), (16, 0), (30, 0), (31, 0), (7, 0), (28, 0), (29, 0), (7, 1), (28, 1), (29, 1), (7, 2), (28, 2), (29, 2), (7, 3), (28, 3), (29, 3), (7, 4), (28, 4), (29, 4), (7, 5), (28, 5), (29, 5), (7, 6), (28, 6), (29, 6), (7, 7), (28, 7), (29, 7), (109, 0), (44, 0), (45, 0), (46, 0), (47, 0), (48, 0), (49, 0), (50, 0), (51, 0), (52, 0), (53, 0), (54, 0), (55, 0), (56, 0), (57, 0), (58, 0), (59, 0), (60, 0), (67, 0), (68, 0), (71, 0), (72, 0), (73, 0), (74, 0), (75, 0), (76, 0), (77, 0), (79, 0), (80, 0), (81, 0)] _ s.heap _ _ := G
  obtain ⟨σ70, eσ70, hf⟩ := g_lt hf
  rw [← eσ70] at G
  refine g_mput C G 9 0 41 (0 : Int32) (by decide) rfl ginX9 tyX9_ok nmX9 (by decide) (g_vcr (K' := 81) (by decide)) ⟨rfl, rfl⟩ hnm rfl tw991 dX9_init_296 (fun H locs G => ?_)
  obtain ⟨σ71, eσ71, hf⟩ := g_lt hf
  rw [← eσ71] at G
  refine lv_aload_n C.x C.b dX9_init_299 rfl (lv_at hl 0 rfl) ?_
  refine lv_bipush (v := (8 : Int32)) C.x C.b dX9_init_300 (by decide) ?_
  refine g_size (fun hle => ?_)
  have hsz := g_szk (k := 28) (K := 81) (i := 0) G (by decide) hs hd28 hle
  refine g_newa (atype := .int) (ty := .int) (N := 8) C G 82 0 (t := 1) ⟨by decide, rfl, by decide⟩ ⟨rfl, rfl⟩ rfl (fun _ => rfl) tw211 (by decide) (by decide) rfl (by decide) (by decide) (hd29.trans hsz.symm) (Nat.le_of_ble_eq_true rfl) (Nat.le_of_ble_eq_true rfl) dX9_init_302 (fun H G => ?_)
  have G : g_H D cy A ad [(8, 0), (6, 0), (25, 0), (26, 0), (27, 0), (4, 0), (1, 0), (17, 0), (18, 0), (19, 0), (20, 0), (21, 0), (22, 0), (0, 0), (10, 0), (11, 0), (12, 0), (13, 0), (14, 0), (15, 0), (16, 0), (30, 0), (31, 0), (7, 0), (28, 0), (29, 0), (7, 1), (28, 1), (29, 1), (7, 2), (28, 2), (29, 2), (7, 3), (28, 3), (29, 3), (7, 4), (28, 4), (29, 4), (7, 5), (28, 5), (29, 5), (7, 6), (28, 6), (29, 6), (7, 7), (28, 7), (29, 7), (109, 0), (44, 0), (45, 0), (46, 0), (47, 0), (48, 0), (49, 0), (50, 0), (51, 0), (52, 0), (53, 0), (54, 0), (55, 0), (56, 0), (57, 0), (58, 0), (59, 0), (60, 0), (67, 0), (68, 0), (71, 0), (72, 0), (73, 0), (74, 0), (75, 0), (76, 0), (77, 0), (79, 0), (80, 0), (81, 0), (82, 0)] _ s.heap _ _ := G
  obtain ⟨σ72, eσ72, hf⟩ := g_lt hf
  rw [← eσ72] at G
  refine g_mput C G 9 0 42 (0 : Int32) (by decide) rfl ginX9 tyX9_ok nmX9 (by decide) (g_vcr (K' := 82) (by decide)) ⟨rfl, rfl⟩ hnm rfl tw992 dX9_init_304 (fun H locs G => ?_)
  obtain ⟨σ73, eσ73, hf⟩ := g_lt hf
  rw [← eσ73] at G
  refine lv_aload_n C.x C.b dX9_init_307 rfl (lv_at hl 0 rfl) ?_
  refine lv_sipush (v := (1600 : Int32)) C.x C.b dX9_init_308 (by decide) ?_
  refine g_size (fun hle => ?_)
  have hsz := g_szk (k := 29) (K := 82) (i := 0) G (by decide) hs hd29 hle
  refine g_newa (atype := .int) (ty := .int) (N := 1600) C G 83 0 (t := 1) ⟨by decide, rfl, by decide⟩ ⟨rfl, rfl⟩ rfl (fun _ => rfl) tw211 (by decide) (by decide) rfl (by decide) (by decide) (hd30.trans hsz.symm) (Nat.le_of_ble_eq_true rfl) (Nat.le_of_ble_eq_true rfl) dX9_init_311 (fun H G => ?_)
  have G : g_H D cy A ad [(8, 0), (6, 0), (25, 0), (26, 0), (27, 0), (4, 0), (1, 0), (17, 0), (18, 0), (19, 0), (20, 0), (21, 0), (22, 0), (0, 0), (10, 0), (11, 0), (12, 0), (13, 0), (14, 0), (15, 0), (16, 0), (30, 0), (31, 0), (7, 0), (28, 0), (29, 0), (7, 1), (28, 1), (29, 1), (7, 2), (28, 2), (29, 2), (7, 3), (28, 3), (29, 3), (7, 4), (28, 4), (29, 4), (7, 5), (28, 5), (29, 5), (7, 6), (28, 6), (29, 6), (7, 7), (28, 7), (29, 7), (109, 0), (44, 0), (45, 0), (46, 0), (47, 0), (48, 0), (49, 0), (50, 0), (51, 0), (52, 0), (53, 0), (54, 0), (55, 0), (56, 0), (57, 0), (58, 0), (59, 0), (60, 0), (67, 0), (68, 0), (71, 0), (72, 0), (73, 0), (74, 0), (75, 0), (76, 0), (77, 0), (79, 0), (80, 0), (81, 0), (82, 0), (83, 0)] _ s.heap _ _ := G
  obtain ⟨σ74, eσ74, hf⟩ := g_lt hf
  rw [← eσ74] at G
  refine g_mput C G 9 0 43 (0 : Int32) (by decide) rfl ginX9 tyX9_ok nmX9 (by decide) (g_vcr (K' := 83) (by decide)) ⟨rfl, rfl⟩ hnm rfl tw993 dX9_init_313 (fun H locs G => ?_)
  obtain ⟨σ75, eσ75, hf⟩ := g_lt hf
  rw [← eσ75] at G
  refine lv_aload_n C.x C.b dX9_init_316 rfl (lv_at hl 0 rfl) ?_
  refine lv_sipush (v := (200 : Int32)) C.x C.b dX9_init_317 (by decide) ?_
  refine g_size (fun hle => ?_)
  have hsz := g_szk (k := 30) (K := 83) (i := 0) G (by decide) hs hd30 hle
  refine g_newa (atype := .int) (ty := .int) (N := 200) C G 84 0 (t := 1) ⟨by decide, rfl, by decide⟩ ⟨rfl, rfl⟩ rfl (fun _ => rfl) tw211 (by decide) (by decide) rfl (by decide) (by decide) (hd31.trans hsz.symm) (Nat.le_of_ble_eq_true rfl) (Nat.le_of_ble_eq_true rfl) dX9_init_320 (fun H G => ?_)
  have G : g_H D cy A ad [(8, 0), (6, 0), (25, 0), (26, 0), (27, 0), (4, 0), (1, 0), (17, 0), (18, 0), (19, 0), (20, 0), (21, 0), (22, 0), (0, 0), (10, 0), (11, 0), (12, 0), (13, 0), (14, 0), (15, 0), (16, 0), (30, 0), (31, 0), (7, 0), (28, 0), (29, 0), (7, 1), (28, 1), (29, 1), (7, 2), (28, 2), (29, 2), (7, 3), (28, 3), (29, 3), (7, 4), (28, 4), (29, 4), (7, 5), (28, 5), (29, 5), (7, 6), (28, 6), (29, 6), (7, 7), (28, 7), (29, 7), (109, 0), (44, 0), (45, 0), (46, 0), (47, 0), (48, 0), (49, 0), (50, 0), (51, 0), (52, 0), (53, 0), (54, 0), (55, 0), (56, 0), (57, 0), (58, 0), (59, 0), (60, 0), (67, 0), (68, 0), (71, 0), (72, 0), (73, 0), (74, 0), (75, 0), (76, 0), (77, 0), (79, 0), (80, 0), (81, 0), (82, 0), (83, 0), (84, 0)] _ s.heap _ _ := G
  obtain ⟨σ76, eσ76, hf⟩ := g_lt hf
  rw [← eσ76] at G
  refine g_mput C G 9 0 44 (0 : Int32) (by decide) rfl ginX9 tyX9_ok nmX9 (by decide) (g_vcr (K' := 84) (by decide)) ⟨rfl, rfl⟩ hnm rfl tw994 dX9_init_322 (fun H locs G => ?_)
  obtain ⟨σ77, eσ77, hf⟩ := g_lt hf
  rw [← eσ77] at G
  refine lv_iconst (v := (0 : Int32)) C.x C.b dX9_init_325 (by decide) ?_
  refine lv_istore_n (lv' := [(1, .int (0 : Int32)), (0, .ref (ad 109 0))]) C.x C.b dX9_init_326 rfl hl (by decide) rfl (fun ls hl => ?_)
  exact lp327 g_fuel σ77 (0 : Int32) _ _ ls G (lv_sub hl [1, 0] rfl) hf
