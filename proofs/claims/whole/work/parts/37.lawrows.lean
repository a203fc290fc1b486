/-! THE LAW'S OWN ROWS: its world is the two systems' and its row of one long at b -/
def l_A (s : State) (b : Nat) : Nat → Prop := fun q => s.heap.size ≤ q ∧ q ≠ b
def l_E (D : va_G) (cy : Nat → ClassId) (cJ : ClassId) (b : Nat) (f : Nat → Int64) (ad : gA) (L : gL) (σ : gS) (s : State) (H : Heap) (locs : List Loc) : Prop := (va_P D vwCl (g_ws cy ad L σ) H ∧ va_D (l_A s b) (g_ws cy ad L σ) ∧ g_Cl L σ) ∧ g_O cJ b f (l_A s b) H ∧ va_S (fun q => s.heap.size ≤ q) s.heap H locs ∧ s.heap.size ≤ b
def l_C (D : va_G) (cy : Nat → ClassId) (cJ : ClassId) (p : Program) (m : MethodId) (c : Code) (s : State) (args : Array Value) : Prop := CallFix p m c code 8 s args lw_good "OfficeLadderLaw" ∧ (va_K D vwCl (g_tys cy) s ∧ g_N s) ∧ ArrOfT s cJ .long ∧ va_RA s cJ .long
def l_S (bs Ls : Nat) (xs : Nat → Int32) (s : State) : Prop := va_X bs Ls xs s s.heap ∧ bs < s.heap.size
theorem l_C.b {D : va_G} {cy : Nat → ClassId} {cJ : ClassId} {p : Program} {m : MethodId} {c : Code} {s : State} {args : Array Value} (C : l_C D cy cJ p m c s args) : c.code = code := C.1.2.1
section LR
variable {p : Program} {l : Launch} {e : Env} {R : Room} {s : State} {m : MethodId} {args : Array Value} {below : List Frame} {meth : Method} {c : Code} {H : Heap} {locs : List Loc} {cells slots : Nat} {Q : State → Prop}
variable {D : va_G} {cy : Nat → ClassId} {cJ : ClassId} {b : Nat} {f : Nat → Int64} {ad : gA} {L : gL} {σ σ0 : gS} {pc : Nat} {ls : Array Slot} {rest st : List Value}
variable {y : MethodName} {bytes : ByteArray} {maxL mc ms index : Nat} {ret : Option FieldType} {rm : Room} {Qc : Array Value → State → Outcome → State → Prop} {As : List Value} {a : Array Value}
theorem l_C.x (C : l_C D cy cJ p m c s args) : p.tables.exec = Jvm.exec := C.1.1
theorem l_E.lt (E : l_E D cy cJ b f ad L σ s H locs) : b < H.size := (Array.getElem?_eq_some_iff.mp E.2.1.1).1
theorem l_E.hA (E : l_E D cy cJ b f ad L σ s H locs) : ∀ q, H.size ≤ q → l_A s b q := fun q hq => ⟨Nat.le_trans E.2.2.1.1 hq, by have := E.lt; omega⟩
theorem l_bge (E : l_E D cy cJ b f ad L σ s H locs) : s.heap.size ≤ b := E.2.2.2
theorem l_pre (C : l_C D cy cJ p m c s args) (E : l_E D cy cJ b f ad L σ s H locs) : ∀ U : State, U.heap = H → s.WarmedH U.vm → g_Pre D cy (l_A s b) ad L σ U := fun U hU hW => ⟨⟨by rw [hU]; exact E.1.1, E.1.2.1, E.1.2.2⟩, ⟨va_K.moved hW.alike C.2.1.1, C.2.1.2.warm hW⟩, fun q hq => E.hA q (by rw [hU] at hq; exact hq)⟩
/-- behind a call that kept b -/
theorem l_back {ad2 : gA} {L2 : gL} {H1 : Heap} {locs1 : List Loc} {t : State} (E : l_E D cy cJ b f ad L σ s H locs) (ht : t.heap = H1) (hB : g_Pre D cy (l_A s b) ad2 L2 σ0 t) (hk : ∀ q : Nat, q < H.size → ¬ l_A s b q → H1[q]? = H[q]?) (hS : va_S (fun q => s.heap.size ≤ q) s.heap H1 locs1) : l_E D cy cJ b f ad2 L2 σ0 s H1 locs1 := by
  subst ht
  exact ⟨hB.1, ⟨by rw [hk b E.lt E.2.1.2]; exact E.2.1.1, E.2.1.2⟩, hS, E.2.2.2⟩
theorem l_recv (C : l_C D cy cJ p m c s args) (E : l_E D cy cJ b f ad L σ s H locs) {K i : Nat} {q : vw_C} (hL : (K, i) ∈ L) (hc : vwCl[K]? = some q) (hq : q.1 = y.cls ∧ K < 10) : ∃ cell : Cell, H[ad K i]? = some cell ∧ cell.vm.isStatics = false ∧ s.vm.findClass y.cls = some cell.cls := by
  obtain ⟨k, hk, hw⟩ := g_ws_at (cy := cy) (ad := ad) (σ := σ) hL
  rw [g_ct, if_pos hq.2] at hw
  have hrecv := va_recv C.2.1.1 E.1.1 hc hw
  rw [hq.1] at hrecv
  exact hrecv
theorem l_run (C : l_C D cy cJ p m c s args) (E : l_E D cy cJ b f ad L σ s H locs) (K i : Nat) (hM : Met l y (Cond.code y bytes maxL ret :: lw_good) rm (va_Pc (.ref (ad K i) :: As) (g_Pre D cy (l_A s b) ad L σ)) Qc mc ms (l_A s b)) (w : g_wV "OfficeLadderLaw" index y bytes maxL ret As.length) (hrm : g_rm rm R maxL mc ms) (hL : (K, i) ∈ L) {q : vw_C} (hc : vwCl[K]? = some q) (hq : q.1 = y.cls ∧ K < 10) (hls : ls.size = 8) (hst : st = As.reverse ++ .ref (ad K i) :: rest) (hW : (rest.map fun v => v.category).sum ≤ 8) (hdg : decode code pc = .ok (.invokevirtual index, 3)) (hf : cells + mc ≤ R.cells ∧ slots + ms ≤ R.slots) :
    va_Run p l e R s m args below meth c H locs cells slots mc ms (F0 m pc ls st) rest (Qc (Value.ref (ad K i) :: As).toArray) (l_A s b) := by
  obtain ⟨w1, w2, w3, w4, w5⟩ := w
  obtain ⟨r1, r2, r3, r4⟩ := hrm
  have hts := C.1.2.2.2.2
  exact va_runV (C := y.cls) C.1 hM ⟨callB_of As.length hts (g_good (y := y) (cc := bytes) (n := 0) (r := ret) w1) rfl r1 r2 (hts _ w2) (hts _ w3) w5 ⟨r3, r4⟩, hts _ w4.1, hts _ w4.2⟩ ⟨g_Pre.blind, l_recv C E hL hc hq, fun U hU hW => ⟨rfl, l_pre C E U hU hW⟩⟩ rfl rfl hls hst (by show 2 * 0 + _ ≤ 8; omega) hdg hf
theorem l_calli {r0 : Int32} (E : l_E D cy cJ b f ad L σ s H locs) (hr : va_Run p l e R s m args below meth c H locs cells slots mc ms (F0 m pc ls st) rest (va_Qi (fun r (u : gS) => r = r0 ∧ u = σ0) (g_Pre D cy (l_A s b) ad L) (l_A s b) a) (l_A s b))
    (kk : ∀ (H : Heap) (locs : List Loc), l_E D cy cJ b f ad L σ0 s H locs → W p l e R s m args below meth c H locs (cells + mc) (slots + ms) Q (F0 m (pc + 3) ls (.int r0 :: rest))) : W p l e R s m args below meth c H locs cells slots Q (F0 m pc ls st) := by
  refine va_calli hr E.2.2.1 (fun _ _ h => h.1) (fun _ h => h.1) fun r u t H1 locs1 ht hvm hp hB hz hk hS => ?_
  obtain ⟨rfl, rfl⟩ := hp
  exact kk _ _ (l_back E ht hB hk hS)
theorem l_calll {r0 : Int64} (E : l_E D cy cJ b f ad L σ s H locs) (hr : va_Run p l e R s m args below meth c H locs cells slots mc ms (F0 m pc ls st) rest (va_Ql (fun r (u : gS) => r = r0 ∧ u = σ0) (g_Pre D cy (l_A s b) ad L) (l_A s b) a) (l_A s b))
    (kk : ∀ (H : Heap) (locs : List Loc), l_E D cy cJ b f ad L σ0 s H locs → W p l e R s m args below meth c H locs (cells + mc) (slots + ms) Q (F0 m (pc + 3) ls (.long r0 :: rest))) : W p l e R s m args below meth c H locs cells slots Q (F0 m pc ls st) := by
  refine va_calll hr E.2.2.1 (fun _ _ h => h.1) (fun _ h => h.1) fun r u t H1 locs1 ht hvm hp hB hz hk hS => ?_
  obtain ⟨rfl, rfl⟩ := hp
  exact kk _ _ (l_back E ht hB hk hS)
/-- toss: a method with a table of its own -/
theorem l_runT (C : l_C D cy cJ p m c s args) (hX : g_X (l_A s b) s) (E : l_E D cy cJ b f ad L σ s H locs) (K i : Nat) {hh : List (Nat × Nat × Nat × Nat)} (hM : Met l y (Cond.codeWith y bytes maxL ret hh :: lw_good) rm (va_Pc (.ref (ad K i) :: As) (g_PreX D cy (l_A s b) ad L σ)) Qc mc ms (l_A s b)) (w : Cond.codeWith y bytes maxL ret hh ∈ lw_good ∧ Cond.initialized y.cls ∈ lw_good ∧ Cond.methodLink "OfficeLadderLaw" index y ∈ lw_good ∧ (Cond.instanceMethod y ∈ lw_good ∧ Cond.selects y.cls y y ∈ lw_good) ∧ g_hd y As.length) (hrm : g_rm rm R maxL mc ms) (hL : (K, i) ∈ L) {q : vw_C} (hc : vwCl[K]? = some q) (hq : q.1 = y.cls ∧ K < 10) (hls : ls.size = 8) (hst : st = As.reverse ++ .ref (ad K i) :: rest) (hW : (rest.map fun v => v.category).sum ≤ 8) (hdg : decode code pc = .ok (.invokevirtual index, 3)) (hf : cells + mc ≤ R.cells ∧ slots + ms ≤ R.slots) :
    va_Run p l e R s m args below meth c H locs cells slots mc ms (F0 m pc ls st) rest (Qc (Value.ref (ad K i) :: As).toArray) (l_A s b) := by
  obtain ⟨w1, w2, w3, w4, w5⟩ := w
  obtain ⟨r1, r2, r3, r4⟩ := hrm
  have hts := C.1.2.2.2.2
  have key : ∀ w ∈ lw_good, w ∈ lw_good ∧ ((w.onTables && w.keeps) = true ∨ ∃ ty, w = .arrayClass ty) := fun w hw => ⟨hw, good_of_word (List.mem_filter.mp hw).2⟩
  have hG : GoodIn lw_good (wsV "OfficeLadderLaw" index y.cls y (Cond.codeWith y bytes maxL ret hh :: lw_good)) := by
    intro w hw
    apply key
    simp only [wsV, List.cons_append, List.nil_append, List.mem_cons] at hw
    rcases hw with rfl | rfl | rfl | rfl | rfl | hw
    · exact w3
    · exact w4.1
    · exact w4.2
    · exact w2
    · exact w1
    · exact hw
  exact vx_runVW (C := y.cls) C.1 hM (vx_cwVW As.length hts hG rfl r1 r2 ⟨rfl, w5⟩ ⟨r3, r4⟩) ⟨g_PreX.blind, l_recv C E hL hc hq, fun U hU hW => ⟨rfl, l_pre C E U hU hW, hX.goes (locs := []) ⟨E.2.2.1.1, fun q h1 h2 => E.2.2.1.2.1 q h1 (by omega), fun _ h => by cases h⟩ hU hW⟩⟩ rfl rfl hls hst (by show 2 * 0 + _ ≤ 8; omega) hdg hf
/-- a call that makes things: the new world may have more keys -/
theorem l_runB (C : l_C D cy cJ p m c s args) (E : l_E D cy cJ b f ad L σ s H locs) (K i : Nat) (hM : Met l y (Cond.code y bytes maxL ret :: lw_good) rm (va_Pc (.ref (ad K i) :: As) (g_PreH D cy (l_A s b) ad L σ H.size)) Qc mc ms (l_A s b)) (w : g_wV "OfficeLadderLaw" index y bytes maxL ret As.length) (hrm : g_rm rm R maxL mc ms) (hL : (K, i) ∈ L) {q : vw_C} (hc : vwCl[K]? = some q) (hq : q.1 = y.cls ∧ K < 10) (hls : ls.size = 8) (hst : st = As.reverse ++ .ref (ad K i) :: rest) (hW : (rest.map fun v => v.category).sum ≤ 8) (hdg : decode code pc = .ok (.invokevirtual index, 3)) (hf : cells + mc ≤ R.cells ∧ slots + ms ≤ R.slots) :
    va_Run p l e R s m args below meth c H locs cells slots mc ms (F0 m pc ls st) rest (Qc (Value.ref (ad K i) :: As).toArray) (l_A s b) := by
  obtain ⟨w1, w2, w3, w4, w5⟩ := w
  obtain ⟨r1, r2, r3, r4⟩ := hrm
  have hts := C.1.2.2.2.2
  exact va_runV (C := y.cls) C.1 hM ⟨callB_of As.length hts (g_good (y := y) (cc := bytes) (n := 0) (r := ret) w1) rfl r1 r2 (hts _ w2) (hts _ w3) w5 ⟨r3, r4⟩, hts _ w4.1, hts _ w4.2⟩ ⟨g_PreH.blind, l_recv C E hL hc hq, fun U hU hW => ⟨rfl, l_pre C E U hU hW, by rw [hU]⟩⟩ rfl rfl hls hst (by show 2 * 0 + _ ≤ 8; omega) hdg hf
theorem l_callB {r0 : Int32} {L0 : gL} (E : l_E D cy cJ b f ad L σ s H locs) (hr : va_Run p l e R s m args below meth c H locs cells slots mc ms (F0 m pc ls st) rest (va_Qi (fun r (u : gL × gS) => r = r0 ∧ u = (L0, σ0)) (fun u => g_Pre D cy (l_A s b) ad u.1 u.2) (l_A s b) a) (l_A s b))
    (kk : ∀ (H : Heap) (locs : List Loc), l_E D cy cJ b f ad L0 σ0 s H locs → W p l e R s m args below meth c H locs (cells + mc) (slots + ms) Q (F0 m (pc + 3) ls (.int r0 :: rest))) : W p l e R s m args below meth c H locs cells slots Q (F0 m pc ls st) := by
  refine va_calli hr E.2.2.1 (fun _ _ h => h.1) (fun _ h => h.1) fun r u t H1 locs1 ht hvm hp hB hz hk hS => ?_
  obtain ⟨rfl, rfl⟩ := hp
  exact kk _ _ (l_back E ht hB hk hS)
/-- the addresses of things that aren't live may be chosen anew -/
theorem g_ct_re {ad' : gA} {K i : Nat} (hCl : g_Cl L σ) (hL : (K, i) ∈ L) (hK : K < 10 ∨ g_ty K < 9) (h1 : ∀ K i, (K, i) ∈ L → ad' K i = ad K i) (h2 : ∀ i, (23, i) ∈ L → ad' 33 i = ad 33 i) : g_ct cy ad' K i (σ K i) = g_ct cy ad K i (σ K i) := by
  unfold g_ct
  by_cases k1 : K < 10
  · rw [if_pos k1, if_pos k1]
    congr 2
    apply List.map_congr_left
    intro j hj
    unfold g_v
    by_cases t0 : g_tg K j = 0
    · rw [if_pos t0, if_pos t0]
    · rw [if_neg t0, if_neg t0]
      by_cases t1 : g_tg K j = 1
      · rw [if_pos t1, if_pos t1]
        have hK7 : K = 7 ∧ j = 1 := by
          have hj := List.mem_range.mp hj
          revert hj t1
          unfold g_tg g_n
          have hall : ∀ K, K < 10 → ∀ j, j < (g_tgs K).length → (g_tgs K).getD j 0 = 1 → K = 7 ∧ j = 1 := by decide
          exact fun a b => hall K k1 j b a
        obtain ⟨rfl, rfl⟩ := hK7
        by_cases hn : σ 7 i 1 < 0
        · rw [if_pos hn, if_pos hn]
        · rw [if_neg hn, if_neg hn, h1 _ _ (hCl.2.2 i hL hn)]
      · rw [if_neg t1, if_neg t1, h1 _ _ (hCl.1 K i j hL k1 (by omega))]
  · rw [if_neg k1, if_neg k1]
    have hlen : g_len ad' K i = g_len ad K i := by
      unfold g_len
      by_cases h23 : K = 23
      · subst h23
        rw [if_pos rfl, if_pos rfl, h2 i hL]
      · rw [if_neg h23, if_neg h23]
    by_cases t0 : g_ty K < 3
    · rw [if_pos t0, if_pos t0, hlen]
    · rw [if_neg t0, if_neg t0]
      by_cases t1 : g_ty K < 9
      · rw [if_pos t1, if_pos t1, hlen]
        congr 7
        funext j
        by_cases hn : σ K i j < 0
        · rw [if_pos hn, if_pos hn]
        · rw [if_neg hn, if_neg hn, h1 _ _ (hCl.2.1 K i j hL (by omega) ⟨by omega, t1⟩ hn)]
      · omega
theorem l_reloc {ad' : gA} (E : l_E D cy cJ b f ad L σ s H locs) (hK : ∀ K i, (K, i) ∈ L → K < 10 ∨ g_ty K < 9) (h1 : ∀ K i, (K, i) ∈ L → ad' K i = ad K i) (h2 : ∀ i, (23, i) ∈ L → ad' 33 i = ad 33 i) : l_E D cy cJ b f ad' L σ s H locs := by
  have e : g_ws cy ad' L σ = g_ws cy ad L σ := by
    unfold g_ws
    apply List.map_congr_left
    rintro ⟨K, i⟩ hq
    rw [g_ct_re E.1.2.2 hq (hK K i hq) h1 h2, h1 K i hq]
  unfold l_E
  rw [e]
  exact E
/-- the law's element: static, with a table of its own; it writes b -/
theorem l_callO {k0 : Nat} {v0 : Int64} {a1 a2 : Int32} (C : l_C D cy cJ p m c s args) (hst : l.stackTraces = false) (hX : g_X (l_A s b) s) (E : l_E D cy cJ b f ad L σ s H locs) (hT : (8, 0) ∈ L) (hf : f_X8_element ad σ a1 a2 = some (k0, v0)) (hR : 11 ≤ R.frames ∧ 8 + (5 + 11) + 160 ≤ R.locals) (hls : ls.size = 8) (hdg : decode code pc = .ok (.invokestatic 155, 3)) (hc : cells + 1 ≤ R.cells ∧ slots + 6 ≤ R.slots)
    (kk : ∀ (f : Nat → Int64) (H : Heap) (locs : List Loc), (k0 = 0 → f 0 = v0) → l_E D cy cJ b f ad L σ s H locs → W p l e R s m args below meth c H locs (cells + 1) (slots + 6) Q (F0 m (pc + 3) ls [.int (Int32.ofNat k0)])) : W p l e R s m args below meth c H locs cells slots Q (F0 m pc ls [.ref b, .int a2, .int a1, .ref (ad 8 0)]) := by
  have hts := C.1.2.2.2.2
  have key : ∀ w ∈ lw_good, w ∈ lw_good ∧ ((w.onTables && w.keeps) = true ∨ ∃ ty, w = .arrayClass ty) := fun w hw => ⟨hw, good_of_word (List.mem_filter.mp hw).2⟩
  have hG : GoodIn lw_good (va_wsS "OfficeLadderLaw" 155 yL_element (Cond.codeWith yL_element cL_element 5 (some .int) [(0, 9, 12, 13), (0, 9, 16, 15)] :: lw_good)) := by
    intro w hw
    apply key
    simp only [va_wsS, List.cons_append, List.nil_append, List.mem_cons] at hw
    rcases hw with rfl | rfl | rfl | rfl | hw
    · exact tw908
    · exact tw909
    · exact tw53
    · exact tw910
    · exact hw
  refine va_calli (vx_runSW (As := [.ref (ad 8 0), .int a1, .int a2, .ref b]) (rest := []) C.1 (c_L_element l hst cJ b f D cy (l_A s b) ad L σ hT a1 a2 k0 v0 hf) (vx_cwSW 4 hts hG rfl rfl rfl hd_L_element ⟨by show 10 + 1 ≤ _; omega, by show 8 + (5 + 11) + 160 ≤ _; omega⟩) ⟨g_PreO.blind, fun U hU hW => ⟨rfl, ⟨l_pre C E U hU hW, hX.goes (locs := []) ⟨E.2.2.1.1, fun q h1 h2 => E.2.2.1.2.1 q h1 (by omega), fun _ h => by cases h⟩ hU hW⟩, by rw [hU]; exact E.2.1, arrOfT_moved hW.alike C.2.2.1, C.2.2.2.moved hW.alike⟩⟩ rfl rfl hls rfl (by show 2 * 0 + _ ≤ 8; simp) hdg hc) E.2.2.1 (fun q h1 h => ?_) (fun q h => ?_) fun r u t H1 locs1 ht hvm hp hB hz hk hS => ?_
  · rcases h with h | rfl
    · exact h.1
    · by_cases hb : s.heap.size ≤ q
      · exact hb
      · exfalso
        exact hb (l_bge E)
  · rcases h with h | rfl
    · exact h.1
    · exact l_bge E
  · obtain ⟨rfl, hu, hv⟩ := hp
    obtain ⟨u1, u2⟩ := u
    dsimp only at hu hv hB
    subst hu
    subst ht
    exact kk u2 _ _ hv ⟨hB.1.1, hB.2, hS, E.2.2.2⟩
end LR
