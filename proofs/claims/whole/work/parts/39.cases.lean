set_option maxHeartbeats 4000000 in
set_option maxRecDepth 100000 in
theorem lc_office {p : Program} {l : Launch} {e : Env} {s : State} {m : MethodId} {below : List Frame} {meth : Method} {c : Code} {Q : State → Prop} {D : va_G} {cy : Nat → ClassId} {cJ : ClassId} {b bs Ls : Nat} {xs : Nat → Int32} (C : l_C D cy cJ p m c s #[Value.ref bs]) (SX : l_S bs Ls xs s) (hst : l.stackTraces = false) (hX : g_X (l_A s b) s) (I : gL → gA → gS → Prop) (hI9 : ∀ L ad σ, I L ad σ → (8, 0) ∈ L ∧ (9, 0) ∈ L) (hP9 : ∀ L ad σ, I L ad σ → ∀ K i, (K, i) ∈ L → K < 10 ∨ g_ty K < 9) (hsim : sim_office I) {cl sl : Nat} (hcl : cl + 2 ≤ 601024) (hsl : sl + 700 ≤ 7293034) {x4 : Int32} (h1 : g_ix (x4 + (1 : Int32)) Ls) (h2 : g_ix (x4 + (2 : Int32)) Ls) (h3 : g_ix (x4 + (3 : Int32)) Ls) (h4 : g_ix (x4 + (4 : Int32)) Ls) (h5 : g_ix (x4 + (5 : Int32)) Ls) (h6 : g_ix (x4 + (6 : Int32)) Ls)
    (kk : ∀ (L : gL) (ad : gA) (σ : gS) (f : Nat → Int64) (H : Heap) (locs : List Loc) (ls : Array Slot), I L ad σ → l_E D cy cJ b f ad L σ s H locs → lv_has ls 8 [(0, .ref bs), (1, .ref (ad 8 0)), (2, .ref (ad 9 0)), (3, .ref b), (4, .int x4)] → W p l e room_1 s m #[Value.ref bs] below meth c H locs (cl + 2) (sl + 700) Q (F0 m 1902 ls []))
    (L : gL) (ad : gA) (σ : gS) (f : Nat → Int64) (H : Heap) (locs : List Loc) (ls : Array Slot) (hI : I L ad σ) (E : l_E D cy cJ b f ad L σ s H locs) (hl : lv_has ls 8 [(0, .ref bs), (1, .ref (ad 8 0)), (2, .ref (ad 9 0)), (3, .ref b), (4, .int x4)]) : W p l e room_1 s m #[Value.ref bs] below meth c H locs cl sl Q (F0 m 192 ls []) := by
  refine lv_aload_n C.x C.b dL_law_192 rfl (lv_at hl 1 rfl) ?_
  refine lv_aload_n C.x C.b dL_law_193 rfl (lv_at hl 0 rfl) ?_
  refine lv_iload C.x C.b dL_law_194 (lv_at hl 4 rfl) ?_
  refine lv_iconst (v := (1 : Int32)) C.x C.b dL_law_196 (by decide) ?_
  refine lv_iadd C.x C.b dL_law_197 ?_
  refine va_sld C.x C.b SX.1 SX.2 (Nat.not_le.mpr SX.2) E.2.2.1 h1 dL_law_198 ?_
  refine lv_aload_n C.x C.b dL_law_199 rfl (lv_at hl 0 rfl) ?_
  refine lv_iload C.x C.b dL_law_200 (lv_at hl 4 rfl) ?_
  refine lv_iconst (v := (2 : Int32)) C.x C.b dL_law_202 (by decide) ?_
  refine lv_iadd C.x C.b dL_law_203 ?_
  refine va_sld C.x C.b SX.1 SX.2 (Nat.not_le.mpr SX.2) E.2.2.1 h2 dL_law_204 ?_
  refine lv_if_eq (tgt := 212) C.x C.b dL_law_205 (by decide) (fun cb0 => ?_) (fun cb0 => ?_)
  · skip
    refine lv_iconst (v := (0 : Int32)) C.x C.b dL_law_212 (by decide) ?_
    obtain ⟨ad2, n, r, L1, σ1, σ2, ha1, ha2, hfa, e1, e2, hI2⟩ := hsim L ad σ H.size hI (xs (x4 + (1 : Int32)).toNatClampNeg) (0 : Int32) (by first | exact Or.inl rfl | exact Or.inr rfl)
    obtain ⟨w0, w1, w2, w3, w4, w5⟩ := hfa
    have E := l_reloc E (hP9 L ad σ hI) ha1 ha2
    have hl : lv_has ls 8 [(0, .ref bs), (1, .ref (ad2 8 0)), (2, .ref (ad2 9 0)), (3, .ref b), (4, .int x4)] := by rw [ha1 8 0 (hI9 L ad σ hI).1, ha1 9 0 (hI9 L ad σ hI).2]; exact hl
    refine W.eq (g2 := F0 m 213 ls ([.int (0 : Int32), .int (xs (x4 + (1 : Int32)).toNatClampNeg)] ++ [.ref (ad2 8 0)])) (by rw [ha1 8 0 (hI9 L ad σ hI).1]; rfl) ?_
    refine l_callB E (l_runB (As := [.int (xs (x4 + (1 : Int32)).toNatClampNeg), .int (0 : Int32)]) (rest := []) C E 8 0 (c_X8_office l D cy (l_A s b) ad2 L σ H.size (hI9 L ad σ hI).1 (xs (x4 + (1 : Int32)).toNatClampNeg) (0 : Int32) n w0 w1 w2 w3 w4 w5 r L1 σ1 e1) ⟨tw303, tw54, tw300, ⟨tw301, tw302⟩, hd_X8_office⟩ (by decide) (hI9 L ad σ hI).1 rfl ⟨rfl, by decide⟩ hl.1 rfl (Nat.le_of_ble_eq_true rfl) dL_law_213 ⟨by show cl + _ ≤ 601024; omega, by show sl + _ ≤ 7293034; omega⟩) (fun H locs E => ?_)
    refine lv_aload_n C.x C.b dL_law_216 rfl (lv_at hl 2 rfl) ?_
    refine lv_aload_n C.x C.b dL_law_217 rfl (lv_at hl 0 rfl) ?_
    refine lv_iload C.x C.b dL_law_218 (lv_at hl 4 rfl) ?_
    refine lv_iconst (v := (1 : Int32)) C.x C.b dL_law_220 (by decide) ?_
    refine lv_iadd C.x C.b dL_law_221 ?_
    refine va_sld C.x C.b SX.1 SX.2 (Nat.not_le.mpr SX.2) E.2.2.1 h1 dL_law_222 ?_
    refine lv_aload_n C.x C.b dL_law_223 rfl (lv_at hl 0 rfl) ?_
    refine lv_iload C.x C.b dL_law_224 (lv_at hl 4 rfl) ?_
    refine lv_iconst (v := (2 : Int32)) C.x C.b dL_law_226 (by decide) ?_
    refine lv_iadd C.x C.b dL_law_227 ?_
    refine va_sld C.x C.b SX.1 SX.2 (Nat.not_le.mpr SX.2) E.2.2.1 h2 dL_law_228 ?_
    refine lv_if_eq (tgt := 236) C.x C.b dL_law_229 (by decide) (fun _ => ?_) (fun cb => absurd cb0 cb)
    refine lv_iconst (v := (0 : Int32)) C.x C.b dL_law_236 (by decide) ?_
    refine l_calli E (l_run (As := [.int (xs (x4 + (1 : Int32)).toNatClampNeg), .int (0 : Int32)]) (rest := [.int r]) C E 9 0 (c_X9_office l D cy (l_A s b) ad2 L1 σ1 (hI9 L1 ad2 σ2 hI2).2 (xs (x4 + (1 : Int32)).toNatClampNeg) (0 : Int32) r σ2 e2) ⟨tw1089, tw60, tw1086, ⟨tw1087, tw1088⟩, hd_X9_office⟩ (by decide) (hI9 L1 ad2 σ2 hI2).2 rfl ⟨rfl, by decide⟩ hl.1 rfl (Nat.le_of_ble_eq_true rfl) dL_law_237 ⟨by show _ ≤ 601024; omega, by show _ ≤ 7293034; omega⟩) (fun H locs E => ?_)
    refine lv_icmp_eq (tgt := 1902) C.x C.b dL_law_240 (by decide) (fun _ => ?_) (fun cb => absurd rfl cb)
    refine W.widen (k := cl + 2) (n := sl + 700) (by omega) (by omega) ?_
    exact kk L1 ad2 σ2 f _ _ ls hI2 E hl
  · skip
    refine lv_iconst (v := (1 : Int32)) C.x C.b dL_law_208 (by decide) ?_
    refine lv_goto (tgt := 213) C.x C.b dL_law_209 (by decide) ?_
    obtain ⟨ad2, n, r, L1, σ1, σ2, ha1, ha2, hfa, e1, e2, hI2⟩ := hsim L ad σ H.size hI (xs (x4 + (1 : Int32)).toNatClampNeg) (1 : Int32) (by first | exact Or.inl rfl | exact Or.inr rfl)
    obtain ⟨w0, w1, w2, w3, w4, w5⟩ := hfa
    have E := l_reloc E (hP9 L ad σ hI) ha1 ha2
    have hl : lv_has ls 8 [(0, .ref bs), (1, .ref (ad2 8 0)), (2, .ref (ad2 9 0)), (3, .ref b), (4, .int x4)] := by rw [ha1 8 0 (hI9 L ad σ hI).1, ha1 9 0 (hI9 L ad σ hI).2]; exact hl
    refine W.eq (g2 := F0 m 213 ls ([.int (1 : Int32), .int (xs (x4 + (1 : Int32)).toNatClampNeg)] ++ [.ref (ad2 8 0)])) (by rw [ha1 8 0 (hI9 L ad σ hI).1]; rfl) ?_
    refine l_callB E (l_runB (As := [.int (xs (x4 + (1 : Int32)).toNatClampNeg), .int (1 : Int32)]) (rest := []) C E 8 0 (c_X8_office l D cy (l_A s b) ad2 L σ H.size (hI9 L ad σ hI).1 (xs (x4 + (1 : Int32)).toNatClampNeg) (1 : Int32) n w0 w1 w2 w3 w4 w5 r L1 σ1 e1) ⟨tw303, tw54, tw300, ⟨tw301, tw302⟩, hd_X8_office⟩ (by decide) (hI9 L ad σ hI).1 rfl ⟨rfl, by decide⟩ hl.1 rfl (Nat.le_of_ble_eq_true rfl) dL_law_213 ⟨by show cl + _ ≤ 601024; omega, by show sl + _ ≤ 7293034; omega⟩) (fun H locs E => ?_)
    refine lv_aload_n C.x C.b dL_law_216 rfl (lv_at hl 2 rfl) ?_
    refine lv_aload_n C.x C.b dL_law_217 rfl (lv_at hl 0 rfl) ?_
    refine lv_iload C.x C.b dL_law_218 (lv_at hl 4 rfl) ?_
    refine lv_iconst (v := (1 : Int32)) C.x C.b dL_law_220 (by decide) ?_
    refine lv_iadd C.x C.b dL_law_221 ?_
    refine va_sld C.x C.b SX.1 SX.2 (Nat.not_le.mpr SX.2) E.2.2.1 h1 dL_law_222 ?_
    refine lv_aload_n C.x C.b dL_law_223 rfl (lv_at hl 0 rfl) ?_
    refine lv_iload C.x C.b dL_law_224 (lv_at hl 4 rfl) ?_
    refine lv_iconst (v := (2 : Int32)) C.x C.b dL_law_226 (by decide) ?_
    refine lv_iadd C.x C.b dL_law_227 ?_
    refine va_sld C.x C.b SX.1 SX.2 (Nat.not_le.mpr SX.2) E.2.2.1 h2 dL_law_228 ?_
    refine lv_if_eq (tgt := 236) C.x C.b dL_law_229 (by decide) (fun cb => absurd cb cb0) (fun _ => ?_)
    refine lv_iconst (v := (1 : Int32)) C.x C.b dL_law_232 (by decide) ?_
    refine lv_goto (tgt := 237) C.x C.b dL_law_233 (by decide) ?_
    refine l_calli E (l_run (As := [.int (xs (x4 + (1 : Int32)).toNatClampNeg), .int (1 : Int32)]) (rest := [.int r]) C E 9 0 (c_X9_office l D cy (l_A s b) ad2 L1 σ1 (hI9 L1 ad2 σ2 hI2).2 (xs (x4 + (1 : Int32)).toNatClampNeg) (1 : Int32) r σ2 e2) ⟨tw1089, tw60, tw1086, ⟨tw1087, tw1088⟩, hd_X9_office⟩ (by decide) (hI9 L1 ad2 σ2 hI2).2 rfl ⟨rfl, by decide⟩ hl.1 rfl (Nat.le_of_ble_eq_true rfl) dL_law_237 ⟨by show _ ≤ 601024; omega, by show _ ≤ 7293034; omega⟩) (fun H locs E => ?_)
    refine lv_icmp_eq (tgt := 1902) C.x C.b dL_law_240 (by decide) (fun _ => ?_) (fun cb => absurd rfl cb)
    refine W.widen (k := cl + 2) (n := sl + 700) (by omega) (by omega) ?_
    exact kk L1 ad2 σ2 f _ _ ls hI2 E hl
set_option maxHeartbeats 4000000 in
set_option maxRecDepth 100000 in
theorem lc_person {p : Program} {l : Launch} {e : Env} {s : State} {m : MethodId} {below : List Frame} {meth : Method} {c : Code} {Q : State → Prop} {D : va_G} {cy : Nat → ClassId} {cJ : ClassId} {b bs Ls : Nat} {xs : Nat → Int32} (C : l_C D cy cJ p m c s #[Value.ref bs]) (SX : l_S bs Ls xs s) (hst : l.stackTraces = false) (hX : g_X (l_A s b) s) (I : gL → gA → gS → Prop) (hI9 : ∀ L ad σ, I L ad σ → (8, 0) ∈ L ∧ (9, 0) ∈ L) (hP9 : ∀ L ad σ, I L ad σ → ∀ K i, (K, i) ∈ L → K < 10 ∨ g_ty K < 9) (hsim : sim_person I) {cl sl : Nat} (hcl : cl + 2 ≤ 601024) (hsl : sl + 700 ≤ 7293034) {x4 : Int32} (h1 : g_ix (x4 + (1 : Int32)) Ls) (h2 : g_ix (x4 + (2 : Int32)) Ls) (h3 : g_ix (x4 + (3 : Int32)) Ls) (h4 : g_ix (x4 + (4 : Int32)) Ls) (h5 : g_ix (x4 + (5 : Int32)) Ls) (h6 : g_ix (x4 + (6 : Int32)) Ls)
    (kk : ∀ (L : gL) (ad : gA) (σ : gS) (f : Nat → Int64) (H : Heap) (locs : List Loc) (ls : Array Slot), I L ad σ → l_E D cy cJ b f ad L σ s H locs → lv_has ls 8 [(0, .ref bs), (1, .ref (ad 8 0)), (2, .ref (ad 9 0)), (3, .ref b), (4, .int x4)] → W p l e room_1 s m #[Value.ref bs] below meth c H locs (cl + 2) (sl + 700) Q (F0 m 1902 ls []))
    (L : gL) (ad : gA) (σ : gS) (f : Nat → Int64) (H : Heap) (locs : List Loc) (ls : Array Slot) (hI : I L ad σ) (E : l_E D cy cJ b f ad L σ s H locs) (hl : lv_has ls 8 [(0, .ref bs), (1, .ref (ad 8 0)), (2, .ref (ad 9 0)), (3, .ref b), (4, .int x4)]) : W p l e room_1 s m #[Value.ref bs] below meth c H locs cl sl Q (F0 m 245 ls []) := by
  refine lv_aload_n C.x C.b dL_law_245 rfl (lv_at hl 1 rfl) ?_
  refine lv_aload_n C.x C.b dL_law_246 rfl (lv_at hl 0 rfl) ?_
  refine lv_iload C.x C.b dL_law_247 (lv_at hl 4 rfl) ?_
  refine lv_iconst (v := (1 : Int32)) C.x C.b dL_law_249 (by decide) ?_
  refine lv_iadd C.x C.b dL_law_250 ?_
  refine va_sld C.x C.b SX.1 SX.2 (Nat.not_le.mpr SX.2) E.2.2.1 h1 dL_law_251 ?_
  refine lv_aload_n C.x C.b dL_law_252 rfl (lv_at hl 0 rfl) ?_
  refine lv_iload C.x C.b dL_law_253 (lv_at hl 4 rfl) ?_
  refine lv_iconst (v := (2 : Int32)) C.x C.b dL_law_255 (by decide) ?_
  refine lv_iadd C.x C.b dL_law_256 ?_
  refine va_sld C.x C.b SX.1 SX.2 (Nat.not_le.mpr SX.2) E.2.2.1 h2 dL_law_257 ?_
  refine lv_aload_n C.x C.b dL_law_258 rfl (lv_at hl 0 rfl) ?_
  refine lv_iload C.x C.b dL_law_259 (lv_at hl 4 rfl) ?_
  refine lv_iconst (v := (3 : Int32)) C.x C.b dL_law_261 (by decide) ?_
  refine lv_iadd C.x C.b dL_law_262 ?_
  refine va_sld C.x C.b SX.1 SX.2 (Nat.not_le.mpr SX.2) E.2.2.1 h3 dL_law_263 ?_
  refine lv_aload_n C.x C.b dL_law_264 rfl (lv_at hl 0 rfl) ?_
  refine lv_iload C.x C.b dL_law_265 (lv_at hl 4 rfl) ?_
  refine lv_iconst (v := (4 : Int32)) C.x C.b dL_law_267 (by decide) ?_
  refine lv_iadd C.x C.b dL_law_268 ?_
  refine va_sld C.x C.b SX.1 SX.2 (Nat.not_le.mpr SX.2) E.2.2.1 h4 dL_law_269 ?_
  obtain ⟨ad2, n, r, L1, σ1, σ2, ha1, ha2, hfa, e1, e2, hI2⟩ := hsim L ad σ H.size hI (xs (x4 + (1 : Int32)).toNatClampNeg) (xs (x4 + (2 : Int32)).toNatClampNeg) (xs (x4 + (3 : Int32)).toNatClampNeg) (xs (x4 + (4 : Int32)).toNatClampNeg) 
  obtain ⟨w0, w1, w2, w3, w4, w5⟩ := hfa
  have E := l_reloc E (hP9 L ad σ hI) ha1 ha2
  have hl : lv_has ls 8 [(0, .ref bs), (1, .ref (ad2 8 0)), (2, .ref (ad2 9 0)), (3, .ref b), (4, .int x4)] := by rw [ha1 8 0 (hI9 L ad σ hI).1, ha1 9 0 (hI9 L ad σ hI).2]; exact hl
  refine W.eq (g2 := F0 m 270 ls ([.int (xs (x4 + (4 : Int32)).toNatClampNeg), .int (xs (x4 + (3 : Int32)).toNatClampNeg), .int (xs (x4 + (2 : Int32)).toNatClampNeg), .int (xs (x4 + (1 : Int32)).toNatClampNeg)] ++ [.ref (ad2 8 0)])) (by rw [ha1 8 0 (hI9 L ad σ hI).1]; rfl) ?_
  refine l_callB E (l_runB (As := [.int (xs (x4 + (1 : Int32)).toNatClampNeg), .int (xs (x4 + (2 : Int32)).toNatClampNeg), .int (xs (x4 + (3 : Int32)).toNatClampNeg), .int (xs (x4 + (4 : Int32)).toNatClampNeg)]) (rest := []) C E 8 0 (c_X8_person l D cy (l_A s b) ad2 L σ H.size (hI9 L ad σ hI).1 (xs (x4 + (1 : Int32)).toNatClampNeg) (xs (x4 + (2 : Int32)).toNatClampNeg) (xs (x4 + (3 : Int32)).toNatClampNeg) (xs (x4 + (4 : Int32)).toNatClampNeg) n w0 w1 w2 w3 w4 w5 r L1 σ1 e1) ⟨tw333, tw54, tw330, ⟨tw331, tw332⟩, hd_X8_person⟩ (by decide) (hI9 L ad σ hI).1 rfl ⟨rfl, by decide⟩ hl.1 rfl (Nat.le_of_ble_eq_true rfl) dL_law_270 ⟨by show cl + _ ≤ 601024; omega, by show sl + _ ≤ 7293034; omega⟩) (fun H locs E => ?_)
  refine lv_aload_n C.x C.b dL_law_273 rfl (lv_at hl 2 rfl) ?_
  refine lv_aload_n C.x C.b dL_law_274 rfl (lv_at hl 0 rfl) ?_
  refine lv_iload C.x C.b dL_law_275 (lv_at hl 4 rfl) ?_
  refine lv_iconst (v := (1 : Int32)) C.x C.b dL_law_277 (by decide) ?_
  refine lv_iadd C.x C.b dL_law_278 ?_
  refine va_sld C.x C.b SX.1 SX.2 (Nat.not_le.mpr SX.2) E.2.2.1 h1 dL_law_279 ?_
  refine lv_aload_n C.x C.b dL_law_280 rfl (lv_at hl 0 rfl) ?_
  refine lv_iload C.x C.b dL_law_281 (lv_at hl 4 rfl) ?_
  refine lv_iconst (v := (2 : Int32)) C.x C.b dL_law_283 (by decide) ?_
  refine lv_iadd C.x C.b dL_law_284 ?_
  refine va_sld C.x C.b SX.1 SX.2 (Nat.not_le.mpr SX.2) E.2.2.1 h2 dL_law_285 ?_
  refine lv_aload_n C.x C.b dL_law_286 rfl (lv_at hl 0 rfl) ?_
  refine lv_iload C.x C.b dL_law_287 (lv_at hl 4 rfl) ?_
  refine lv_iconst (v := (3 : Int32)) C.x C.b dL_law_289 (by decide) ?_
  refine lv_iadd C.x C.b dL_law_290 ?_
  refine va_sld C.x C.b SX.1 SX.2 (Nat.not_le.mpr SX.2) E.2.2.1 h3 dL_law_291 ?_
  refine lv_aload_n C.x C.b dL_law_292 rfl (lv_at hl 0 rfl) ?_
  refine lv_iload C.x C.b dL_law_293 (lv_at hl 4 rfl) ?_
  refine lv_iconst (v := (4 : Int32)) C.x C.b dL_law_295 (by decide) ?_
  refine lv_iadd C.x C.b dL_law_296 ?_
  refine va_sld C.x C.b SX.1 SX.2 (Nat.not_le.mpr SX.2) E.2.2.1 h4 dL_law_297 ?_
  refine l_calli E (l_run (As := [.int (xs (x4 + (1 : Int32)).toNatClampNeg), .int (xs (x4 + (2 : Int32)).toNatClampNeg), .int (xs (x4 + (3 : Int32)).toNatClampNeg), .int (xs (x4 + (4 : Int32)).toNatClampNeg)]) (rest := [.int r]) C E 9 0 (c_X9_person l D cy (l_A s b) ad2 L1 σ1 (hI9 L1 ad2 σ2 hI2).2 (xs (x4 + (1 : Int32)).toNatClampNeg) (xs (x4 + (2 : Int32)).toNatClampNeg) (xs (x4 + (3 : Int32)).toNatClampNeg) (xs (x4 + (4 : Int32)).toNatClampNeg) r σ2 e2) ⟨tw1097, tw60, tw1094, ⟨tw1095, tw1096⟩, hd_X9_person⟩ (by decide) (hI9 L1 ad2 σ2 hI2).2 rfl ⟨rfl, by decide⟩ hl.1 rfl (Nat.le_of_ble_eq_true rfl) dL_law_298 ⟨by show _ ≤ 601024; omega, by show _ ≤ 7293034; omega⟩) (fun H locs E => ?_)
  refine lv_icmp_eq (tgt := 1902) C.x C.b dL_law_301 (by decide) (fun _ => ?_) (fun cb => absurd rfl cb)
  refine W.widen (k := cl + 2) (n := sl + 700) (by omega) (by omega) ?_
  exact kk L1 ad2 σ2 f _ _ ls hI2 E hl
set_option maxHeartbeats 4000000 in
set_option maxRecDepth 100000 in
theorem lc_death {p : Program} {l : Launch} {e : Env} {s : State} {m : MethodId} {below : List Frame} {meth : Method} {c : Code} {Q : State → Prop} {D : va_G} {cy : Nat → ClassId} {cJ : ClassId} {b bs Ls : Nat} {xs : Nat → Int32} (C : l_C D cy cJ p m c s #[Value.ref bs]) (SX : l_S bs Ls xs s) (hst : l.stackTraces = false) (hX : g_X (l_A s b) s) (I : gL → gA → gS → Prop) (hI9 : ∀ L ad σ, I L ad σ → (8, 0) ∈ L ∧ (9, 0) ∈ L) (hP9 : ∀ L ad σ, I L ad σ → ∀ K i, (K, i) ∈ L → K < 10 ∨ g_ty K < 9) (hsim : sim_death I) {cl sl : Nat} (hcl : cl + 2 ≤ 601024) (hsl : sl + 700 ≤ 7293034) {x4 : Int32} (h1 : g_ix (x4 + (1 : Int32)) Ls) (h2 : g_ix (x4 + (2 : Int32)) Ls) (h3 : g_ix (x4 + (3 : Int32)) Ls) (h4 : g_ix (x4 + (4 : Int32)) Ls) (h5 : g_ix (x4 + (5 : Int32)) Ls) (h6 : g_ix (x4 + (6 : Int32)) Ls)
    (kk : ∀ (L : gL) (ad : gA) (σ : gS) (f : Nat → Int64) (H : Heap) (locs : List Loc) (ls : Array Slot), I L ad σ → l_E D cy cJ b f ad L σ s H locs → lv_has ls 8 [(0, .ref bs), (1, .ref (ad 8 0)), (2, .ref (ad 9 0)), (3, .ref b), (4, .int x4)] → W p l e room_1 s m #[Value.ref bs] below meth c H locs (cl + 2) (sl + 700) Q (F0 m 1902 ls []))
    (L : gL) (ad : gA) (σ : gS) (f : Nat → Int64) (H : Heap) (locs : List Loc) (ls : Array Slot) (hI : I L ad σ) (E : l_E D cy cJ b f ad L σ s H locs) (hl : lv_has ls 8 [(0, .ref bs), (1, .ref (ad 8 0)), (2, .ref (ad 9 0)), (3, .ref b), (4, .int x4)]) : W p l e room_1 s m #[Value.ref bs] below meth c H locs cl sl Q (F0 m 306 ls []) := by
  refine lv_aload_n C.x C.b dL_law_306 rfl (lv_at hl 1 rfl) ?_
  refine lv_aload_n C.x C.b dL_law_307 rfl (lv_at hl 0 rfl) ?_
  refine lv_iload C.x C.b dL_law_308 (lv_at hl 4 rfl) ?_
  refine lv_iconst (v := (1 : Int32)) C.x C.b dL_law_310 (by decide) ?_
  refine lv_iadd C.x C.b dL_law_311 ?_
  refine va_sld C.x C.b SX.1 SX.2 (Nat.not_le.mpr SX.2) E.2.2.1 h1 dL_law_312 ?_
  refine lv_aload_n C.x C.b dL_law_313 rfl (lv_at hl 0 rfl) ?_
  refine lv_iload C.x C.b dL_law_314 (lv_at hl 4 rfl) ?_
  refine lv_iconst (v := (2 : Int32)) C.x C.b dL_law_316 (by decide) ?_
  refine lv_iadd C.x C.b dL_law_317 ?_
  refine va_sld C.x C.b SX.1 SX.2 (Nat.not_le.mpr SX.2) E.2.2.1 h2 dL_law_318 ?_
  obtain ⟨r, σ1, σ2, e1, e2, hI2⟩ := hsim L ad σ hI (xs (x4 + (1 : Int32)).toNatClampNeg) (xs (x4 + (2 : Int32)).toNatClampNeg) 
  refine l_calli E (l_run (As := [.int (xs (x4 + (1 : Int32)).toNatClampNeg), .int (xs (x4 + (2 : Int32)).toNatClampNeg)]) (rest := []) C E 8 0 (c_X8_death l D cy (l_A s b) ad L σ (hI9 L ad σ hI).1 (xs (x4 + (1 : Int32)).toNatClampNeg) (xs (x4 + (2 : Int32)).toNatClampNeg) r σ1 e1) ⟨tw412, tw54, tw409, ⟨tw410, tw411⟩, hd_X8_death⟩ (by decide) (hI9 L ad σ hI).1 rfl ⟨rfl, by decide⟩ hl.1 rfl (Nat.le_of_ble_eq_true rfl) dL_law_319 ⟨by show _ ≤ 601024; omega, by show _ ≤ 7293034; omega⟩) (fun H locs E => ?_)
  refine lv_aload_n C.x C.b dL_law_322 rfl (lv_at hl 2 rfl) ?_
  refine lv_aload_n C.x C.b dL_law_323 rfl (lv_at hl 0 rfl) ?_
  refine lv_iload C.x C.b dL_law_324 (lv_at hl 4 rfl) ?_
  refine lv_iconst (v := (1 : Int32)) C.x C.b dL_law_326 (by decide) ?_
  refine lv_iadd C.x C.b dL_law_327 ?_
  refine va_sld C.x C.b SX.1 SX.2 (Nat.not_le.mpr SX.2) E.2.2.1 h1 dL_law_328 ?_
  refine lv_aload_n C.x C.b dL_law_329 rfl (lv_at hl 0 rfl) ?_
  refine lv_iload C.x C.b dL_law_330 (lv_at hl 4 rfl) ?_
  refine lv_iconst (v := (2 : Int32)) C.x C.b dL_law_332 (by decide) ?_
  refine lv_iadd C.x C.b dL_law_333 ?_
  refine va_sld C.x C.b SX.1 SX.2 (Nat.not_le.mpr SX.2) E.2.2.1 h2 dL_law_334 ?_
  refine l_calli E (l_run (As := [.int (xs (x4 + (1 : Int32)).toNatClampNeg), .int (xs (x4 + (2 : Int32)).toNatClampNeg)]) (rest := [.int r]) C E 9 0 (c_X9_death l D cy (l_A s b) ad L σ1 (hI9 L ad σ hI).2 (xs (x4 + (1 : Int32)).toNatClampNeg) (xs (x4 + (2 : Int32)).toNatClampNeg) r σ2 e2) ⟨tw1105, tw60, tw1102, ⟨tw1103, tw1104⟩, hd_X9_death⟩ (by decide) (hI9 L ad σ hI).2 rfl ⟨rfl, by decide⟩ hl.1 rfl (Nat.le_of_ble_eq_true rfl) dL_law_335 ⟨by show _ ≤ 601024; omega, by show _ ≤ 7293034; omega⟩) (fun H locs E => ?_)
  refine lv_icmp_eq (tgt := 1902) C.x C.b dL_law_338 (by decide) (fun _ => ?_) (fun cb => absurd rfl cb)
  refine W.widen (k := cl + 2) (n := sl + 700) (by omega) (by omega) ?_
  exact kk L ad σ2 f _ _ ls hI2 E hl
set_option maxHeartbeats 4000000 in
set_option maxRecDepth 100000 in
theorem lc_exile {p : Program} {l : Launch} {e : Env} {s : State} {m : MethodId} {below : List Frame} {meth : Method} {c : Code} {Q : State → Prop} {D : va_G} {cy : Nat → ClassId} {cJ : ClassId} {b bs Ls : Nat} {xs : Nat → Int32} (C : l_C D cy cJ p m c s #[Value.ref bs]) (SX : l_S bs Ls xs s) (hst : l.stackTraces = false) (hX : g_X (l_A s b) s) (I : gL → gA → gS → Prop) (hI9 : ∀ L ad σ, I L ad σ → (8, 0) ∈ L ∧ (9, 0) ∈ L) (hP9 : ∀ L ad σ, I L ad σ → ∀ K i, (K, i) ∈ L → K < 10 ∨ g_ty K < 9) (hsim : sim_exile I) {cl sl : Nat} (hcl : cl + 2 ≤ 601024) (hsl : sl + 700 ≤ 7293034) {x4 : Int32} (h1 : g_ix (x4 + (1 : Int32)) Ls) (h2 : g_ix (x4 + (2 : Int32)) Ls) (h3 : g_ix (x4 + (3 : Int32)) Ls) (h4 : g_ix (x4 + (4 : Int32)) Ls) (h5 : g_ix (x4 + (5 : Int32)) Ls) (h6 : g_ix (x4 + (6 : Int32)) Ls)
    (kk : ∀ (L : gL) (ad : gA) (σ : gS) (f : Nat → Int64) (H : Heap) (locs : List Loc) (ls : Array Slot), I L ad σ → l_E D cy cJ b f ad L σ s H locs → lv_has ls 8 [(0, .ref bs), (1, .ref (ad 8 0)), (2, .ref (ad 9 0)), (3, .ref b), (4, .int x4)] → W p l e room_1 s m #[Value.ref bs] below meth c H locs (cl + 2) (sl + 700) Q (F0 m 1902 ls []))
    (L : gL) (ad : gA) (σ : gS) (f : Nat → Int64) (H : Heap) (locs : List Loc) (ls : Array Slot) (hI : I L ad σ) (E : l_E D cy cJ b f ad L σ s H locs) (hl : lv_has ls 8 [(0, .ref bs), (1, .ref (ad 8 0)), (2, .ref (ad 9 0)), (3, .ref b), (4, .int x4)]) : W p l e room_1 s m #[Value.ref bs] below meth c H locs cl sl Q (F0 m 343 ls []) := by
  refine lv_aload_n C.x C.b dL_law_343 rfl (lv_at hl 1 rfl) ?_
  refine lv_aload_n C.x C.b dL_law_344 rfl (lv_at hl 0 rfl) ?_
  refine lv_iload C.x C.b dL_law_345 (lv_at hl 4 rfl) ?_
  refine lv_iconst (v := (1 : Int32)) C.x C.b dL_law_347 (by decide) ?_
  refine lv_iadd C.x C.b dL_law_348 ?_
  refine va_sld C.x C.b SX.1 SX.2 (Nat.not_le.mpr SX.2) E.2.2.1 h1 dL_law_349 ?_
  refine lv_aload_n C.x C.b dL_law_350 rfl (lv_at hl 0 rfl) ?_
  refine lv_iload C.x C.b dL_law_351 (lv_at hl 4 rfl) ?_
  refine lv_iconst (v := (2 : Int32)) C.x C.b dL_law_353 (by decide) ?_
  refine lv_iadd C.x C.b dL_law_354 ?_
  refine va_sld C.x C.b SX.1 SX.2 (Nat.not_le.mpr SX.2) E.2.2.1 h2 dL_law_355 ?_
  refine lv_aload_n C.x C.b dL_law_356 rfl (lv_at hl 0 rfl) ?_
  refine lv_iload C.x C.b dL_law_357 (lv_at hl 4 rfl) ?_
  refine lv_iconst (v := (3 : Int32)) C.x C.b dL_law_359 (by decide) ?_
  refine lv_iadd C.x C.b dL_law_360 ?_
  refine va_sld C.x C.b SX.1 SX.2 (Nat.not_le.mpr SX.2) E.2.2.1 h3 dL_law_361 ?_
  obtain ⟨r, σ1, σ2, e1, e2, hI2⟩ := hsim L ad σ hI (xs (x4 + (1 : Int32)).toNatClampNeg) (xs (x4 + (2 : Int32)).toNatClampNeg) (xs (x4 + (3 : Int32)).toNatClampNeg) 
  refine l_calli E (l_run (As := [.int (xs (x4 + (1 : Int32)).toNatClampNeg), .int (xs (x4 + (2 : Int32)).toNatClampNeg), .int (xs (x4 + (3 : Int32)).toNatClampNeg)]) (rest := []) C E 8 0 (c_X8_exile l D cy (l_A s b) ad L σ (hI9 L ad σ hI).1 (xs (x4 + (1 : Int32)).toNatClampNeg) (xs (x4 + (2 : Int32)).toNatClampNeg) (xs (x4 + (3 : Int32)).toNatClampNeg) r σ1 e1) ⟨tw416, tw54, tw413, ⟨tw414, tw415⟩, hd_X8_exile⟩ (by decide) (hI9 L ad σ hI).1 rfl ⟨rfl, by decide⟩ hl.1 rfl (Nat.le_of_ble_eq_true rfl) dL_law_362 ⟨by show _ ≤ 601024; omega, by show _ ≤ 7293034; omega⟩) (fun H locs E => ?_)
  refine lv_aload_n C.x C.b dL_law_365 rfl (lv_at hl 2 rfl) ?_
  refine lv_aload_n C.x C.b dL_law_366 rfl (lv_at hl 0 rfl) ?_
  refine lv_iload C.x C.b dL_law_367 (lv_at hl 4 rfl) ?_
  refine lv_iconst (v := (1 : Int32)) C.x C.b dL_law_369 (by decide) ?_
  refine lv_iadd C.x C.b dL_law_370 ?_
  refine va_sld C.x C.b SX.1 SX.2 (Nat.not_le.mpr SX.2) E.2.2.1 h1 dL_law_371 ?_
  refine lv_aload_n C.x C.b dL_law_372 rfl (lv_at hl 0 rfl) ?_
  refine lv_iload C.x C.b dL_law_373 (lv_at hl 4 rfl) ?_
  refine lv_iconst (v := (2 : Int32)) C.x C.b dL_law_375 (by decide) ?_
  refine lv_iadd C.x C.b dL_law_376 ?_
  refine va_sld C.x C.b SX.1 SX.2 (Nat.not_le.mpr SX.2) E.2.2.1 h2 dL_law_377 ?_
  refine lv_aload_n C.x C.b dL_law_378 rfl (lv_at hl 0 rfl) ?_
  refine lv_iload C.x C.b dL_law_379 (lv_at hl 4 rfl) ?_
  refine lv_iconst (v := (3 : Int32)) C.x C.b dL_law_381 (by decide) ?_
  refine lv_iadd C.x C.b dL_law_382 ?_
  refine va_sld C.x C.b SX.1 SX.2 (Nat.not_le.mpr SX.2) E.2.2.1 h3 dL_law_383 ?_
  refine l_calli E (l_run (As := [.int (xs (x4 + (1 : Int32)).toNatClampNeg), .int (xs (x4 + (2 : Int32)).toNatClampNeg), .int (xs (x4 + (3 : Int32)).toNatClampNeg)]) (rest := [.int r]) C E 9 0 (c_X9_exile l D cy (l_A s b) ad L σ1 (hI9 L ad σ hI).2 (xs (x4 + (1 : Int32)).toNatClampNeg) (xs (x4 + (2 : Int32)).toNatClampNeg) (xs (x4 + (3 : Int32)).toNatClampNeg) r σ2 e2) ⟨tw1113, tw60, tw1110, ⟨tw1111, tw1112⟩, hd_X9_exile⟩ (by decide) (hI9 L ad σ hI).2 rfl ⟨rfl, by decide⟩ hl.1 rfl (Nat.le_of_ble_eq_true rfl) dL_law_384 ⟨by show _ ≤ 601024; omega, by show _ ≤ 7293034; omega⟩) (fun H locs E => ?_)
  refine lv_icmp_eq (tgt := 1902) C.x C.b dL_law_387 (by decide) (fun _ => ?_) (fun cb => absurd rfl cb)
  refine W.widen (k := cl + 2) (n := sl + 700) (by omega) (by omega) ?_
  exact kk L ad σ2 f _ _ ls hI2 E hl
set_option maxHeartbeats 4000000 in
set_option maxRecDepth 100000 in
theorem lc_birth {p : Program} {l : Launch} {e : Env} {s : State} {m : MethodId} {below : List Frame} {meth : Method} {c : Code} {Q : State → Prop} {D : va_G} {cy : Nat → ClassId} {cJ : ClassId} {b bs Ls : Nat} {xs : Nat → Int32} (C : l_C D cy cJ p m c s #[Value.ref bs]) (SX : l_S bs Ls xs s) (hst : l.stackTraces = false) (hX : g_X (l_A s b) s) (I : gL → gA → gS → Prop) (hI9 : ∀ L ad σ, I L ad σ → (8, 0) ∈ L ∧ (9, 0) ∈ L) (hP9 : ∀ L ad σ, I L ad σ → ∀ K i, (K, i) ∈ L → K < 10 ∨ g_ty K < 9) (hsim : sim_birth I) {cl sl : Nat} (hcl : cl + 2 ≤ 601024) (hsl : sl + 700 ≤ 7293034) {x4 : Int32} (h1 : g_ix (x4 + (1 : Int32)) Ls) (h2 : g_ix (x4 + (2 : Int32)) Ls) (h3 : g_ix (x4 + (3 : Int32)) Ls) (h4 : g_ix (x4 + (4 : Int32)) Ls) (h5 : g_ix (x4 + (5 : Int32)) Ls) (h6 : g_ix (x4 + (6 : Int32)) Ls)
    (kk : ∀ (L : gL) (ad : gA) (σ : gS) (f : Nat → Int64) (H : Heap) (locs : List Loc) (ls : Array Slot), I L ad σ → l_E D cy cJ b f ad L σ s H locs → lv_has ls 8 [(0, .ref bs), (1, .ref (ad 8 0)), (2, .ref (ad 9 0)), (3, .ref b), (4, .int x4)] → W p l e room_1 s m #[Value.ref bs] below meth c H locs (cl + 2) (sl + 700) Q (F0 m 1902 ls []))
    (L : gL) (ad : gA) (σ : gS) (f : Nat → Int64) (H : Heap) (locs : List Loc) (ls : Array Slot) (hI : I L ad σ) (E : l_E D cy cJ b f ad L σ s H locs) (hl : lv_has ls 8 [(0, .ref bs), (1, .ref (ad 8 0)), (2, .ref (ad 9 0)), (3, .ref b), (4, .int x4)]) : W p l e room_1 s m #[Value.ref bs] below meth c H locs cl sl Q (F0 m 392 ls []) := by
  refine lv_aload_n C.x C.b dL_law_392 rfl (lv_at hl 1 rfl) ?_
  refine lv_aload_n C.x C.b dL_law_393 rfl (lv_at hl 0 rfl) ?_
  refine lv_iload C.x C.b dL_law_394 (lv_at hl 4 rfl) ?_
  refine lv_iconst (v := (1 : Int32)) C.x C.b dL_law_396 (by decide) ?_
  refine lv_iadd C.x C.b dL_law_397 ?_
  refine va_sld C.x C.b SX.1 SX.2 (Nat.not_le.mpr SX.2) E.2.2.1 h1 dL_law_398 ?_
  refine lv_aload_n C.x C.b dL_law_399 rfl (lv_at hl 0 rfl) ?_
  refine lv_iload C.x C.b dL_law_400 (lv_at hl 4 rfl) ?_
  refine lv_iconst (v := (2 : Int32)) C.x C.b dL_law_402 (by decide) ?_
  refine lv_iadd C.x C.b dL_law_403 ?_
  refine va_sld C.x C.b SX.1 SX.2 (Nat.not_le.mpr SX.2) E.2.2.1 h2 dL_law_404 ?_
  refine lv_aload_n C.x C.b dL_law_405 rfl (lv_at hl 0 rfl) ?_
  refine lv_iload C.x C.b dL_law_406 (lv_at hl 4 rfl) ?_
  refine lv_iconst (v := (3 : Int32)) C.x C.b dL_law_408 (by decide) ?_
  refine lv_iadd C.x C.b dL_law_409 ?_
  refine va_sld C.x C.b SX.1 SX.2 (Nat.not_le.mpr SX.2) E.2.2.1 h3 dL_law_410 ?_
  obtain ⟨r, σ1, σ2, e1, e2, hI2⟩ := hsim L ad σ hI (xs (x4 + (1 : Int32)).toNatClampNeg) (xs (x4 + (2 : Int32)).toNatClampNeg) (xs (x4 + (3 : Int32)).toNatClampNeg) 
  refine l_calli E (l_run (As := [.int (xs (x4 + (1 : Int32)).toNatClampNeg), .int (xs (x4 + (2 : Int32)).toNatClampNeg), .int (xs (x4 + (3 : Int32)).toNatClampNeg)]) (rest := []) C E 8 0 (c_X8_birth l D cy (l_A s b) ad L σ (hI9 L ad σ hI).1 (xs (x4 + (1 : Int32)).toNatClampNeg) (xs (x4 + (2 : Int32)).toNatClampNeg) (xs (x4 + (3 : Int32)).toNatClampNeg) r σ1 e1) ⟨tw431, tw54, tw428, ⟨tw429, tw430⟩, hd_X8_birth⟩ (by decide) (hI9 L ad σ hI).1 rfl ⟨rfl, by decide⟩ hl.1 rfl (Nat.le_of_ble_eq_true rfl) dL_law_411 ⟨by show _ ≤ 601024; omega, by show _ ≤ 7293034; omega⟩) (fun H locs E => ?_)
  refine lv_aload_n C.x C.b dL_law_414 rfl (lv_at hl 2 rfl) ?_
  refine lv_aload_n C.x C.b dL_law_415 rfl (lv_at hl 0 rfl) ?_
  refine lv_iload C.x C.b dL_law_416 (lv_at hl 4 rfl) ?_
  refine lv_iconst (v := (1 : Int32)) C.x C.b dL_law_418 (by decide) ?_
  refine lv_iadd C.x C.b dL_law_419 ?_
  refine va_sld C.x C.b SX.1 SX.2 (Nat.not_le.mpr SX.2) E.2.2.1 h1 dL_law_420 ?_
  refine lv_aload_n C.x C.b dL_law_421 rfl (lv_at hl 0 rfl) ?_
  refine lv_iload C.x C.b dL_law_422 (lv_at hl 4 rfl) ?_
  refine lv_iconst (v := (2 : Int32)) C.x C.b dL_law_424 (by decide) ?_
  refine lv_iadd C.x C.b dL_law_425 ?_
  refine va_sld C.x C.b SX.1 SX.2 (Nat.not_le.mpr SX.2) E.2.2.1 h2 dL_law_426 ?_
  refine lv_aload_n C.x C.b dL_law_427 rfl (lv_at hl 0 rfl) ?_
  refine lv_iload C.x C.b dL_law_428 (lv_at hl 4 rfl) ?_
  refine lv_iconst (v := (3 : Int32)) C.x C.b dL_law_430 (by decide) ?_
  refine lv_iadd C.x C.b dL_law_431 ?_
  refine va_sld C.x C.b SX.1 SX.2 (Nat.not_le.mpr SX.2) E.2.2.1 h3 dL_law_432 ?_
  refine l_calli E (l_run (As := [.int (xs (x4 + (1 : Int32)).toNatClampNeg), .int (xs (x4 + (2 : Int32)).toNatClampNeg), .int (xs (x4 + (3 : Int32)).toNatClampNeg)]) (rest := [.int r]) C E 9 0 (c_X9_birth l D cy (l_A s b) ad L σ1 (hI9 L ad σ hI).2 (xs (x4 + (1 : Int32)).toNatClampNeg) (xs (x4 + (2 : Int32)).toNatClampNeg) (xs (x4 + (3 : Int32)).toNatClampNeg) r σ2 e2) ⟨tw1121, tw60, tw1118, ⟨tw1119, tw1120⟩, hd_X9_birth⟩ (by decide) (hI9 L ad σ hI).2 rfl ⟨rfl, by decide⟩ hl.1 rfl (Nat.le_of_ble_eq_true rfl) dL_law_433 ⟨by show _ ≤ 601024; omega, by show _ ≤ 7293034; omega⟩) (fun H locs E => ?_)
  refine lv_icmp_eq (tgt := 1902) C.x C.b dL_law_436 (by decide) (fun _ => ?_) (fun cb => absurd rfl cb)
  refine W.widen (k := cl + 2) (n := sl + 700) (by omega) (by omega) ?_
  exact kk L ad σ2 f _ _ ls hI2 E hl
set_option maxHeartbeats 4000000 in
set_option maxRecDepth 100000 in
theorem lc_law {p : Program} {l : Launch} {e : Env} {s : State} {m : MethodId} {below : List Frame} {meth : Method} {c : Code} {Q : State → Prop} {D : va_G} {cy : Nat → ClassId} {cJ : ClassId} {b bs Ls : Nat} {xs : Nat → Int32} (C : l_C D cy cJ p m c s #[Value.ref bs]) (SX : l_S bs Ls xs s) (hst : l.stackTraces = false) (hX : g_X (l_A s b) s) (I : gL → gA → gS → Prop) (hI9 : ∀ L ad σ, I L ad σ → (8, 0) ∈ L ∧ (9, 0) ∈ L) (hP9 : ∀ L ad σ, I L ad σ → ∀ K i, (K, i) ∈ L → K < 10 ∨ g_ty K < 9) (hsim : sim_law I) {cl sl : Nat} (hcl : cl + 2 ≤ 601024) (hsl : sl + 700 ≤ 7293034) {x4 : Int32} (h1 : g_ix (x4 + (1 : Int32)) Ls) (h2 : g_ix (x4 + (2 : Int32)) Ls) (h3 : g_ix (x4 + (3 : Int32)) Ls) (h4 : g_ix (x4 + (4 : Int32)) Ls) (h5 : g_ix (x4 + (5 : Int32)) Ls) (h6 : g_ix (x4 + (6 : Int32)) Ls)
    (kk : ∀ (L : gL) (ad : gA) (σ : gS) (f : Nat → Int64) (H : Heap) (locs : List Loc) (ls : Array Slot), I L ad σ → l_E D cy cJ b f ad L σ s H locs → lv_has ls 8 [(0, .ref bs), (1, .ref (ad 8 0)), (2, .ref (ad 9 0)), (3, .ref b), (4, .int x4)] → W p l e room_1 s m #[Value.ref bs] below meth c H locs (cl + 2) (sl + 700) Q (F0 m 1902 ls []))
    (L : gL) (ad : gA) (σ : gS) (f : Nat → Int64) (H : Heap) (locs : List Loc) (ls : Array Slot) (hI : I L ad σ) (E : l_E D cy cJ b f ad L σ s H locs) (hl : lv_has ls 8 [(0, .ref bs), (1, .ref (ad 8 0)), (2, .ref (ad 9 0)), (3, .ref b), (4, .int x4)]) : W p l e room_1 s m #[Value.ref bs] below meth c H locs cl sl Q (F0 m 441 ls []) := by
  refine lv_aload_n C.x C.b dL_law_441 rfl (lv_at hl 1 rfl) ?_
  refine lv_aload_n C.x C.b dL_law_442 rfl (lv_at hl 0 rfl) ?_
  refine lv_iload C.x C.b dL_law_443 (lv_at hl 4 rfl) ?_
  refine lv_iconst (v := (1 : Int32)) C.x C.b dL_law_445 (by decide) ?_
  refine lv_iadd C.x C.b dL_law_446 ?_
  refine va_sld C.x C.b SX.1 SX.2 (Nat.not_le.mpr SX.2) E.2.2.1 h1 dL_law_447 ?_
  refine lv_aload_n C.x C.b dL_law_448 rfl (lv_at hl 0 rfl) ?_
  refine lv_iload C.x C.b dL_law_449 (lv_at hl 4 rfl) ?_
  refine lv_iconst (v := (2 : Int32)) C.x C.b dL_law_451 (by decide) ?_
  refine lv_iadd C.x C.b dL_law_452 ?_
  refine va_sld C.x C.b SX.1 SX.2 (Nat.not_le.mpr SX.2) E.2.2.1 h2 dL_law_453 ?_
  refine lv_aload_n C.x C.b dL_law_454 rfl (lv_at hl 0 rfl) ?_
  refine lv_iload C.x C.b dL_law_455 (lv_at hl 4 rfl) ?_
  refine lv_iconst (v := (3 : Int32)) C.x C.b dL_law_457 (by decide) ?_
  refine lv_iadd C.x C.b dL_law_458 ?_
  refine va_sld C.x C.b SX.1 SX.2 (Nat.not_le.mpr SX.2) E.2.2.1 h3 dL_law_459 ?_
  refine lv_aload_n C.x C.b dL_law_460 rfl (lv_at hl 0 rfl) ?_
  refine lv_iload C.x C.b dL_law_461 (lv_at hl 4 rfl) ?_
  refine lv_iconst (v := (4 : Int32)) C.x C.b dL_law_463 (by decide) ?_
  refine lv_iadd C.x C.b dL_law_464 ?_
  refine va_sld C.x C.b SX.1 SX.2 (Nat.not_le.mpr SX.2) E.2.2.1 h4 dL_law_465 ?_
  obtain ⟨ad2, n, r, L1, σ1, σ2, ha1, ha2, hfa, e1, e2, hI2⟩ := hsim L ad σ H.size hI (xs (x4 + (1 : Int32)).toNatClampNeg) (xs (x4 + (2 : Int32)).toNatClampNeg) (xs (x4 + (3 : Int32)).toNatClampNeg) (xs (x4 + (4 : Int32)).toNatClampNeg) 
  obtain ⟨w0, w1, w2, w3⟩ := hfa
  have E := l_reloc E (hP9 L ad σ hI) ha1 ha2
  have hl : lv_has ls 8 [(0, .ref bs), (1, .ref (ad2 8 0)), (2, .ref (ad2 9 0)), (3, .ref b), (4, .int x4)] := by rw [ha1 8 0 (hI9 L ad σ hI).1, ha1 9 0 (hI9 L ad σ hI).2]; exact hl
  refine W.eq (g2 := F0 m 466 ls ([.int (xs (x4 + (4 : Int32)).toNatClampNeg), .int (xs (x4 + (3 : Int32)).toNatClampNeg), .int (xs (x4 + (2 : Int32)).toNatClampNeg), .int (xs (x4 + (1 : Int32)).toNatClampNeg)] ++ [.ref (ad2 8 0)])) (by rw [ha1 8 0 (hI9 L ad σ hI).1]; rfl) ?_
  refine l_callB E (l_runB (As := [.int (xs (x4 + (1 : Int32)).toNatClampNeg), .int (xs (x4 + (2 : Int32)).toNatClampNeg), .int (xs (x4 + (3 : Int32)).toNatClampNeg), .int (xs (x4 + (4 : Int32)).toNatClampNeg)]) (rest := []) C E 8 0 (c_X8_law l D cy (l_A s b) ad2 L σ H.size (hI9 L ad σ hI).1 (xs (x4 + (1 : Int32)).toNatClampNeg) (xs (x4 + (2 : Int32)).toNatClampNeg) (xs (x4 + (3 : Int32)).toNatClampNeg) (xs (x4 + (4 : Int32)).toNatClampNeg) n w0 w1 w2 w3 r L1 σ1 e1) ⟨tw435, tw54, tw432, ⟨tw433, tw434⟩, hd_X8_law⟩ (by decide) (hI9 L ad σ hI).1 rfl ⟨rfl, by decide⟩ hl.1 rfl (Nat.le_of_ble_eq_true rfl) dL_law_466 ⟨by show cl + _ ≤ 601024; omega, by show sl + _ ≤ 7293034; omega⟩) (fun H locs E => ?_)
  refine lv_aload_n C.x C.b dL_law_469 rfl (lv_at hl 2 rfl) ?_
  refine lv_aload_n C.x C.b dL_law_470 rfl (lv_at hl 0 rfl) ?_
  refine lv_iload C.x C.b dL_law_471 (lv_at hl 4 rfl) ?_
  refine lv_iconst (v := (1 : Int32)) C.x C.b dL_law_473 (by decide) ?_
  refine lv_iadd C.x C.b dL_law_474 ?_
  refine va_sld C.x C.b SX.1 SX.2 (Nat.not_le.mpr SX.2) E.2.2.1 h1 dL_law_475 ?_
  refine lv_aload_n C.x C.b dL_law_476 rfl (lv_at hl 0 rfl) ?_
  refine lv_iload C.x C.b dL_law_477 (lv_at hl 4 rfl) ?_
  refine lv_iconst (v := (2 : Int32)) C.x C.b dL_law_479 (by decide) ?_
  refine lv_iadd C.x C.b dL_law_480 ?_
  refine va_sld C.x C.b SX.1 SX.2 (Nat.not_le.mpr SX.2) E.2.2.1 h2 dL_law_481 ?_
  refine lv_aload_n C.x C.b dL_law_482 rfl (lv_at hl 0 rfl) ?_
  refine lv_iload C.x C.b dL_law_483 (lv_at hl 4 rfl) ?_
  refine lv_iconst (v := (3 : Int32)) C.x C.b dL_law_485 (by decide) ?_
  refine lv_iadd C.x C.b dL_law_486 ?_
  refine va_sld C.x C.b SX.1 SX.2 (Nat.not_le.mpr SX.2) E.2.2.1 h3 dL_law_487 ?_
  refine lv_aload_n C.x C.b dL_law_488 rfl (lv_at hl 0 rfl) ?_
  refine lv_iload C.x C.b dL_law_489 (lv_at hl 4 rfl) ?_
  refine lv_iconst (v := (4 : Int32)) C.x C.b dL_law_491 (by decide) ?_
  refine lv_iadd C.x C.b dL_law_492 ?_
  refine va_sld C.x C.b SX.1 SX.2 (Nat.not_le.mpr SX.2) E.2.2.1 h4 dL_law_493 ?_
  refine l_calli E (l_run (As := [.int (xs (x4 + (1 : Int32)).toNatClampNeg), .int (xs (x4 + (2 : Int32)).toNatClampNeg), .int (xs (x4 + (3 : Int32)).toNatClampNeg), .int (xs (x4 + (4 : Int32)).toNatClampNeg)]) (rest := [.int r]) C E 9 0 (c_X9_law l D cy (l_A s b) ad2 L1 σ1 (hI9 L1 ad2 σ2 hI2).2 (xs (x4 + (1 : Int32)).toNatClampNeg) (xs (x4 + (2 : Int32)).toNatClampNeg) (xs (x4 + (3 : Int32)).toNatClampNeg) (xs (x4 + (4 : Int32)).toNatClampNeg) r σ2 e2) ⟨tw1125, tw60, tw1122, ⟨tw1123, tw1124⟩, hd_X9_law⟩ (by decide) (hI9 L1 ad2 σ2 hI2).2 rfl ⟨rfl, by decide⟩ hl.1 rfl (Nat.le_of_ble_eq_true rfl) dL_law_494 ⟨by show _ ≤ 601024; omega, by show _ ≤ 7293034; omega⟩) (fun H locs E => ?_)
  refine lv_icmp_eq (tgt := 1902) C.x C.b dL_law_497 (by decide) (fun _ => ?_) (fun cb => absurd rfl cb)
  refine W.widen (k := cl + 2) (n := sl + 700) (by omega) (by omega) ?_
  exact kk L1 ad2 σ2 f _ _ ls hI2 E hl
set_option maxHeartbeats 4000000 in
set_option maxRecDepth 100000 in
theorem lc_repeal {p : Program} {l : Launch} {e : Env} {s : State} {m : MethodId} {below : List Frame} {meth : Method} {c : Code} {Q : State → Prop} {D : va_G} {cy : Nat → ClassId} {cJ : ClassId} {b bs Ls : Nat} {xs : Nat → Int32} (C : l_C D cy cJ p m c s #[Value.ref bs]) (SX : l_S bs Ls xs s) (hst : l.stackTraces = false) (hX : g_X (l_A s b) s) (I : gL → gA → gS → Prop) (hI9 : ∀ L ad σ, I L ad σ → (8, 0) ∈ L ∧ (9, 0) ∈ L) (hP9 : ∀ L ad σ, I L ad σ → ∀ K i, (K, i) ∈ L → K < 10 ∨ g_ty K < 9) (hsim : sim_repeal I) {cl sl : Nat} (hcl : cl + 2 ≤ 601024) (hsl : sl + 700 ≤ 7293034) {x4 : Int32} (h1 : g_ix (x4 + (1 : Int32)) Ls) (h2 : g_ix (x4 + (2 : Int32)) Ls) (h3 : g_ix (x4 + (3 : Int32)) Ls) (h4 : g_ix (x4 + (4 : Int32)) Ls) (h5 : g_ix (x4 + (5 : Int32)) Ls) (h6 : g_ix (x4 + (6 : Int32)) Ls)
    (kk : ∀ (L : gL) (ad : gA) (σ : gS) (f : Nat → Int64) (H : Heap) (locs : List Loc) (ls : Array Slot), I L ad σ → l_E D cy cJ b f ad L σ s H locs → lv_has ls 8 [(0, .ref bs), (1, .ref (ad 8 0)), (2, .ref (ad 9 0)), (3, .ref b), (4, .int x4)] → W p l e room_1 s m #[Value.ref bs] below meth c H locs (cl + 2) (sl + 700) Q (F0 m 1902 ls []))
    (L : gL) (ad : gA) (σ : gS) (f : Nat → Int64) (H : Heap) (locs : List Loc) (ls : Array Slot) (hI : I L ad σ) (E : l_E D cy cJ b f ad L σ s H locs) (hl : lv_has ls 8 [(0, .ref bs), (1, .ref (ad 8 0)), (2, .ref (ad 9 0)), (3, .ref b), (4, .int x4)]) : W p l e room_1 s m #[Value.ref bs] below meth c H locs cl sl Q (F0 m 502 ls []) := by
  refine lv_aload_n C.x C.b dL_law_502 rfl (lv_at hl 1 rfl) ?_
  refine lv_aload_n C.x C.b dL_law_503 rfl (lv_at hl 0 rfl) ?_
  refine lv_iload C.x C.b dL_law_504 (lv_at hl 4 rfl) ?_
  refine lv_iconst (v := (1 : Int32)) C.x C.b dL_law_506 (by decide) ?_
  refine lv_iadd C.x C.b dL_law_507 ?_
  refine va_sld C.x C.b SX.1 SX.2 (Nat.not_le.mpr SX.2) E.2.2.1 h1 dL_law_508 ?_
  refine lv_aload_n C.x C.b dL_law_509 rfl (lv_at hl 0 rfl) ?_
  refine lv_iload C.x C.b dL_law_510 (lv_at hl 4 rfl) ?_
  refine lv_iconst (v := (2 : Int32)) C.x C.b dL_law_512 (by decide) ?_
  refine lv_iadd C.x C.b dL_law_513 ?_
  refine va_sld C.x C.b SX.1 SX.2 (Nat.not_le.mpr SX.2) E.2.2.1 h2 dL_law_514 ?_
  obtain ⟨r, σ1, σ2, e1, e2, hI2⟩ := hsim L ad σ hI (xs (x4 + (1 : Int32)).toNatClampNeg) (xs (x4 + (2 : Int32)).toNatClampNeg) 
  refine l_calli E (l_run (As := [.int (xs (x4 + (1 : Int32)).toNatClampNeg), .int (xs (x4 + (2 : Int32)).toNatClampNeg)]) (rest := []) C E 8 0 (c_X8_repeal l D cy (l_A s b) ad L σ (hI9 L ad σ hI).1 (xs (x4 + (1 : Int32)).toNatClampNeg) (xs (x4 + (2 : Int32)).toNatClampNeg) r σ1 e1) ⟨tw482, tw54, tw479, ⟨tw480, tw481⟩, hd_X8_repeal⟩ (by decide) (hI9 L ad σ hI).1 rfl ⟨rfl, by decide⟩ hl.1 rfl (Nat.le_of_ble_eq_true rfl) dL_law_515 ⟨by show _ ≤ 601024; omega, by show _ ≤ 7293034; omega⟩) (fun H locs E => ?_)
  refine lv_aload_n C.x C.b dL_law_518 rfl (lv_at hl 2 rfl) ?_
  refine lv_aload_n C.x C.b dL_law_519 rfl (lv_at hl 0 rfl) ?_
  refine lv_iload C.x C.b dL_law_520 (lv_at hl 4 rfl) ?_
  refine lv_iconst (v := (1 : Int32)) C.x C.b dL_law_522 (by decide) ?_
  refine lv_iadd C.x C.b dL_law_523 ?_
  refine va_sld C.x C.b SX.1 SX.2 (Nat.not_le.mpr SX.2) E.2.2.1 h1 dL_law_524 ?_
  refine lv_aload_n C.x C.b dL_law_525 rfl (lv_at hl 0 rfl) ?_
  refine lv_iload C.x C.b dL_law_526 (lv_at hl 4 rfl) ?_
  refine lv_iconst (v := (2 : Int32)) C.x C.b dL_law_528 (by decide) ?_
  refine lv_iadd C.x C.b dL_law_529 ?_
  refine va_sld C.x C.b SX.1 SX.2 (Nat.not_le.mpr SX.2) E.2.2.1 h2 dL_law_530 ?_
  refine l_calli E (l_run (As := [.int (xs (x4 + (1 : Int32)).toNatClampNeg), .int (xs (x4 + (2 : Int32)).toNatClampNeg)]) (rest := [.int r]) C E 9 0 (c_X9_repeal l D cy (l_A s b) ad L σ1 (hI9 L ad σ hI).2 (xs (x4 + (1 : Int32)).toNatClampNeg) (xs (x4 + (2 : Int32)).toNatClampNeg) r σ2 e2) ⟨tw1133, tw60, tw1130, ⟨tw1131, tw1132⟩, hd_X9_repeal⟩ (by decide) (hI9 L ad σ hI).2 rfl ⟨rfl, by decide⟩ hl.1 rfl (Nat.le_of_ble_eq_true rfl) dL_law_531 ⟨by show _ ≤ 601024; omega, by show _ ≤ 7293034; omega⟩) (fun H locs E => ?_)
  refine lv_icmp_eq (tgt := 1902) C.x C.b dL_law_534 (by decide) (fun _ => ?_) (fun cb => absurd rfl cb)
  refine W.widen (k := cl + 2) (n := sl + 700) (by omega) (by omega) ?_
  exact kk L ad σ2 f _ _ ls hI2 E hl
set_option maxHeartbeats 4000000 in
set_option maxRecDepth 100000 in
theorem lc_stone {p : Program} {l : Launch} {e : Env} {s : State} {m : MethodId} {below : List Frame} {meth : Method} {c : Code} {Q : State → Prop} {D : va_G} {cy : Nat → ClassId} {cJ : ClassId} {b bs Ls : Nat} {xs : Nat → Int32} (C : l_C D cy cJ p m c s #[Value.ref bs]) (SX : l_S bs Ls xs s) (hst : l.stackTraces = false) (hX : g_X (l_A s b) s) (I : gL → gA → gS → Prop) (hI9 : ∀ L ad σ, I L ad σ → (8, 0) ∈ L ∧ (9, 0) ∈ L) (hP9 : ∀ L ad σ, I L ad σ → ∀ K i, (K, i) ∈ L → K < 10 ∨ g_ty K < 9) (hsim : sim_stone I) {cl sl : Nat} (hcl : cl + 2 ≤ 601024) (hsl : sl + 700 ≤ 7293034) {x4 : Int32} (h1 : g_ix (x4 + (1 : Int32)) Ls) (h2 : g_ix (x4 + (2 : Int32)) Ls) (h3 : g_ix (x4 + (3 : Int32)) Ls) (h4 : g_ix (x4 + (4 : Int32)) Ls) (h5 : g_ix (x4 + (5 : Int32)) Ls) (h6 : g_ix (x4 + (6 : Int32)) Ls)
    (kk : ∀ (L : gL) (ad : gA) (σ : gS) (f : Nat → Int64) (H : Heap) (locs : List Loc) (ls : Array Slot), I L ad σ → l_E D cy cJ b f ad L σ s H locs → lv_has ls 8 [(0, .ref bs), (1, .ref (ad 8 0)), (2, .ref (ad 9 0)), (3, .ref b), (4, .int x4)] → W p l e room_1 s m #[Value.ref bs] below meth c H locs (cl + 2) (sl + 700) Q (F0 m 1902 ls []))
    (L : gL) (ad : gA) (σ : gS) (f : Nat → Int64) (H : Heap) (locs : List Loc) (ls : Array Slot) (hI : I L ad σ) (E : l_E D cy cJ b f ad L σ s H locs) (hl : lv_has ls 8 [(0, .ref bs), (1, .ref (ad 8 0)), (2, .ref (ad 9 0)), (3, .ref b), (4, .int x4)]) : W p l e room_1 s m #[Value.ref bs] below meth c H locs cl sl Q (F0 m 539 ls []) := by
  refine lv_aload_n C.x C.b dL_law_539 rfl (lv_at hl 1 rfl) ?_
  refine lv_aload_n C.x C.b dL_law_540 rfl (lv_at hl 0 rfl) ?_
  refine lv_iload C.x C.b dL_law_541 (lv_at hl 4 rfl) ?_
  refine lv_iconst (v := (1 : Int32)) C.x C.b dL_law_543 (by decide) ?_
  refine lv_iadd C.x C.b dL_law_544 ?_
  refine va_sld C.x C.b SX.1 SX.2 (Nat.not_le.mpr SX.2) E.2.2.1 h1 dL_law_545 ?_
  refine lv_aload_n C.x C.b dL_law_546 rfl (lv_at hl 0 rfl) ?_
  refine lv_iload C.x C.b dL_law_547 (lv_at hl 4 rfl) ?_
  refine lv_iconst (v := (2 : Int32)) C.x C.b dL_law_549 (by decide) ?_
  refine lv_iadd C.x C.b dL_law_550 ?_
  refine va_sld C.x C.b SX.1 SX.2 (Nat.not_le.mpr SX.2) E.2.2.1 h2 dL_law_551 ?_
  refine lv_aload_n C.x C.b dL_law_552 rfl (lv_at hl 0 rfl) ?_
  refine lv_iload C.x C.b dL_law_553 (lv_at hl 4 rfl) ?_
  refine lv_iconst (v := (3 : Int32)) C.x C.b dL_law_555 (by decide) ?_
  refine lv_iadd C.x C.b dL_law_556 ?_
  refine va_sld C.x C.b SX.1 SX.2 (Nat.not_le.mpr SX.2) E.2.2.1 h3 dL_law_557 ?_
  obtain ⟨r, σ1, σ2, e1, e2, hI2⟩ := hsim L ad σ hI (xs (x4 + (1 : Int32)).toNatClampNeg) (xs (x4 + (2 : Int32)).toNatClampNeg) (xs (x4 + (3 : Int32)).toNatClampNeg) 
  refine l_calli E (l_run (As := [.int (xs (x4 + (1 : Int32)).toNatClampNeg), .int (xs (x4 + (2 : Int32)).toNatClampNeg), .int (xs (x4 + (3 : Int32)).toNatClampNeg)]) (rest := []) C E 8 0 (c_X8_stone l D cy (l_A s b) ad L σ (hI9 L ad σ hI).1 (xs (x4 + (1 : Int32)).toNatClampNeg) (xs (x4 + (2 : Int32)).toNatClampNeg) (xs (x4 + (3 : Int32)).toNatClampNeg) r σ1 e1) ⟨tw490, tw54, tw487, ⟨tw488, tw489⟩, hd_X8_stone⟩ (by decide) (hI9 L ad σ hI).1 rfl ⟨rfl, by decide⟩ hl.1 rfl (Nat.le_of_ble_eq_true rfl) dL_law_558 ⟨by show _ ≤ 601024; omega, by show _ ≤ 7293034; omega⟩) (fun H locs E => ?_)
  refine lv_aload_n C.x C.b dL_law_561 rfl (lv_at hl 2 rfl) ?_
  refine lv_aload_n C.x C.b dL_law_562 rfl (lv_at hl 0 rfl) ?_
  refine lv_iload C.x C.b dL_law_563 (lv_at hl 4 rfl) ?_
  refine lv_iconst (v := (1 : Int32)) C.x C.b dL_law_565 (by decide) ?_
  refine lv_iadd C.x C.b dL_law_566 ?_
  refine va_sld C.x C.b SX.1 SX.2 (Nat.not_le.mpr SX.2) E.2.2.1 h1 dL_law_567 ?_
  refine lv_aload_n C.x C.b dL_law_568 rfl (lv_at hl 0 rfl) ?_
  refine lv_iload C.x C.b dL_law_569 (lv_at hl 4 rfl) ?_
  refine lv_iconst (v := (2 : Int32)) C.x C.b dL_law_571 (by decide) ?_
  refine lv_iadd C.x C.b dL_law_572 ?_
  refine va_sld C.x C.b SX.1 SX.2 (Nat.not_le.mpr SX.2) E.2.2.1 h2 dL_law_573 ?_
  refine lv_aload_n C.x C.b dL_law_574 rfl (lv_at hl 0 rfl) ?_
  refine lv_iload C.x C.b dL_law_575 (lv_at hl 4 rfl) ?_
  refine lv_iconst (v := (3 : Int32)) C.x C.b dL_law_577 (by decide) ?_
  refine lv_iadd C.x C.b dL_law_578 ?_
  refine va_sld C.x C.b SX.1 SX.2 (Nat.not_le.mpr SX.2) E.2.2.1 h3 dL_law_579 ?_
  refine l_calli E (l_run (As := [.int (xs (x4 + (1 : Int32)).toNatClampNeg), .int (xs (x4 + (2 : Int32)).toNatClampNeg), .int (xs (x4 + (3 : Int32)).toNatClampNeg)]) (rest := [.int r]) C E 9 0 (c_X9_stone l D cy (l_A s b) ad L σ1 (hI9 L ad σ hI).2 (xs (x4 + (1 : Int32)).toNatClampNeg) (xs (x4 + (2 : Int32)).toNatClampNeg) (xs (x4 + (3 : Int32)).toNatClampNeg) r σ2 e2) ⟨tw1137, tw60, tw1134, ⟨tw1135, tw1136⟩, hd_X9_stone⟩ (by decide) (hI9 L ad σ hI).2 rfl ⟨rfl, by decide⟩ hl.1 rfl (Nat.le_of_ble_eq_true rfl) dL_law_580 ⟨by show _ ≤ 601024; omega, by show _ ≤ 7293034; omega⟩) (fun H locs E => ?_)
  refine lv_icmp_eq (tgt := 1902) C.x C.b dL_law_583 (by decide) (fun _ => ?_) (fun cb => absurd rfl cb)
  refine W.widen (k := cl + 2) (n := sl + 700) (by omega) (by omega) ?_
  exact kk L ad σ2 f _ _ ls hI2 E hl
set_option maxHeartbeats 4000000 in
set_option maxRecDepth 100000 in
theorem lc_empty {p : Program} {l : Launch} {e : Env} {s : State} {m : MethodId} {below : List Frame} {meth : Method} {c : Code} {Q : State → Prop} {D : va_G} {cy : Nat → ClassId} {cJ : ClassId} {b bs Ls : Nat} {xs : Nat → Int32} (C : l_C D cy cJ p m c s #[Value.ref bs]) (SX : l_S bs Ls xs s) (hst : l.stackTraces = false) (hX : g_X (l_A s b) s) (I : gL → gA → gS → Prop) (hI9 : ∀ L ad σ, I L ad σ → (8, 0) ∈ L ∧ (9, 0) ∈ L) (hP9 : ∀ L ad σ, I L ad σ → ∀ K i, (K, i) ∈ L → K < 10 ∨ g_ty K < 9) (hsim : sim_empty I) {cl sl : Nat} (hcl : cl + 2 ≤ 601024) (hsl : sl + 700 ≤ 7293034) {x4 : Int32} (h1 : g_ix (x4 + (1 : Int32)) Ls) (h2 : g_ix (x4 + (2 : Int32)) Ls) (h3 : g_ix (x4 + (3 : Int32)) Ls) (h4 : g_ix (x4 + (4 : Int32)) Ls) (h5 : g_ix (x4 + (5 : Int32)) Ls) (h6 : g_ix (x4 + (6 : Int32)) Ls)
    (kk : ∀ (L : gL) (ad : gA) (σ : gS) (f : Nat → Int64) (H : Heap) (locs : List Loc) (ls : Array Slot), I L ad σ → l_E D cy cJ b f ad L σ s H locs → lv_has ls 8 [(0, .ref bs), (1, .ref (ad 8 0)), (2, .ref (ad 9 0)), (3, .ref b), (4, .int x4)] → W p l e room_1 s m #[Value.ref bs] below meth c H locs (cl + 2) (sl + 700) Q (F0 m 1902 ls []))
    (L : gL) (ad : gA) (σ : gS) (f : Nat → Int64) (H : Heap) (locs : List Loc) (ls : Array Slot) (hI : I L ad σ) (E : l_E D cy cJ b f ad L σ s H locs) (hl : lv_has ls 8 [(0, .ref bs), (1, .ref (ad 8 0)), (2, .ref (ad 9 0)), (3, .ref b), (4, .int x4)]) : W p l e room_1 s m #[Value.ref bs] below meth c H locs cl sl Q (F0 m 588 ls []) := by
  refine lv_aload_n C.x C.b dL_law_588 rfl (lv_at hl 1 rfl) ?_
  refine lv_aload_n C.x C.b dL_law_589 rfl (lv_at hl 0 rfl) ?_
  refine lv_iload C.x C.b dL_law_590 (lv_at hl 4 rfl) ?_
  refine lv_iconst (v := (1 : Int32)) C.x C.b dL_law_592 (by decide) ?_
  refine lv_iadd C.x C.b dL_law_593 ?_
  refine va_sld C.x C.b SX.1 SX.2 (Nat.not_le.mpr SX.2) E.2.2.1 h1 dL_law_594 ?_
  refine lv_aload_n C.x C.b dL_law_595 rfl (lv_at hl 0 rfl) ?_
  refine lv_iload C.x C.b dL_law_596 (lv_at hl 4 rfl) ?_
  refine lv_iconst (v := (2 : Int32)) C.x C.b dL_law_598 (by decide) ?_
  refine lv_iadd C.x C.b dL_law_599 ?_
  refine va_sld C.x C.b SX.1 SX.2 (Nat.not_le.mpr SX.2) E.2.2.1 h2 dL_law_600 ?_
  refine lv_aload_n C.x C.b dL_law_601 rfl (lv_at hl 0 rfl) ?_
  refine lv_iload C.x C.b dL_law_602 (lv_at hl 4 rfl) ?_
  refine lv_iconst (v := (3 : Int32)) C.x C.b dL_law_604 (by decide) ?_
  refine lv_iadd C.x C.b dL_law_605 ?_
  refine va_sld C.x C.b SX.1 SX.2 (Nat.not_le.mpr SX.2) E.2.2.1 h3 dL_law_606 ?_
  obtain ⟨r, σ1, σ2, e1, e2, hI2⟩ := hsim L ad σ hI (xs (x4 + (1 : Int32)).toNatClampNeg) (xs (x4 + (2 : Int32)).toNatClampNeg) (xs (x4 + (3 : Int32)).toNatClampNeg) 
  refine l_calli E (l_run (As := [.int (xs (x4 + (1 : Int32)).toNatClampNeg), .int (xs (x4 + (2 : Int32)).toNatClampNeg), .int (xs (x4 + (3 : Int32)).toNatClampNeg)]) (rest := []) C E 8 0 (c_X8_empty l D cy (l_A s b) ad L σ (hI9 L ad σ hI).1 (xs (x4 + (1 : Int32)).toNatClampNeg) (xs (x4 + (2 : Int32)).toNatClampNeg) (xs (x4 + (3 : Int32)).toNatClampNeg) r σ1 e1) ⟨tw510, tw54, tw507, ⟨tw508, tw509⟩, hd_X8_empty⟩ (by decide) (hI9 L ad σ hI).1 rfl ⟨rfl, by decide⟩ hl.1 rfl (Nat.le_of_ble_eq_true rfl) dL_law_607 ⟨by show _ ≤ 601024; omega, by show _ ≤ 7293034; omega⟩) (fun H locs E => ?_)
  refine lv_aload_n C.x C.b dL_law_610 rfl (lv_at hl 2 rfl) ?_
  refine lv_aload_n C.x C.b dL_law_611 rfl (lv_at hl 0 rfl) ?_
  refine lv_iload C.x C.b dL_law_612 (lv_at hl 4 rfl) ?_
  refine lv_iconst (v := (1 : Int32)) C.x C.b dL_law_614 (by decide) ?_
  refine lv_iadd C.x C.b dL_law_615 ?_
  refine va_sld C.x C.b SX.1 SX.2 (Nat.not_le.mpr SX.2) E.2.2.1 h1 dL_law_616 ?_
  refine lv_aload_n C.x C.b dL_law_617 rfl (lv_at hl 0 rfl) ?_
  refine lv_iload C.x C.b dL_law_618 (lv_at hl 4 rfl) ?_
  refine lv_iconst (v := (2 : Int32)) C.x C.b dL_law_620 (by decide) ?_
  refine lv_iadd C.x C.b dL_law_621 ?_
  refine va_sld C.x C.b SX.1 SX.2 (Nat.not_le.mpr SX.2) E.2.2.1 h2 dL_law_622 ?_
  refine lv_aload_n C.x C.b dL_law_623 rfl (lv_at hl 0 rfl) ?_
  refine lv_iload C.x C.b dL_law_624 (lv_at hl 4 rfl) ?_
  refine lv_iconst (v := (3 : Int32)) C.x C.b dL_law_626 (by decide) ?_
  refine lv_iadd C.x C.b dL_law_627 ?_
  refine va_sld C.x C.b SX.1 SX.2 (Nat.not_le.mpr SX.2) E.2.2.1 h3 dL_law_628 ?_
  refine l_calli E (l_run (As := [.int (xs (x4 + (1 : Int32)).toNatClampNeg), .int (xs (x4 + (2 : Int32)).toNatClampNeg), .int (xs (x4 + (3 : Int32)).toNatClampNeg)]) (rest := [.int r]) C E 9 0 (c_X9_empty l D cy (l_A s b) ad L σ1 (hI9 L ad σ hI).2 (xs (x4 + (1 : Int32)).toNatClampNeg) (xs (x4 + (2 : Int32)).toNatClampNeg) (xs (x4 + (3 : Int32)).toNatClampNeg) r σ2 e2) ⟨tw1149, tw60, tw1146, ⟨tw1147, tw1148⟩, hd_X9_empty⟩ (by decide) (hI9 L ad σ hI).2 rfl ⟨rfl, by decide⟩ hl.1 rfl (Nat.le_of_ble_eq_true rfl) dL_law_629 ⟨by show _ ≤ 601024; omega, by show _ ≤ 7293034; omega⟩) (fun H locs E => ?_)
  refine lv_icmp_eq (tgt := 1902) C.x C.b dL_law_632 (by decide) (fun _ => ?_) (fun cb => absurd rfl cb)
  refine W.widen (k := cl + 2) (n := sl + 700) (by omega) (by omega) ?_
  exact kk L ad σ2 f _ _ ls hI2 E hl
set_option maxHeartbeats 4000000 in
set_option maxRecDepth 100000 in
theorem lc_annul {p : Program} {l : Launch} {e : Env} {s : State} {m : MethodId} {below : List Frame} {meth : Method} {c : Code} {Q : State → Prop} {D : va_G} {cy : Nat → ClassId} {cJ : ClassId} {b bs Ls : Nat} {xs : Nat → Int32} (C : l_C D cy cJ p m c s #[Value.ref bs]) (SX : l_S bs Ls xs s) (hst : l.stackTraces = false) (hX : g_X (l_A s b) s) (I : gL → gA → gS → Prop) (hI9 : ∀ L ad σ, I L ad σ → (8, 0) ∈ L ∧ (9, 0) ∈ L) (hP9 : ∀ L ad σ, I L ad σ → ∀ K i, (K, i) ∈ L → K < 10 ∨ g_ty K < 9) (hsim : sim_annul I) {cl sl : Nat} (hcl : cl + 2 ≤ 601024) (hsl : sl + 700 ≤ 7293034) {x4 : Int32} (h1 : g_ix (x4 + (1 : Int32)) Ls) (h2 : g_ix (x4 + (2 : Int32)) Ls) (h3 : g_ix (x4 + (3 : Int32)) Ls) (h4 : g_ix (x4 + (4 : Int32)) Ls) (h5 : g_ix (x4 + (5 : Int32)) Ls) (h6 : g_ix (x4 + (6 : Int32)) Ls)
    (kk : ∀ (L : gL) (ad : gA) (σ : gS) (f : Nat → Int64) (H : Heap) (locs : List Loc) (ls : Array Slot), I L ad σ → l_E D cy cJ b f ad L σ s H locs → lv_has ls 8 [(0, .ref bs), (1, .ref (ad 8 0)), (2, .ref (ad 9 0)), (3, .ref b), (4, .int x4)] → W p l e room_1 s m #[Value.ref bs] below meth c H locs (cl + 2) (sl + 700) Q (F0 m 1902 ls []))
    (L : gL) (ad : gA) (σ : gS) (f : Nat → Int64) (H : Heap) (locs : List Loc) (ls : Array Slot) (hI : I L ad σ) (E : l_E D cy cJ b f ad L σ s H locs) (hl : lv_has ls 8 [(0, .ref bs), (1, .ref (ad 8 0)), (2, .ref (ad 9 0)), (3, .ref b), (4, .int x4)]) : W p l e room_1 s m #[Value.ref bs] below meth c H locs cl sl Q (F0 m 637 ls []) := by
  refine lv_aload_n C.x C.b dL_law_637 rfl (lv_at hl 1 rfl) ?_
  refine lv_aload_n C.x C.b dL_law_638 rfl (lv_at hl 0 rfl) ?_
  refine lv_iload C.x C.b dL_law_639 (lv_at hl 4 rfl) ?_
  refine lv_iconst (v := (1 : Int32)) C.x C.b dL_law_641 (by decide) ?_
  refine lv_iadd C.x C.b dL_law_642 ?_
  refine va_sld C.x C.b SX.1 SX.2 (Nat.not_le.mpr SX.2) E.2.2.1 h1 dL_law_643 ?_
  refine lv_aload_n C.x C.b dL_law_644 rfl (lv_at hl 0 rfl) ?_
  refine lv_iload C.x C.b dL_law_645 (lv_at hl 4 rfl) ?_
  refine lv_iconst (v := (2 : Int32)) C.x C.b dL_law_647 (by decide) ?_
  refine lv_iadd C.x C.b dL_law_648 ?_
  refine va_sld C.x C.b SX.1 SX.2 (Nat.not_le.mpr SX.2) E.2.2.1 h2 dL_law_649 ?_
  refine lv_aload_n C.x C.b dL_law_650 rfl (lv_at hl 0 rfl) ?_
  refine lv_iload C.x C.b dL_law_651 (lv_at hl 4 rfl) ?_
  refine lv_iconst (v := (3 : Int32)) C.x C.b dL_law_653 (by decide) ?_
  refine lv_iadd C.x C.b dL_law_654 ?_
  refine va_sld C.x C.b SX.1 SX.2 (Nat.not_le.mpr SX.2) E.2.2.1 h3 dL_law_655 ?_
  refine lv_aload_n C.x C.b dL_law_656 rfl (lv_at hl 0 rfl) ?_
  refine lv_iload C.x C.b dL_law_657 (lv_at hl 4 rfl) ?_
  refine lv_iconst (v := (4 : Int32)) C.x C.b dL_law_659 (by decide) ?_
  refine lv_iadd C.x C.b dL_law_660 ?_
  refine va_sld C.x C.b SX.1 SX.2 (Nat.not_le.mpr SX.2) E.2.2.1 h4 dL_law_661 ?_
  refine lv_if_eq (tgt := 669) C.x C.b dL_law_662 (by decide) (fun cb0 => ?_) (fun cb0 => ?_)
  · skip
    refine lv_iconst (v := (0 : Int32)) C.x C.b dL_law_669 (by decide) ?_
    obtain ⟨r, σ1, σ2, e1, e2, hI2⟩ := hsim L ad σ hI (xs (x4 + (1 : Int32)).toNatClampNeg) (xs (x4 + (2 : Int32)).toNatClampNeg) (xs (x4 + (3 : Int32)).toNatClampNeg) (0 : Int32) (by first | exact Or.inl rfl | exact Or.inr rfl)
    refine l_calli E (l_run (As := [.int (xs (x4 + (1 : Int32)).toNatClampNeg), .int (xs (x4 + (2 : Int32)).toNatClampNeg), .int (xs (x4 + (3 : Int32)).toNatClampNeg), .int (0 : Int32)]) (rest := []) C E 8 0 (c_X8_annul l D cy (l_A s b) ad L σ (hI9 L ad σ hI).1 (xs (x4 + (1 : Int32)).toNatClampNeg) (xs (x4 + (2 : Int32)).toNatClampNeg) (xs (x4 + (3 : Int32)).toNatClampNeg) (0 : Int32) r σ1 e1) ⟨tw531, tw54, tw528, ⟨tw529, tw530⟩, hd_X8_annul⟩ (by decide) (hI9 L ad σ hI).1 rfl ⟨rfl, by decide⟩ hl.1 rfl (Nat.le_of_ble_eq_true rfl) dL_law_670 ⟨by show _ ≤ 601024; omega, by show _ ≤ 7293034; omega⟩) (fun H locs E => ?_)
    refine lv_aload_n C.x C.b dL_law_673 rfl (lv_at hl 2 rfl) ?_
    refine lv_aload_n C.x C.b dL_law_674 rfl (lv_at hl 0 rfl) ?_
    refine lv_iload C.x C.b dL_law_675 (lv_at hl 4 rfl) ?_
    refine lv_iconst (v := (1 : Int32)) C.x C.b dL_law_677 (by decide) ?_
    refine lv_iadd C.x C.b dL_law_678 ?_
    refine va_sld C.x C.b SX.1 SX.2 (Nat.not_le.mpr SX.2) E.2.2.1 h1 dL_law_679 ?_
    refine lv_aload_n C.x C.b dL_law_680 rfl (lv_at hl 0 rfl) ?_
    refine lv_iload C.x C.b dL_law_681 (lv_at hl 4 rfl) ?_
    refine lv_iconst (v := (2 : Int32)) C.x C.b dL_law_683 (by decide) ?_
    refine lv_iadd C.x C.b dL_law_684 ?_
    refine va_sld C.x C.b SX.1 SX.2 (Nat.not_le.mpr SX.2) E.2.2.1 h2 dL_law_685 ?_
    refine lv_aload_n C.x C.b dL_law_686 rfl (lv_at hl 0 rfl) ?_
    refine lv_iload C.x C.b dL_law_687 (lv_at hl 4 rfl) ?_
    refine lv_iconst (v := (3 : Int32)) C.x C.b dL_law_689 (by decide) ?_
    refine lv_iadd C.x C.b dL_law_690 ?_
    refine va_sld C.x C.b SX.1 SX.2 (Nat.not_le.mpr SX.2) E.2.2.1 h3 dL_law_691 ?_
    refine lv_aload_n C.x C.b dL_law_692 rfl (lv_at hl 0 rfl) ?_
    refine lv_iload C.x C.b dL_law_693 (lv_at hl 4 rfl) ?_
    refine lv_iconst (v := (4 : Int32)) C.x C.b dL_law_695 (by decide) ?_
    refine lv_iadd C.x C.b dL_law_696 ?_
    refine va_sld C.x C.b SX.1 SX.2 (Nat.not_le.mpr SX.2) E.2.2.1 h4 dL_law_697 ?_
    refine lv_if_eq (tgt := 705) C.x C.b dL_law_698 (by decide) (fun _ => ?_) (fun cb => absurd cb0 cb)
    refine lv_iconst (v := (0 : Int32)) C.x C.b dL_law_705 (by decide) ?_
    refine l_calli E (l_run (As := [.int (xs (x4 + (1 : Int32)).toNatClampNeg), .int (xs (x4 + (2 : Int32)).toNatClampNeg), .int (xs (x4 + (3 : Int32)).toNatClampNeg), .int (0 : Int32)]) (rest := [.int r]) C E 9 0 (c_X9_annul l D cy (l_A s b) ad L σ1 (hI9 L ad σ hI).2 (xs (x4 + (1 : Int32)).toNatClampNeg) (xs (x4 + (2 : Int32)).toNatClampNeg) (xs (x4 + (3 : Int32)).toNatClampNeg) (0 : Int32) r σ2 e2) ⟨tw1161, tw60, tw1158, ⟨tw1159, tw1160⟩, hd_X9_annul⟩ (by decide) (hI9 L ad σ hI).2 rfl ⟨rfl, by decide⟩ hl.1 rfl (Nat.le_of_ble_eq_true rfl) dL_law_706 ⟨by show _ ≤ 601024; omega, by show _ ≤ 7293034; omega⟩) (fun H locs E => ?_)
    refine lv_icmp_eq (tgt := 1902) C.x C.b dL_law_709 (by decide) (fun _ => ?_) (fun cb => absurd rfl cb)
    refine W.widen (k := cl + 2) (n := sl + 700) (by omega) (by omega) ?_
    exact kk L ad σ2 f _ _ ls hI2 E hl
  · skip
    refine lv_iconst (v := (1 : Int32)) C.x C.b dL_law_665 (by decide) ?_
    refine lv_goto (tgt := 670) C.x C.b dL_law_666 (by decide) ?_
    obtain ⟨r, σ1, σ2, e1, e2, hI2⟩ := hsim L ad σ hI (xs (x4 + (1 : Int32)).toNatClampNeg) (xs (x4 + (2 : Int32)).toNatClampNeg) (xs (x4 + (3 : Int32)).toNatClampNeg) (1 : Int32) (by first | exact Or.inl rfl | exact Or.inr rfl)
    refine l_calli E (l_run (As := [.int (xs (x4 + (1 : Int32)).toNatClampNeg), .int (xs (x4 + (2 : Int32)).toNatClampNeg), .int (xs (x4 + (3 : Int32)).toNatClampNeg), .int (1 : Int32)]) (rest := []) C E 8 0 (c_X8_annul l D cy (l_A s b) ad L σ (hI9 L ad σ hI).1 (xs (x4 + (1 : Int32)).toNatClampNeg) (xs (x4 + (2 : Int32)).toNatClampNeg) (xs (x4 + (3 : Int32)).toNatClampNeg) (1 : Int32) r σ1 e1) ⟨tw531, tw54, tw528, ⟨tw529, tw530⟩, hd_X8_annul⟩ (by decide) (hI9 L ad σ hI).1 rfl ⟨rfl, by decide⟩ hl.1 rfl (Nat.le_of_ble_eq_true rfl) dL_law_670 ⟨by show _ ≤ 601024; omega, by show _ ≤ 7293034; omega⟩) (fun H locs E => ?_)
    refine lv_aload_n C.x C.b dL_law_673 rfl (lv_at hl 2 rfl) ?_
    refine lv_aload_n C.x C.b dL_law_674 rfl (lv_at hl 0 rfl) ?_
    refine lv_iload C.x C.b dL_law_675 (lv_at hl 4 rfl) ?_
    refine lv_iconst (v := (1 : Int32)) C.x C.b dL_law_677 (by decide) ?_
    refine lv_iadd C.x C.b dL_law_678 ?_
    refine va_sld C.x C.b SX.1 SX.2 (Nat.not_le.mpr SX.2) E.2.2.1 h1 dL_law_679 ?_
    refine lv_aload_n C.x C.b dL_law_680 rfl (lv_at hl 0 rfl) ?_
    refine lv_iload C.x C.b dL_law_681 (lv_at hl 4 rfl) ?_
    refine lv_iconst (v := (2 : Int32)) C.x C.b dL_law_683 (by decide) ?_
    refine lv_iadd C.x C.b dL_law_684 ?_
    refine va_sld C.x C.b SX.1 SX.2 (Nat.not_le.mpr SX.2) E.2.2.1 h2 dL_law_685 ?_
    refine lv_aload_n C.x C.b dL_law_686 rfl (lv_at hl 0 rfl) ?_
    refine lv_iload C.x C.b dL_law_687 (lv_at hl 4 rfl) ?_
    refine lv_iconst (v := (3 : Int32)) C.x C.b dL_law_689 (by decide) ?_
    refine lv_iadd C.x C.b dL_law_690 ?_
    refine va_sld C.x C.b SX.1 SX.2 (Nat.not_le.mpr SX.2) E.2.2.1 h3 dL_law_691 ?_
    refine lv_aload_n C.x C.b dL_law_692 rfl (lv_at hl 0 rfl) ?_
    refine lv_iload C.x C.b dL_law_693 (lv_at hl 4 rfl) ?_
    refine lv_iconst (v := (4 : Int32)) C.x C.b dL_law_695 (by decide) ?_
    refine lv_iadd C.x C.b dL_law_696 ?_
    refine va_sld C.x C.b SX.1 SX.2 (Nat.not_le.mpr SX.2) E.2.2.1 h4 dL_law_697 ?_
    refine lv_if_eq (tgt := 705) C.x C.b dL_law_698 (by decide) (fun cb => absurd cb cb0) (fun _ => ?_)
    refine lv_iconst (v := (1 : Int32)) C.x C.b dL_law_701 (by decide) ?_
    refine lv_goto (tgt := 706) C.x C.b dL_law_702 (by decide) ?_
    refine l_calli E (l_run (As := [.int (xs (x4 + (1 : Int32)).toNatClampNeg), .int (xs (x4 + (2 : Int32)).toNatClampNeg), .int (xs (x4 + (3 : Int32)).toNatClampNeg), .int (1 : Int32)]) (rest := [.int r]) C E 9 0 (c_X9_annul l D cy (l_A s b) ad L σ1 (hI9 L ad σ hI).2 (xs (x4 + (1 : Int32)).toNatClampNeg) (xs (x4 + (2 : Int32)).toNatClampNeg) (xs (x4 + (3 : Int32)).toNatClampNeg) (1 : Int32) r σ2 e2) ⟨tw1161, tw60, tw1158, ⟨tw1159, tw1160⟩, hd_X9_annul⟩ (by decide) (hI9 L ad σ hI).2 rfl ⟨rfl, by decide⟩ hl.1 rfl (Nat.le_of_ble_eq_true rfl) dL_law_706 ⟨by show _ ≤ 601024; omega, by show _ ≤ 7293034; omega⟩) (fun H locs E => ?_)
    refine lv_icmp_eq (tgt := 1902) C.x C.b dL_law_709 (by decide) (fun _ => ?_) (fun cb => absurd rfl cb)
    refine W.widen (k := cl + 2) (n := sl + 700) (by omega) (by omega) ?_
    exact kk L ad σ2 f _ _ ls hI2 E hl
set_option maxHeartbeats 4000000 in
set_option maxRecDepth 100000 in
theorem lc_seat {p : Program} {l : Launch} {e : Env} {s : State} {m : MethodId} {below : List Frame} {meth : Method} {c : Code} {Q : State → Prop} {D : va_G} {cy : Nat → ClassId} {cJ : ClassId} {b bs Ls : Nat} {xs : Nat → Int32} (C : l_C D cy cJ p m c s #[Value.ref bs]) (SX : l_S bs Ls xs s) (hst : l.stackTraces = false) (hX : g_X (l_A s b) s) (I : gL → gA → gS → Prop) (hI9 : ∀ L ad σ, I L ad σ → (8, 0) ∈ L ∧ (9, 0) ∈ L) (hP9 : ∀ L ad σ, I L ad σ → ∀ K i, (K, i) ∈ L → K < 10 ∨ g_ty K < 9) (hsim : sim_seat I) {cl sl : Nat} (hcl : cl + 2 ≤ 601024) (hsl : sl + 700 ≤ 7293034) {x4 : Int32} (h1 : g_ix (x4 + (1 : Int32)) Ls) (h2 : g_ix (x4 + (2 : Int32)) Ls) (h3 : g_ix (x4 + (3 : Int32)) Ls) (h4 : g_ix (x4 + (4 : Int32)) Ls) (h5 : g_ix (x4 + (5 : Int32)) Ls) (h6 : g_ix (x4 + (6 : Int32)) Ls)
    (kk : ∀ (L : gL) (ad : gA) (σ : gS) (f : Nat → Int64) (H : Heap) (locs : List Loc) (ls : Array Slot), I L ad σ → l_E D cy cJ b f ad L σ s H locs → lv_has ls 8 [(0, .ref bs), (1, .ref (ad 8 0)), (2, .ref (ad 9 0)), (3, .ref b), (4, .int x4)] → W p l e room_1 s m #[Value.ref bs] below meth c H locs (cl + 2) (sl + 700) Q (F0 m 1902 ls []))
    (L : gL) (ad : gA) (σ : gS) (f : Nat → Int64) (H : Heap) (locs : List Loc) (ls : Array Slot) (hI : I L ad σ) (E : l_E D cy cJ b f ad L σ s H locs) (hl : lv_has ls 8 [(0, .ref bs), (1, .ref (ad 8 0)), (2, .ref (ad 9 0)), (3, .ref b), (4, .int x4)]) : W p l e room_1 s m #[Value.ref bs] below meth c H locs cl sl Q (F0 m 714 ls []) := by
  refine lv_aload_n C.x C.b dL_law_714 rfl (lv_at hl 1 rfl) ?_
  refine lv_aload_n C.x C.b dL_law_715 rfl (lv_at hl 0 rfl) ?_
  refine lv_iload C.x C.b dL_law_716 (lv_at hl 4 rfl) ?_
  refine lv_iconst (v := (1 : Int32)) C.x C.b dL_law_718 (by decide) ?_
  refine lv_iadd C.x C.b dL_law_719 ?_
  refine va_sld C.x C.b SX.1 SX.2 (Nat.not_le.mpr SX.2) E.2.2.1 h1 dL_law_720 ?_
  refine lv_aload_n C.x C.b dL_law_721 rfl (lv_at hl 0 rfl) ?_
  refine lv_iload C.x C.b dL_law_722 (lv_at hl 4 rfl) ?_
  refine lv_iconst (v := (2 : Int32)) C.x C.b dL_law_724 (by decide) ?_
  refine lv_iadd C.x C.b dL_law_725 ?_
  refine va_sld C.x C.b SX.1 SX.2 (Nat.not_le.mpr SX.2) E.2.2.1 h2 dL_law_726 ?_
  refine lv_aload_n C.x C.b dL_law_727 rfl (lv_at hl 0 rfl) ?_
  refine lv_iload C.x C.b dL_law_728 (lv_at hl 4 rfl) ?_
  refine lv_iconst (v := (3 : Int32)) C.x C.b dL_law_730 (by decide) ?_
  refine lv_iadd C.x C.b dL_law_731 ?_
  refine va_sld C.x C.b SX.1 SX.2 (Nat.not_le.mpr SX.2) E.2.2.1 h3 dL_law_732 ?_
  obtain ⟨r, e1, e2, hI2⟩ := hsim L ad σ hI (xs (x4 + (1 : Int32)).toNatClampNeg) (xs (x4 + (2 : Int32)).toNatClampNeg) (xs (x4 + (3 : Int32)).toNatClampNeg) 
  refine l_calli E (l_run (As := [.int (xs (x4 + (1 : Int32)).toNatClampNeg), .int (xs (x4 + (2 : Int32)).toNatClampNeg), .int (xs (x4 + (3 : Int32)).toNatClampNeg)]) (rest := []) C E 8 0 (c_X8_seat l D cy (l_A s b) ad L σ (hI9 L ad σ hI).1 (xs (x4 + (1 : Int32)).toNatClampNeg) (xs (x4 + (2 : Int32)).toNatClampNeg) (xs (x4 + (3 : Int32)).toNatClampNeg) r e1) ⟨tw540, tw54, tw537, ⟨tw538, tw539⟩, hd_X8_seat⟩ (by decide) (hI9 L ad σ hI).1 rfl ⟨rfl, by decide⟩ hl.1 rfl (Nat.le_of_ble_eq_true rfl) dL_law_733 ⟨by show _ ≤ 601024; omega, by show _ ≤ 7293034; omega⟩) (fun H locs E => ?_)
  refine lv_aload_n C.x C.b dL_law_736 rfl (lv_at hl 2 rfl) ?_
  refine lv_aload_n C.x C.b dL_law_737 rfl (lv_at hl 0 rfl) ?_
  refine lv_iload C.x C.b dL_law_738 (lv_at hl 4 rfl) ?_
  refine lv_iconst (v := (1 : Int32)) C.x C.b dL_law_740 (by decide) ?_
  refine lv_iadd C.x C.b dL_law_741 ?_
  refine va_sld C.x C.b SX.1 SX.2 (Nat.not_le.mpr SX.2) E.2.2.1 h1 dL_law_742 ?_
  refine lv_aload_n C.x C.b dL_law_743 rfl (lv_at hl 0 rfl) ?_
  refine lv_iload C.x C.b dL_law_744 (lv_at hl 4 rfl) ?_
  refine lv_iconst (v := (2 : Int32)) C.x C.b dL_law_746 (by decide) ?_
  refine lv_iadd C.x C.b dL_law_747 ?_
  refine va_sld C.x C.b SX.1 SX.2 (Nat.not_le.mpr SX.2) E.2.2.1 h2 dL_law_748 ?_
  refine lv_aload_n C.x C.b dL_law_749 rfl (lv_at hl 0 rfl) ?_
  refine lv_iload C.x C.b dL_law_750 (lv_at hl 4 rfl) ?_
  refine lv_iconst (v := (3 : Int32)) C.x C.b dL_law_752 (by decide) ?_
  refine lv_iadd C.x C.b dL_law_753 ?_
  refine va_sld C.x C.b SX.1 SX.2 (Nat.not_le.mpr SX.2) E.2.2.1 h3 dL_law_754 ?_
  refine l_calli E (l_run (As := [.int (xs (x4 + (1 : Int32)).toNatClampNeg), .int (xs (x4 + (2 : Int32)).toNatClampNeg), .int (xs (x4 + (3 : Int32)).toNatClampNeg)]) (rest := [.int r]) C E 9 0 (c_X9_seat l D cy (l_A s b) ad L σ (hI9 L ad σ hI).2 (xs (x4 + (1 : Int32)).toNatClampNeg) (xs (x4 + (2 : Int32)).toNatClampNeg) (xs (x4 + (3 : Int32)).toNatClampNeg) r e2) ⟨tw1165, tw60, tw1162, ⟨tw1163, tw1164⟩, hd_X9_seat⟩ (by decide) (hI9 L ad σ hI).2 rfl ⟨rfl, by decide⟩ hl.1 rfl (Nat.le_of_ble_eq_true rfl) dL_law_755 ⟨by show _ ≤ 601024; omega, by show _ ≤ 7293034; omega⟩) (fun H locs E => ?_)
  refine lv_icmp_eq (tgt := 1902) C.x C.b dL_law_758 (by decide) (fun _ => ?_) (fun cb => absurd rfl cb)
  refine W.widen (k := cl + 2) (n := sl + 700) (by omega) (by omega) ?_
  exact kk L ad σ f _ _ ls hI2 E hl
set_option maxHeartbeats 4000000 in
set_option maxRecDepth 100000 in
theorem lc_holds {p : Program} {l : Launch} {e : Env} {s : State} {m : MethodId} {below : List Frame} {meth : Method} {c : Code} {Q : State → Prop} {D : va_G} {cy : Nat → ClassId} {cJ : ClassId} {b bs Ls : Nat} {xs : Nat → Int32} (C : l_C D cy cJ p m c s #[Value.ref bs]) (SX : l_S bs Ls xs s) (hst : l.stackTraces = false) (hX : g_X (l_A s b) s) (I : gL → gA → gS → Prop) (hI9 : ∀ L ad σ, I L ad σ → (8, 0) ∈ L ∧ (9, 0) ∈ L) (hP9 : ∀ L ad σ, I L ad σ → ∀ K i, (K, i) ∈ L → K < 10 ∨ g_ty K < 9) (hsim : sim_holds I) {cl sl : Nat} (hcl : cl + 2 ≤ 601024) (hsl : sl + 700 ≤ 7293034) {x4 : Int32} (h1 : g_ix (x4 + (1 : Int32)) Ls) (h2 : g_ix (x4 + (2 : Int32)) Ls) (h3 : g_ix (x4 + (3 : Int32)) Ls) (h4 : g_ix (x4 + (4 : Int32)) Ls) (h5 : g_ix (x4 + (5 : Int32)) Ls) (h6 : g_ix (x4 + (6 : Int32)) Ls)
    (kk : ∀ (L : gL) (ad : gA) (σ : gS) (f : Nat → Int64) (H : Heap) (locs : List Loc) (ls : Array Slot), I L ad σ → l_E D cy cJ b f ad L σ s H locs → lv_has ls 8 [(0, .ref bs), (1, .ref (ad 8 0)), (2, .ref (ad 9 0)), (3, .ref b), (4, .int x4)] → W p l e room_1 s m #[Value.ref bs] below meth c H locs (cl + 2) (sl + 700) Q (F0 m 1902 ls []))
    (L : gL) (ad : gA) (σ : gS) (f : Nat → Int64) (H : Heap) (locs : List Loc) (ls : Array Slot) (hI : I L ad σ) (E : l_E D cy cJ b f ad L σ s H locs) (hl : lv_has ls 8 [(0, .ref bs), (1, .ref (ad 8 0)), (2, .ref (ad 9 0)), (3, .ref b), (4, .int x4)]) : W p l e room_1 s m #[Value.ref bs] below meth c H locs cl sl Q (F0 m 763 ls []) := by
  refine lv_aload_n C.x C.b dL_law_763 rfl (lv_at hl 1 rfl) ?_
  refine lv_aload_n C.x C.b dL_law_764 rfl (lv_at hl 0 rfl) ?_
  refine lv_iload C.x C.b dL_law_765 (lv_at hl 4 rfl) ?_
  refine lv_iconst (v := (1 : Int32)) C.x C.b dL_law_767 (by decide) ?_
  refine lv_iadd C.x C.b dL_law_768 ?_
  refine va_sld C.x C.b SX.1 SX.2 (Nat.not_le.mpr SX.2) E.2.2.1 h1 dL_law_769 ?_
  refine lv_aload_n C.x C.b dL_law_770 rfl (lv_at hl 0 rfl) ?_
  refine lv_iload C.x C.b dL_law_771 (lv_at hl 4 rfl) ?_
  refine lv_iconst (v := (2 : Int32)) C.x C.b dL_law_773 (by decide) ?_
  refine lv_iadd C.x C.b dL_law_774 ?_
  refine va_sld C.x C.b SX.1 SX.2 (Nat.not_le.mpr SX.2) E.2.2.1 h2 dL_law_775 ?_
  obtain ⟨r, e1, e2, hI2⟩ := hsim L ad σ hI (xs (x4 + (1 : Int32)).toNatClampNeg) (xs (x4 + (2 : Int32)).toNatClampNeg) 
  refine l_calli E (l_run (As := [.int (xs (x4 + (1 : Int32)).toNatClampNeg), .int (xs (x4 + (2 : Int32)).toNatClampNeg)]) (rest := []) C E 8 0 (c_X8_holds l D cy (l_A s b) ad L σ (hI9 L ad σ hI).1 (xs (x4 + (1 : Int32)).toNatClampNeg) (xs (x4 + (2 : Int32)).toNatClampNeg) r e1) ⟨tw545, tw54, tw542, ⟨tw543, tw544⟩, hd_X8_holds⟩ (by decide) (hI9 L ad σ hI).1 rfl ⟨rfl, by decide⟩ hl.1 rfl (Nat.le_of_ble_eq_true rfl) dL_law_776 ⟨by show _ ≤ 601024; omega, by show _ ≤ 7293034; omega⟩) (fun H locs E => ?_)
  refine lv_aload_n C.x C.b dL_law_779 rfl (lv_at hl 2 rfl) ?_
  refine lv_aload_n C.x C.b dL_law_780 rfl (lv_at hl 0 rfl) ?_
  refine lv_iload C.x C.b dL_law_781 (lv_at hl 4 rfl) ?_
  refine lv_iconst (v := (1 : Int32)) C.x C.b dL_law_783 (by decide) ?_
  refine lv_iadd C.x C.b dL_law_784 ?_
  refine va_sld C.x C.b SX.1 SX.2 (Nat.not_le.mpr SX.2) E.2.2.1 h1 dL_law_785 ?_
  refine lv_aload_n C.x C.b dL_law_786 rfl (lv_at hl 0 rfl) ?_
  refine lv_iload C.x C.b dL_law_787 (lv_at hl 4 rfl) ?_
  refine lv_iconst (v := (2 : Int32)) C.x C.b dL_law_789 (by decide) ?_
  refine lv_iadd C.x C.b dL_law_790 ?_
  refine va_sld C.x C.b SX.1 SX.2 (Nat.not_le.mpr SX.2) E.2.2.1 h2 dL_law_791 ?_
  refine l_calli E (l_run (As := [.int (xs (x4 + (1 : Int32)).toNatClampNeg), .int (xs (x4 + (2 : Int32)).toNatClampNeg)]) (rest := [.int r]) C E 9 0 (c_X9_holds l D cy (l_A s b) ad L σ (hI9 L ad σ hI).2 (xs (x4 + (1 : Int32)).toNatClampNeg) (xs (x4 + (2 : Int32)).toNatClampNeg) r e2) ⟨tw1169, tw60, tw1166, ⟨tw1167, tw1168⟩, hd_X9_holds⟩ (by decide) (hI9 L ad σ hI).2 rfl ⟨rfl, by decide⟩ hl.1 rfl (Nat.le_of_ble_eq_true rfl) dL_law_792 ⟨by show _ ≤ 601024; omega, by show _ ≤ 7293034; omega⟩) (fun H locs E => ?_)
  refine lv_icmp_eq (tgt := 1902) C.x C.b dL_law_795 (by decide) (fun _ => ?_) (fun cb => absurd rfl cb)
  refine W.widen (k := cl + 2) (n := sl + 700) (by omega) (by omega) ?_
  exact kk L ad σ f _ _ ls hI2 E hl
set_option maxHeartbeats 4000000 in
set_option maxRecDepth 100000 in
theorem lc_held {p : Program} {l : Launch} {e : Env} {s : State} {m : MethodId} {below : List Frame} {meth : Method} {c : Code} {Q : State → Prop} {D : va_G} {cy : Nat → ClassId} {cJ : ClassId} {b bs Ls : Nat} {xs : Nat → Int32} (C : l_C D cy cJ p m c s #[Value.ref bs]) (SX : l_S bs Ls xs s) (hst : l.stackTraces = false) (hX : g_X (l_A s b) s) (I : gL → gA → gS → Prop) (hI9 : ∀ L ad σ, I L ad σ → (8, 0) ∈ L ∧ (9, 0) ∈ L) (hP9 : ∀ L ad σ, I L ad σ → ∀ K i, (K, i) ∈ L → K < 10 ∨ g_ty K < 9) (hsim : sim_held I) {cl sl : Nat} (hcl : cl + 2 ≤ 601024) (hsl : sl + 700 ≤ 7293034) {x4 : Int32} (h1 : g_ix (x4 + (1 : Int32)) Ls) (h2 : g_ix (x4 + (2 : Int32)) Ls) (h3 : g_ix (x4 + (3 : Int32)) Ls) (h4 : g_ix (x4 + (4 : Int32)) Ls) (h5 : g_ix (x4 + (5 : Int32)) Ls) (h6 : g_ix (x4 + (6 : Int32)) Ls)
    (kk : ∀ (L : gL) (ad : gA) (σ : gS) (f : Nat → Int64) (H : Heap) (locs : List Loc) (ls : Array Slot), I L ad σ → l_E D cy cJ b f ad L σ s H locs → lv_has ls 8 [(0, .ref bs), (1, .ref (ad 8 0)), (2, .ref (ad 9 0)), (3, .ref b), (4, .int x4)] → W p l e room_1 s m #[Value.ref bs] below meth c H locs (cl + 2) (sl + 700) Q (F0 m 1902 ls []))
    (L : gL) (ad : gA) (σ : gS) (f : Nat → Int64) (H : Heap) (locs : List Loc) (ls : Array Slot) (hI : I L ad σ) (E : l_E D cy cJ b f ad L σ s H locs) (hl : lv_has ls 8 [(0, .ref bs), (1, .ref (ad 8 0)), (2, .ref (ad 9 0)), (3, .ref b), (4, .int x4)]) : W p l e room_1 s m #[Value.ref bs] below meth c H locs cl sl Q (F0 m 800 ls []) := by
  refine lv_aload_n C.x C.b dL_law_800 rfl (lv_at hl 1 rfl) ?_
  refine lv_aload_n C.x C.b dL_law_801 rfl (lv_at hl 0 rfl) ?_
  refine lv_iload C.x C.b dL_law_802 (lv_at hl 4 rfl) ?_
  refine lv_iconst (v := (1 : Int32)) C.x C.b dL_law_804 (by decide) ?_
  refine lv_iadd C.x C.b dL_law_805 ?_
  refine va_sld C.x C.b SX.1 SX.2 (Nat.not_le.mpr SX.2) E.2.2.1 h1 dL_law_806 ?_
  refine lv_aload_n C.x C.b dL_law_807 rfl (lv_at hl 0 rfl) ?_
  refine lv_iload C.x C.b dL_law_808 (lv_at hl 4 rfl) ?_
  refine lv_iconst (v := (2 : Int32)) C.x C.b dL_law_810 (by decide) ?_
  refine lv_iadd C.x C.b dL_law_811 ?_
  refine va_sld C.x C.b SX.1 SX.2 (Nat.not_le.mpr SX.2) E.2.2.1 h2 dL_law_812 ?_
  refine lv_aload_n C.x C.b dL_law_813 rfl (lv_at hl 0 rfl) ?_
  refine lv_iload C.x C.b dL_law_814 (lv_at hl 4 rfl) ?_
  refine lv_iconst (v := (3 : Int32)) C.x C.b dL_law_816 (by decide) ?_
  refine lv_iadd C.x C.b dL_law_817 ?_
  refine va_sld C.x C.b SX.1 SX.2 (Nat.not_le.mpr SX.2) E.2.2.1 h3 dL_law_818 ?_
  obtain ⟨r, e1, e2, hI2⟩ := hsim L ad σ hI (xs (x4 + (1 : Int32)).toNatClampNeg) (xs (x4 + (2 : Int32)).toNatClampNeg) (xs (x4 + (3 : Int32)).toNatClampNeg) 
  refine l_calli E (l_run (As := [.int (xs (x4 + (1 : Int32)).toNatClampNeg), .int (xs (x4 + (2 : Int32)).toNatClampNeg), .int (xs (x4 + (3 : Int32)).toNatClampNeg)]) (rest := []) C E 8 0 (c_X8_held l D cy (l_A s b) ad L σ (hI9 L ad σ hI).1 (xs (x4 + (1 : Int32)).toNatClampNeg) (xs (x4 + (2 : Int32)).toNatClampNeg) (xs (x4 + (3 : Int32)).toNatClampNeg) r e1) ⟨tw549, tw54, tw546, ⟨tw547, tw548⟩, hd_X8_held⟩ (by decide) (hI9 L ad σ hI).1 rfl ⟨rfl, by decide⟩ hl.1 rfl (Nat.le_of_ble_eq_true rfl) dL_law_819 ⟨by show _ ≤ 601024; omega, by show _ ≤ 7293034; omega⟩) (fun H locs E => ?_)
  refine lv_aload_n C.x C.b dL_law_822 rfl (lv_at hl 2 rfl) ?_
  refine lv_aload_n C.x C.b dL_law_823 rfl (lv_at hl 0 rfl) ?_
  refine lv_iload C.x C.b dL_law_824 (lv_at hl 4 rfl) ?_
  refine lv_iconst (v := (1 : Int32)) C.x C.b dL_law_826 (by decide) ?_
  refine lv_iadd C.x C.b dL_law_827 ?_
  refine va_sld C.x C.b SX.1 SX.2 (Nat.not_le.mpr SX.2) E.2.2.1 h1 dL_law_828 ?_
  refine lv_aload_n C.x C.b dL_law_829 rfl (lv_at hl 0 rfl) ?_
  refine lv_iload C.x C.b dL_law_830 (lv_at hl 4 rfl) ?_
  refine lv_iconst (v := (2 : Int32)) C.x C.b dL_law_832 (by decide) ?_
  refine lv_iadd C.x C.b dL_law_833 ?_
  refine va_sld C.x C.b SX.1 SX.2 (Nat.not_le.mpr SX.2) E.2.2.1 h2 dL_law_834 ?_
  refine lv_aload_n C.x C.b dL_law_835 rfl (lv_at hl 0 rfl) ?_
  refine lv_iload C.x C.b dL_law_836 (lv_at hl 4 rfl) ?_
  refine lv_iconst (v := (3 : Int32)) C.x C.b dL_law_838 (by decide) ?_
  refine lv_iadd C.x C.b dL_law_839 ?_
  refine va_sld C.x C.b SX.1 SX.2 (Nat.not_le.mpr SX.2) E.2.2.1 h3 dL_law_840 ?_
  refine l_calli E (l_run (As := [.int (xs (x4 + (1 : Int32)).toNatClampNeg), .int (xs (x4 + (2 : Int32)).toNatClampNeg), .int (xs (x4 + (3 : Int32)).toNatClampNeg)]) (rest := [.int r]) C E 9 0 (c_X9_held l D cy (l_A s b) ad L σ (hI9 L ad σ hI).2 (xs (x4 + (1 : Int32)).toNatClampNeg) (xs (x4 + (2 : Int32)).toNatClampNeg) (xs (x4 + (3 : Int32)).toNatClampNeg) r e2) ⟨tw1177, tw60, tw1174, ⟨tw1175, tw1176⟩, hd_X9_held⟩ (by decide) (hI9 L ad σ hI).2 rfl ⟨rfl, by decide⟩ hl.1 rfl (Nat.le_of_ble_eq_true rfl) dL_law_841 ⟨by show _ ≤ 601024; omega, by show _ ≤ 7293034; omega⟩) (fun H locs E => ?_)
  refine lv_icmp_eq (tgt := 1902) C.x C.b dL_law_844 (by decide) (fun _ => ?_) (fun cb => absurd rfl cb)
  refine W.widen (k := cl + 2) (n := sl + 700) (by omega) (by omega) ?_
  exact kk L ad σ f _ _ ls hI2 E hl
set_option maxHeartbeats 4000000 in
set_option maxRecDepth 100000 in
theorem lc_could {p : Program} {l : Launch} {e : Env} {s : State} {m : MethodId} {below : List Frame} {meth : Method} {c : Code} {Q : State → Prop} {D : va_G} {cy : Nat → ClassId} {cJ : ClassId} {b bs Ls : Nat} {xs : Nat → Int32} (C : l_C D cy cJ p m c s #[Value.ref bs]) (SX : l_S bs Ls xs s) (hst : l.stackTraces = false) (hX : g_X (l_A s b) s) (I : gL → gA → gS → Prop) (hI9 : ∀ L ad σ, I L ad σ → (8, 0) ∈ L ∧ (9, 0) ∈ L) (hP9 : ∀ L ad σ, I L ad σ → ∀ K i, (K, i) ∈ L → K < 10 ∨ g_ty K < 9) (hsim : sim_could I) {cl sl : Nat} (hcl : cl + 2 ≤ 601024) (hsl : sl + 700 ≤ 7293034) {x4 : Int32} (h1 : g_ix (x4 + (1 : Int32)) Ls) (h2 : g_ix (x4 + (2 : Int32)) Ls) (h3 : g_ix (x4 + (3 : Int32)) Ls) (h4 : g_ix (x4 + (4 : Int32)) Ls) (h5 : g_ix (x4 + (5 : Int32)) Ls) (h6 : g_ix (x4 + (6 : Int32)) Ls)
    (kk : ∀ (L : gL) (ad : gA) (σ : gS) (f : Nat → Int64) (H : Heap) (locs : List Loc) (ls : Array Slot), I L ad σ → l_E D cy cJ b f ad L σ s H locs → lv_has ls 8 [(0, .ref bs), (1, .ref (ad 8 0)), (2, .ref (ad 9 0)), (3, .ref b), (4, .int x4)] → W p l e room_1 s m #[Value.ref bs] below meth c H locs (cl + 2) (sl + 700) Q (F0 m 1902 ls []))
    (L : gL) (ad : gA) (σ : gS) (f : Nat → Int64) (H : Heap) (locs : List Loc) (ls : Array Slot) (hI : I L ad σ) (E : l_E D cy cJ b f ad L σ s H locs) (hl : lv_has ls 8 [(0, .ref bs), (1, .ref (ad 8 0)), (2, .ref (ad 9 0)), (3, .ref b), (4, .int x4)]) : W p l e room_1 s m #[Value.ref bs] below meth c H locs cl sl Q (F0 m 849 ls []) := by
  refine lv_aload_n C.x C.b dL_law_849 rfl (lv_at hl 1 rfl) ?_
  refine lv_aload_n C.x C.b dL_law_850 rfl (lv_at hl 0 rfl) ?_
  refine lv_iload C.x C.b dL_law_851 (lv_at hl 4 rfl) ?_
  refine lv_iconst (v := (1 : Int32)) C.x C.b dL_law_853 (by decide) ?_
  refine lv_iadd C.x C.b dL_law_854 ?_
  refine va_sld C.x C.b SX.1 SX.2 (Nat.not_le.mpr SX.2) E.2.2.1 h1 dL_law_855 ?_
  refine lv_aload_n C.x C.b dL_law_856 rfl (lv_at hl 0 rfl) ?_
  refine lv_iload C.x C.b dL_law_857 (lv_at hl 4 rfl) ?_
  refine lv_iconst (v := (2 : Int32)) C.x C.b dL_law_859 (by decide) ?_
  refine lv_iadd C.x C.b dL_law_860 ?_
  refine va_sld C.x C.b SX.1 SX.2 (Nat.not_le.mpr SX.2) E.2.2.1 h2 dL_law_861 ?_
  refine lv_aload_n C.x C.b dL_law_862 rfl (lv_at hl 0 rfl) ?_
  refine lv_iload C.x C.b dL_law_863 (lv_at hl 4 rfl) ?_
  refine lv_iconst (v := (3 : Int32)) C.x C.b dL_law_865 (by decide) ?_
  refine lv_iadd C.x C.b dL_law_866 ?_
  refine va_sld C.x C.b SX.1 SX.2 (Nat.not_le.mpr SX.2) E.2.2.1 h3 dL_law_867 ?_
  refine lv_aload_n C.x C.b dL_law_868 rfl (lv_at hl 0 rfl) ?_
  refine lv_iload C.x C.b dL_law_869 (lv_at hl 4 rfl) ?_
  refine lv_iconst (v := (4 : Int32)) C.x C.b dL_law_871 (by decide) ?_
  refine lv_iadd C.x C.b dL_law_872 ?_
  refine va_sld C.x C.b SX.1 SX.2 (Nat.not_le.mpr SX.2) E.2.2.1 h4 dL_law_873 ?_
  obtain ⟨r, σ1, e1, e2, hI2⟩ := hsim L ad σ hI (xs (x4 + (1 : Int32)).toNatClampNeg) (xs (x4 + (2 : Int32)).toNatClampNeg) (xs (x4 + (3 : Int32)).toNatClampNeg) (xs (x4 + (4 : Int32)).toNatClampNeg) 
  refine l_calli E (l_run (As := [.int (xs (x4 + (1 : Int32)).toNatClampNeg), .int (xs (x4 + (2 : Int32)).toNatClampNeg), .int (xs (x4 + (3 : Int32)).toNatClampNeg), .int (xs (x4 + (4 : Int32)).toNatClampNeg)]) (rest := []) C E 8 0 (c_X8_could l D cy (l_A s b) ad L σ (hI9 L ad σ hI).1 (xs (x4 + (1 : Int32)).toNatClampNeg) (xs (x4 + (2 : Int32)).toNatClampNeg) (xs (x4 + (3 : Int32)).toNatClampNeg) (xs (x4 + (4 : Int32)).toNatClampNeg) r σ1 e1) ⟨tw557, tw54, tw554, ⟨tw555, tw556⟩, hd_X8_could⟩ (by decide) (hI9 L ad σ hI).1 rfl ⟨rfl, by decide⟩ hl.1 rfl (Nat.le_of_ble_eq_true rfl) dL_law_874 ⟨by show _ ≤ 601024; omega, by show _ ≤ 7293034; omega⟩) (fun H locs E => ?_)
  refine lv_aload_n C.x C.b dL_law_877 rfl (lv_at hl 2 rfl) ?_
  refine lv_aload_n C.x C.b dL_law_878 rfl (lv_at hl 0 rfl) ?_
  refine lv_iload C.x C.b dL_law_879 (lv_at hl 4 rfl) ?_
  refine lv_iconst (v := (1 : Int32)) C.x C.b dL_law_881 (by decide) ?_
  refine lv_iadd C.x C.b dL_law_882 ?_
  refine va_sld C.x C.b SX.1 SX.2 (Nat.not_le.mpr SX.2) E.2.2.1 h1 dL_law_883 ?_
  refine lv_aload_n C.x C.b dL_law_884 rfl (lv_at hl 0 rfl) ?_
  refine lv_iload C.x C.b dL_law_885 (lv_at hl 4 rfl) ?_
  refine lv_iconst (v := (2 : Int32)) C.x C.b dL_law_887 (by decide) ?_
  refine lv_iadd C.x C.b dL_law_888 ?_
  refine va_sld C.x C.b SX.1 SX.2 (Nat.not_le.mpr SX.2) E.2.2.1 h2 dL_law_889 ?_
  refine lv_aload_n C.x C.b dL_law_890 rfl (lv_at hl 0 rfl) ?_
  refine lv_iload C.x C.b dL_law_891 (lv_at hl 4 rfl) ?_
  refine lv_iconst (v := (3 : Int32)) C.x C.b dL_law_893 (by decide) ?_
  refine lv_iadd C.x C.b dL_law_894 ?_
  refine va_sld C.x C.b SX.1 SX.2 (Nat.not_le.mpr SX.2) E.2.2.1 h3 dL_law_895 ?_
  refine lv_aload_n C.x C.b dL_law_896 rfl (lv_at hl 0 rfl) ?_
  refine lv_iload C.x C.b dL_law_897 (lv_at hl 4 rfl) ?_
  refine lv_iconst (v := (4 : Int32)) C.x C.b dL_law_899 (by decide) ?_
  refine lv_iadd C.x C.b dL_law_900 ?_
  refine va_sld C.x C.b SX.1 SX.2 (Nat.not_le.mpr SX.2) E.2.2.1 h4 dL_law_901 ?_
  refine l_calli E (l_run (As := [.int (xs (x4 + (1 : Int32)).toNatClampNeg), .int (xs (x4 + (2 : Int32)).toNatClampNeg), .int (xs (x4 + (3 : Int32)).toNatClampNeg), .int (xs (x4 + (4 : Int32)).toNatClampNeg)]) (rest := [.int r]) C E 9 0 (c_X9_could l D cy (l_A s b) ad L σ1 (hI9 L ad σ hI).2 (xs (x4 + (1 : Int32)).toNatClampNeg) (xs (x4 + (2 : Int32)).toNatClampNeg) (xs (x4 + (3 : Int32)).toNatClampNeg) (xs (x4 + (4 : Int32)).toNatClampNeg) r e2) ⟨tw1185, tw60, tw1182, ⟨tw1183, tw1184⟩, hd_X9_could⟩ (by decide) (hI9 L ad σ hI).2 rfl ⟨rfl, by decide⟩ hl.1 rfl (Nat.le_of_ble_eq_true rfl) dL_law_902 ⟨by show _ ≤ 601024; omega, by show _ ≤ 7293034; omega⟩) (fun H locs E => ?_)
  refine lv_icmp_eq (tgt := 1902) C.x C.b dL_law_905 (by decide) (fun _ => ?_) (fun cb => absurd rfl cb)
  refine W.widen (k := cl + 2) (n := sl + 700) (by omega) (by omega) ?_
  exact kk L ad σ1 f _ _ ls hI2 E hl
set_option maxHeartbeats 4000000 in
set_option maxRecDepth 100000 in
theorem lc_first {p : Program} {l : Launch} {e : Env} {s : State} {m : MethodId} {below : List Frame} {meth : Method} {c : Code} {Q : State → Prop} {D : va_G} {cy : Nat → ClassId} {cJ : ClassId} {b bs Ls : Nat} {xs : Nat → Int32} (C : l_C D cy cJ p m c s #[Value.ref bs]) (SX : l_S bs Ls xs s) (hst : l.stackTraces = false) (hX : g_X (l_A s b) s) (I : gL → gA → gS → Prop) (hI9 : ∀ L ad σ, I L ad σ → (8, 0) ∈ L ∧ (9, 0) ∈ L) (hP9 : ∀ L ad σ, I L ad σ → ∀ K i, (K, i) ∈ L → K < 10 ∨ g_ty K < 9) (hsim : sim_first I) {cl sl : Nat} (hcl : cl + 2 ≤ 601024) (hsl : sl + 700 ≤ 7293034) {x4 : Int32} (h1 : g_ix (x4 + (1 : Int32)) Ls) (h2 : g_ix (x4 + (2 : Int32)) Ls) (h3 : g_ix (x4 + (3 : Int32)) Ls) (h4 : g_ix (x4 + (4 : Int32)) Ls) (h5 : g_ix (x4 + (5 : Int32)) Ls) (h6 : g_ix (x4 + (6 : Int32)) Ls)
    (kk : ∀ (L : gL) (ad : gA) (σ : gS) (f : Nat → Int64) (H : Heap) (locs : List Loc) (ls : Array Slot), I L ad σ → l_E D cy cJ b f ad L σ s H locs → lv_has ls 8 [(0, .ref bs), (1, .ref (ad 8 0)), (2, .ref (ad 9 0)), (3, .ref b), (4, .int x4)] → W p l e room_1 s m #[Value.ref bs] below meth c H locs (cl + 2) (sl + 700) Q (F0 m 1902 ls []))
    (L : gL) (ad : gA) (σ : gS) (f : Nat → Int64) (H : Heap) (locs : List Loc) (ls : Array Slot) (hI : I L ad σ) (E : l_E D cy cJ b f ad L σ s H locs) (hl : lv_has ls 8 [(0, .ref bs), (1, .ref (ad 8 0)), (2, .ref (ad 9 0)), (3, .ref b), (4, .int x4)]) : W p l e room_1 s m #[Value.ref bs] below meth c H locs cl sl Q (F0 m 910 ls []) := by
  refine lv_aload_n C.x C.b dL_law_910 rfl (lv_at hl 1 rfl) ?_
  refine lv_aload_n C.x C.b dL_law_911 rfl (lv_at hl 0 rfl) ?_
  refine lv_iload C.x C.b dL_law_912 (lv_at hl 4 rfl) ?_
  refine lv_iconst (v := (1 : Int32)) C.x C.b dL_law_914 (by decide) ?_
  refine lv_iadd C.x C.b dL_law_915 ?_
  refine va_sld C.x C.b SX.1 SX.2 (Nat.not_le.mpr SX.2) E.2.2.1 h1 dL_law_916 ?_
  refine lv_aload_n C.x C.b dL_law_917 rfl (lv_at hl 0 rfl) ?_
  refine lv_iload C.x C.b dL_law_918 (lv_at hl 4 rfl) ?_
  refine lv_iconst (v := (2 : Int32)) C.x C.b dL_law_920 (by decide) ?_
  refine lv_iadd C.x C.b dL_law_921 ?_
  refine va_sld C.x C.b SX.1 SX.2 (Nat.not_le.mpr SX.2) E.2.2.1 h2 dL_law_922 ?_
  refine lv_aload_n C.x C.b dL_law_923 rfl (lv_at hl 0 rfl) ?_
  refine lv_iload C.x C.b dL_law_924 (lv_at hl 4 rfl) ?_
  refine lv_iconst (v := (3 : Int32)) C.x C.b dL_law_926 (by decide) ?_
  refine lv_iadd C.x C.b dL_law_927 ?_
  refine va_sld C.x C.b SX.1 SX.2 (Nat.not_le.mpr SX.2) E.2.2.1 h3 dL_law_928 ?_
  refine lv_aload_n C.x C.b dL_law_929 rfl (lv_at hl 0 rfl) ?_
  refine lv_iload C.x C.b dL_law_930 (lv_at hl 4 rfl) ?_
  refine lv_iconst (v := (4 : Int32)) C.x C.b dL_law_932 (by decide) ?_
  refine lv_iadd C.x C.b dL_law_933 ?_
  refine va_sld C.x C.b SX.1 SX.2 (Nat.not_le.mpr SX.2) E.2.2.1 h4 dL_law_934 ?_
  refine lv_if_eq (tgt := 942) C.x C.b dL_law_935 (by decide) (fun cb0 => ?_) (fun cb0 => ?_)
  · skip
    refine lv_iconst (v := (0 : Int32)) C.x C.b dL_law_942 (by decide) ?_
    obtain ⟨r, σ1, e1, e2, hI2⟩ := hsim L ad σ hI (xs (x4 + (1 : Int32)).toNatClampNeg) (xs (x4 + (2 : Int32)).toNatClampNeg) (xs (x4 + (3 : Int32)).toNatClampNeg) (0 : Int32) (by first | exact Or.inl rfl | exact Or.inr rfl)
    refine l_calli E (l_run (As := [.int (xs (x4 + (1 : Int32)).toNatClampNeg), .int (xs (x4 + (2 : Int32)).toNatClampNeg), .int (xs (x4 + (3 : Int32)).toNatClampNeg), .int (0 : Int32)]) (rest := []) C E 8 0 (c_X8_first l D cy (l_A s b) ad L σ (hI9 L ad σ hI).1 (xs (x4 + (1 : Int32)).toNatClampNeg) (xs (x4 + (2 : Int32)).toNatClampNeg) (xs (x4 + (3 : Int32)).toNatClampNeg) (0 : Int32) r σ1 e1) ⟨tw590, tw54, tw587, ⟨tw588, tw589⟩, hd_X8_first⟩ (by decide) (hI9 L ad σ hI).1 rfl ⟨rfl, by decide⟩ hl.1 rfl (Nat.le_of_ble_eq_true rfl) dL_law_943 ⟨by show _ ≤ 601024; omega, by show _ ≤ 7293034; omega⟩) (fun H locs E => ?_)
    refine lv_aload_n C.x C.b dL_law_946 rfl (lv_at hl 2 rfl) ?_
    refine lv_aload_n C.x C.b dL_law_947 rfl (lv_at hl 0 rfl) ?_
    refine lv_iload C.x C.b dL_law_948 (lv_at hl 4 rfl) ?_
    refine lv_iconst (v := (1 : Int32)) C.x C.b dL_law_950 (by decide) ?_
    refine lv_iadd C.x C.b dL_law_951 ?_
    refine va_sld C.x C.b SX.1 SX.2 (Nat.not_le.mpr SX.2) E.2.2.1 h1 dL_law_952 ?_
    refine lv_aload_n C.x C.b dL_law_953 rfl (lv_at hl 0 rfl) ?_
    refine lv_iload C.x C.b dL_law_954 (lv_at hl 4 rfl) ?_
    refine lv_iconst (v := (2 : Int32)) C.x C.b dL_law_956 (by decide) ?_
    refine lv_iadd C.x C.b dL_law_957 ?_
    refine va_sld C.x C.b SX.1 SX.2 (Nat.not_le.mpr SX.2) E.2.2.1 h2 dL_law_958 ?_
    refine lv_aload_n C.x C.b dL_law_959 rfl (lv_at hl 0 rfl) ?_
    refine lv_iload C.x C.b dL_law_960 (lv_at hl 4 rfl) ?_
    refine lv_iconst (v := (3 : Int32)) C.x C.b dL_law_962 (by decide) ?_
    refine lv_iadd C.x C.b dL_law_963 ?_
    refine va_sld C.x C.b SX.1 SX.2 (Nat.not_le.mpr SX.2) E.2.2.1 h3 dL_law_964 ?_
    refine lv_aload_n C.x C.b dL_law_965 rfl (lv_at hl 0 rfl) ?_
    refine lv_iload C.x C.b dL_law_966 (lv_at hl 4 rfl) ?_
    refine lv_iconst (v := (4 : Int32)) C.x C.b dL_law_968 (by decide) ?_
    refine lv_iadd C.x C.b dL_law_969 ?_
    refine va_sld C.x C.b SX.1 SX.2 (Nat.not_le.mpr SX.2) E.2.2.1 h4 dL_law_970 ?_
    refine lv_if_eq (tgt := 978) C.x C.b dL_law_971 (by decide) (fun _ => ?_) (fun cb => absurd cb0 cb)
    refine lv_iconst (v := (0 : Int32)) C.x C.b dL_law_978 (by decide) ?_
    refine l_calli E (l_run (As := [.int (xs (x4 + (1 : Int32)).toNatClampNeg), .int (xs (x4 + (2 : Int32)).toNatClampNeg), .int (xs (x4 + (3 : Int32)).toNatClampNeg), .int (0 : Int32)]) (rest := [.int r]) C E 9 0 (c_X9_first l D cy (l_A s b) ad L σ1 (hI9 L ad σ hI).2 (xs (x4 + (1 : Int32)).toNatClampNeg) (xs (x4 + (2 : Int32)).toNatClampNeg) (xs (x4 + (3 : Int32)).toNatClampNeg) (0 : Int32) r e2) ⟨tw1217, tw60, tw1214, ⟨tw1215, tw1216⟩, hd_X9_first⟩ (by decide) (hI9 L ad σ hI).2 rfl ⟨rfl, by decide⟩ hl.1 rfl (Nat.le_of_ble_eq_true rfl) dL_law_979 ⟨by show _ ≤ 601024; omega, by show _ ≤ 7293034; omega⟩) (fun H locs E => ?_)
    refine lv_icmp_eq (tgt := 1902) C.x C.b dL_law_982 (by decide) (fun _ => ?_) (fun cb => absurd rfl cb)
    refine W.widen (k := cl + 2) (n := sl + 700) (by omega) (by omega) ?_
    exact kk L ad σ1 f _ _ ls hI2 E hl
  · skip
    refine lv_iconst (v := (1 : Int32)) C.x C.b dL_law_938 (by decide) ?_
    refine lv_goto (tgt := 943) C.x C.b dL_law_939 (by decide) ?_
    obtain ⟨r, σ1, e1, e2, hI2⟩ := hsim L ad σ hI (xs (x4 + (1 : Int32)).toNatClampNeg) (xs (x4 + (2 : Int32)).toNatClampNeg) (xs (x4 + (3 : Int32)).toNatClampNeg) (1 : Int32) (by first | exact Or.inl rfl | exact Or.inr rfl)
    refine l_calli E (l_run (As := [.int (xs (x4 + (1 : Int32)).toNatClampNeg), .int (xs (x4 + (2 : Int32)).toNatClampNeg), .int (xs (x4 + (3 : Int32)).toNatClampNeg), .int (1 : Int32)]) (rest := []) C E 8 0 (c_X8_first l D cy (l_A s b) ad L σ (hI9 L ad σ hI).1 (xs (x4 + (1 : Int32)).toNatClampNeg) (xs (x4 + (2 : Int32)).toNatClampNeg) (xs (x4 + (3 : Int32)).toNatClampNeg) (1 : Int32) r σ1 e1) ⟨tw590, tw54, tw587, ⟨tw588, tw589⟩, hd_X8_first⟩ (by decide) (hI9 L ad σ hI).1 rfl ⟨rfl, by decide⟩ hl.1 rfl (Nat.le_of_ble_eq_true rfl) dL_law_943 ⟨by show _ ≤ 601024; omega, by show _ ≤ 7293034; omega⟩) (fun H locs E => ?_)
    refine lv_aload_n C.x C.b dL_law_946 rfl (lv_at hl 2 rfl) ?_
    refine lv_aload_n C.x C.b dL_law_947 rfl (lv_at hl 0 rfl) ?_
    refine lv_iload C.x C.b dL_law_948 (lv_at hl 4 rfl) ?_
    refine lv_iconst (v := (1 : Int32)) C.x C.b dL_law_950 (by decide) ?_
    refine lv_iadd C.x C.b dL_law_951 ?_
    refine va_sld C.x C.b SX.1 SX.2 (Nat.not_le.mpr SX.2) E.2.2.1 h1 dL_law_952 ?_
    refine lv_aload_n C.x C.b dL_law_953 rfl (lv_at hl 0 rfl) ?_
    refine lv_iload C.x C.b dL_law_954 (lv_at hl 4 rfl) ?_
    refine lv_iconst (v := (2 : Int32)) C.x C.b dL_law_956 (by decide) ?_
    refine lv_iadd C.x C.b dL_law_957 ?_
    refine va_sld C.x C.b SX.1 SX.2 (Nat.not_le.mpr SX.2) E.2.2.1 h2 dL_law_958 ?_
    refine lv_aload_n C.x C.b dL_law_959 rfl (lv_at hl 0 rfl) ?_
    refine lv_iload C.x C.b dL_law_960 (lv_at hl 4 rfl) ?_
    refine lv_iconst (v := (3 : Int32)) C.x C.b dL_law_962 (by decide) ?_
    refine lv_iadd C.x C.b dL_law_963 ?_
    refine va_sld C.x C.b SX.1 SX.2 (Nat.not_le.mpr SX.2) E.2.2.1 h3 dL_law_964 ?_
    refine lv_aload_n C.x C.b dL_law_965 rfl (lv_at hl 0 rfl) ?_
    refine lv_iload C.x C.b dL_law_966 (lv_at hl 4 rfl) ?_
    refine lv_iconst (v := (4 : Int32)) C.x C.b dL_law_968 (by decide) ?_
    refine lv_iadd C.x C.b dL_law_969 ?_
    refine va_sld C.x C.b SX.1 SX.2 (Nat.not_le.mpr SX.2) E.2.2.1 h4 dL_law_970 ?_
    refine lv_if_eq (tgt := 978) C.x C.b dL_law_971 (by decide) (fun cb => absurd cb cb0) (fun _ => ?_)
    refine lv_iconst (v := (1 : Int32)) C.x C.b dL_law_974 (by decide) ?_
    refine lv_goto (tgt := 979) C.x C.b dL_law_975 (by decide) ?_
    refine l_calli E (l_run (As := [.int (xs (x4 + (1 : Int32)).toNatClampNeg), .int (xs (x4 + (2 : Int32)).toNatClampNeg), .int (xs (x4 + (3 : Int32)).toNatClampNeg), .int (1 : Int32)]) (rest := [.int r]) C E 9 0 (c_X9_first l D cy (l_A s b) ad L σ1 (hI9 L ad σ hI).2 (xs (x4 + (1 : Int32)).toNatClampNeg) (xs (x4 + (2 : Int32)).toNatClampNeg) (xs (x4 + (3 : Int32)).toNatClampNeg) (1 : Int32) r e2) ⟨tw1217, tw60, tw1214, ⟨tw1215, tw1216⟩, hd_X9_first⟩ (by decide) (hI9 L ad σ hI).2 rfl ⟨rfl, by decide⟩ hl.1 rfl (Nat.le_of_ble_eq_true rfl) dL_law_979 ⟨by show _ ≤ 601024; omega, by show _ ≤ 7293034; omega⟩) (fun H locs E => ?_)
    refine lv_icmp_eq (tgt := 1902) C.x C.b dL_law_982 (by decide) (fun _ => ?_) (fun cb => absurd rfl cb)
    refine W.widen (k := cl + 2) (n := sl + 700) (by omega) (by omega) ?_
    exact kk L ad σ1 f _ _ ls hI2 E hl
set_option maxHeartbeats 4000000 in
set_option maxRecDepth 100000 in
theorem lc_who {p : Program} {l : Launch} {e : Env} {s : State} {m : MethodId} {below : List Frame} {meth : Method} {c : Code} {Q : State → Prop} {D : va_G} {cy : Nat → ClassId} {cJ : ClassId} {b bs Ls : Nat} {xs : Nat → Int32} (C : l_C D cy cJ p m c s #[Value.ref bs]) (SX : l_S bs Ls xs s) (hst : l.stackTraces = false) (hX : g_X (l_A s b) s) (I : gL → gA → gS → Prop) (hI9 : ∀ L ad σ, I L ad σ → (8, 0) ∈ L ∧ (9, 0) ∈ L) (hP9 : ∀ L ad σ, I L ad σ → ∀ K i, (K, i) ∈ L → K < 10 ∨ g_ty K < 9) (hsim : sim_who I) {cl sl : Nat} (hcl : cl + 2 ≤ 601024) (hsl : sl + 700 ≤ 7293034) {x4 : Int32} (h1 : g_ix (x4 + (1 : Int32)) Ls) (h2 : g_ix (x4 + (2 : Int32)) Ls) (h3 : g_ix (x4 + (3 : Int32)) Ls) (h4 : g_ix (x4 + (4 : Int32)) Ls) (h5 : g_ix (x4 + (5 : Int32)) Ls) (h6 : g_ix (x4 + (6 : Int32)) Ls)
    (kk : ∀ (L : gL) (ad : gA) (σ : gS) (f : Nat → Int64) (H : Heap) (locs : List Loc) (ls : Array Slot), I L ad σ → l_E D cy cJ b f ad L σ s H locs → lv_has ls 8 [(0, .ref bs), (1, .ref (ad 8 0)), (2, .ref (ad 9 0)), (3, .ref b), (4, .int x4)] → W p l e room_1 s m #[Value.ref bs] below meth c H locs (cl + 2) (sl + 700) Q (F0 m 1902 ls []))
    (L : gL) (ad : gA) (σ : gS) (f : Nat → Int64) (H : Heap) (locs : List Loc) (ls : Array Slot) (hI : I L ad σ) (E : l_E D cy cJ b f ad L σ s H locs) (hl : lv_has ls 8 [(0, .ref bs), (1, .ref (ad 8 0)), (2, .ref (ad 9 0)), (3, .ref b), (4, .int x4)]) : W p l e room_1 s m #[Value.ref bs] below meth c H locs cl sl Q (F0 m 987 ls []) := by
  refine lv_aload_n C.x C.b dL_law_987 rfl (lv_at hl 1 rfl) ?_
  refine lv_aload_n C.x C.b dL_law_988 rfl (lv_at hl 0 rfl) ?_
  refine lv_iload C.x C.b dL_law_989 (lv_at hl 4 rfl) ?_
  refine lv_iconst (v := (1 : Int32)) C.x C.b dL_law_991 (by decide) ?_
  refine lv_iadd C.x C.b dL_law_992 ?_
  refine va_sld C.x C.b SX.1 SX.2 (Nat.not_le.mpr SX.2) E.2.2.1 h1 dL_law_993 ?_
  refine lv_aload_n C.x C.b dL_law_994 rfl (lv_at hl 0 rfl) ?_
  refine lv_iload C.x C.b dL_law_995 (lv_at hl 4 rfl) ?_
  refine lv_iconst (v := (2 : Int32)) C.x C.b dL_law_997 (by decide) ?_
  refine lv_iadd C.x C.b dL_law_998 ?_
  refine va_sld C.x C.b SX.1 SX.2 (Nat.not_le.mpr SX.2) E.2.2.1 h2 dL_law_999 ?_
  refine lv_aload_n C.x C.b dL_law_1000 rfl (lv_at hl 0 rfl) ?_
  refine lv_iload C.x C.b dL_law_1001 (lv_at hl 4 rfl) ?_
  refine lv_iconst (v := (3 : Int32)) C.x C.b dL_law_1003 (by decide) ?_
  refine lv_iadd C.x C.b dL_law_1004 ?_
  refine va_sld C.x C.b SX.1 SX.2 (Nat.not_le.mpr SX.2) E.2.2.1 h3 dL_law_1005 ?_
  refine lv_if_eq (tgt := 1013) C.x C.b dL_law_1006 (by decide) (fun cb0 => ?_) (fun cb0 => ?_)
  · skip
    refine lv_iconst (v := (0 : Int32)) C.x C.b dL_law_1013 (by decide) ?_
    obtain ⟨r, σ1, e1, e2, hI2⟩ := hsim L ad σ hI (xs (x4 + (1 : Int32)).toNatClampNeg) (xs (x4 + (2 : Int32)).toNatClampNeg) (0 : Int32) (by first | exact Or.inl rfl | exact Or.inr rfl)
    refine l_calli E (l_run (As := [.int (xs (x4 + (1 : Int32)).toNatClampNeg), .int (xs (x4 + (2 : Int32)).toNatClampNeg), .int (0 : Int32)]) (rest := []) C E 8 0 (c_X8_who l D cy (l_A s b) ad L σ (hI9 L ad σ hI).1 (xs (x4 + (1 : Int32)).toNatClampNeg) (xs (x4 + (2 : Int32)).toNatClampNeg) (0 : Int32) r σ1 e1) ⟨tw594, tw54, tw591, ⟨tw592, tw593⟩, hd_X8_who⟩ (by decide) (hI9 L ad σ hI).1 rfl ⟨rfl, by decide⟩ hl.1 rfl (Nat.le_of_ble_eq_true rfl) dL_law_1014 ⟨by show _ ≤ 601024; omega, by show _ ≤ 7293034; omega⟩) (fun H locs E => ?_)
    refine lv_aload_n C.x C.b dL_law_1017 rfl (lv_at hl 2 rfl) ?_
    refine lv_aload_n C.x C.b dL_law_1018 rfl (lv_at hl 0 rfl) ?_
    refine lv_iload C.x C.b dL_law_1019 (lv_at hl 4 rfl) ?_
    refine lv_iconst (v := (1 : Int32)) C.x C.b dL_law_1021 (by decide) ?_
    refine lv_iadd C.x C.b dL_law_1022 ?_
    refine va_sld C.x C.b SX.1 SX.2 (Nat.not_le.mpr SX.2) E.2.2.1 h1 dL_law_1023 ?_
    refine lv_aload_n C.x C.b dL_law_1024 rfl (lv_at hl 0 rfl) ?_
    refine lv_iload C.x C.b dL_law_1025 (lv_at hl 4 rfl) ?_
    refine lv_iconst (v := (2 : Int32)) C.x C.b dL_law_1027 (by decide) ?_
    refine lv_iadd C.x C.b dL_law_1028 ?_
    refine va_sld C.x C.b SX.1 SX.2 (Nat.not_le.mpr SX.2) E.2.2.1 h2 dL_law_1029 ?_
    refine lv_aload_n C.x C.b dL_law_1030 rfl (lv_at hl 0 rfl) ?_
    refine lv_iload C.x C.b dL_law_1031 (lv_at hl 4 rfl) ?_
    refine lv_iconst (v := (3 : Int32)) C.x C.b dL_law_1033 (by decide) ?_
    refine lv_iadd C.x C.b dL_law_1034 ?_
    refine va_sld C.x C.b SX.1 SX.2 (Nat.not_le.mpr SX.2) E.2.2.1 h3 dL_law_1035 ?_
    refine lv_if_eq (tgt := 1043) C.x C.b dL_law_1036 (by decide) (fun _ => ?_) (fun cb => absurd cb0 cb)
    refine lv_iconst (v := (0 : Int32)) C.x C.b dL_law_1043 (by decide) ?_
    refine l_calli E (l_run (As := [.int (xs (x4 + (1 : Int32)).toNatClampNeg), .int (xs (x4 + (2 : Int32)).toNatClampNeg), .int (0 : Int32)]) (rest := [.int r]) C E 9 0 (c_X9_who l D cy (l_A s b) ad L σ1 (hI9 L ad σ hI).2 (xs (x4 + (1 : Int32)).toNatClampNeg) (xs (x4 + (2 : Int32)).toNatClampNeg) (0 : Int32) r e2) ⟨tw1221, tw60, tw1218, ⟨tw1219, tw1220⟩, hd_X9_who⟩ (by decide) (hI9 L ad σ hI).2 rfl ⟨rfl, by decide⟩ hl.1 rfl (Nat.le_of_ble_eq_true rfl) dL_law_1044 ⟨by show _ ≤ 601024; omega, by show _ ≤ 7293034; omega⟩) (fun H locs E => ?_)
    refine lv_icmp_eq (tgt := 1902) C.x C.b dL_law_1047 (by decide) (fun _ => ?_) (fun cb => absurd rfl cb)
    refine W.widen (k := cl + 2) (n := sl + 700) (by omega) (by omega) ?_
    exact kk L ad σ1 f _ _ ls hI2 E hl
  · skip
    refine lv_iconst (v := (1 : Int32)) C.x C.b dL_law_1009 (by decide) ?_
    refine lv_goto (tgt := 1014) C.x C.b dL_law_1010 (by decide) ?_
    obtain ⟨r, σ1, e1, e2, hI2⟩ := hsim L ad σ hI (xs (x4 + (1 : Int32)).toNatClampNeg) (xs (x4 + (2 : Int32)).toNatClampNeg) (1 : Int32) (by first | exact Or.inl rfl | exact Or.inr rfl)
    refine l_calli E (l_run (As := [.int (xs (x4 + (1 : Int32)).toNatClampNeg), .int (xs (x4 + (2 : Int32)).toNatClampNeg), .int (1 : Int32)]) (rest := []) C E 8 0 (c_X8_who l D cy (l_A s b) ad L σ (hI9 L ad σ hI).1 (xs (x4 + (1 : Int32)).toNatClampNeg) (xs (x4 + (2 : Int32)).toNatClampNeg) (1 : Int32) r σ1 e1) ⟨tw594, tw54, tw591, ⟨tw592, tw593⟩, hd_X8_who⟩ (by decide) (hI9 L ad σ hI).1 rfl ⟨rfl, by decide⟩ hl.1 rfl (Nat.le_of_ble_eq_true rfl) dL_law_1014 ⟨by show _ ≤ 601024; omega, by show _ ≤ 7293034; omega⟩) (fun H locs E => ?_)
    refine lv_aload_n C.x C.b dL_law_1017 rfl (lv_at hl 2 rfl) ?_
    refine lv_aload_n C.x C.b dL_law_1018 rfl (lv_at hl 0 rfl) ?_
    refine lv_iload C.x C.b dL_law_1019 (lv_at hl 4 rfl) ?_
    refine lv_iconst (v := (1 : Int32)) C.x C.b dL_law_1021 (by decide) ?_
    refine lv_iadd C.x C.b dL_law_1022 ?_
    refine va_sld C.x C.b SX.1 SX.2 (Nat.not_le.mpr SX.2) E.2.2.1 h1 dL_law_1023 ?_
    refine lv_aload_n C.x C.b dL_law_1024 rfl (lv_at hl 0 rfl) ?_
    refine lv_iload C.x C.b dL_law_1025 (lv_at hl 4 rfl) ?_
    refine lv_iconst (v := (2 : Int32)) C.x C.b dL_law_1027 (by decide) ?_
    refine lv_iadd C.x C.b dL_law_1028 ?_
    refine va_sld C.x C.b SX.1 SX.2 (Nat.not_le.mpr SX.2) E.2.2.1 h2 dL_law_1029 ?_
    refine lv_aload_n C.x C.b dL_law_1030 rfl (lv_at hl 0 rfl) ?_
    refine lv_iload C.x C.b dL_law_1031 (lv_at hl 4 rfl) ?_
    refine lv_iconst (v := (3 : Int32)) C.x C.b dL_law_1033 (by decide) ?_
    refine lv_iadd C.x C.b dL_law_1034 ?_
    refine va_sld C.x C.b SX.1 SX.2 (Nat.not_le.mpr SX.2) E.2.2.1 h3 dL_law_1035 ?_
    refine lv_if_eq (tgt := 1043) C.x C.b dL_law_1036 (by decide) (fun cb => absurd cb cb0) (fun _ => ?_)
    refine lv_iconst (v := (1 : Int32)) C.x C.b dL_law_1039 (by decide) ?_
    refine lv_goto (tgt := 1044) C.x C.b dL_law_1040 (by decide) ?_
    refine l_calli E (l_run (As := [.int (xs (x4 + (1 : Int32)).toNatClampNeg), .int (xs (x4 + (2 : Int32)).toNatClampNeg), .int (1 : Int32)]) (rest := [.int r]) C E 9 0 (c_X9_who l D cy (l_A s b) ad L σ1 (hI9 L ad σ hI).2 (xs (x4 + (1 : Int32)).toNatClampNeg) (xs (x4 + (2 : Int32)).toNatClampNeg) (1 : Int32) r e2) ⟨tw1221, tw60, tw1218, ⟨tw1219, tw1220⟩, hd_X9_who⟩ (by decide) (hI9 L ad σ hI).2 rfl ⟨rfl, by decide⟩ hl.1 rfl (Nat.le_of_ble_eq_true rfl) dL_law_1044 ⟨by show _ ≤ 601024; omega, by show _ ≤ 7293034; omega⟩) (fun H locs E => ?_)
    refine lv_icmp_eq (tgt := 1902) C.x C.b dL_law_1047 (by decide) (fun _ => ?_) (fun cb => absurd rfl cb)
    refine W.widen (k := cl + 2) (n := sl + 700) (by omega) (by omega) ?_
    exact kk L ad σ1 f _ _ ls hI2 E hl
set_option maxHeartbeats 4000000 in
set_option maxRecDepth 100000 in
theorem lc_breaches {p : Program} {l : Launch} {e : Env} {s : State} {m : MethodId} {below : List Frame} {meth : Method} {c : Code} {Q : State → Prop} {D : va_G} {cy : Nat → ClassId} {cJ : ClassId} {b bs Ls : Nat} {xs : Nat → Int32} (C : l_C D cy cJ p m c s #[Value.ref bs]) (SX : l_S bs Ls xs s) (hst : l.stackTraces = false) (hX : g_X (l_A s b) s) (I : gL → gA → gS → Prop) (hI9 : ∀ L ad σ, I L ad σ → (8, 0) ∈ L ∧ (9, 0) ∈ L) (hP9 : ∀ L ad σ, I L ad σ → ∀ K i, (K, i) ∈ L → K < 10 ∨ g_ty K < 9) (hsim : sim_breaches I) {cl sl : Nat} (hcl : cl + 2 ≤ 601024) (hsl : sl + 700 ≤ 7293034) {x4 : Int32} (h1 : g_ix (x4 + (1 : Int32)) Ls) (h2 : g_ix (x4 + (2 : Int32)) Ls) (h3 : g_ix (x4 + (3 : Int32)) Ls) (h4 : g_ix (x4 + (4 : Int32)) Ls) (h5 : g_ix (x4 + (5 : Int32)) Ls) (h6 : g_ix (x4 + (6 : Int32)) Ls)
    (kk : ∀ (L : gL) (ad : gA) (σ : gS) (f : Nat → Int64) (H : Heap) (locs : List Loc) (ls : Array Slot), I L ad σ → l_E D cy cJ b f ad L σ s H locs → lv_has ls 8 [(0, .ref bs), (1, .ref (ad 8 0)), (2, .ref (ad 9 0)), (3, .ref b), (4, .int x4)] → W p l e room_1 s m #[Value.ref bs] below meth c H locs (cl + 2) (sl + 700) Q (F0 m 1902 ls []))
    (L : gL) (ad : gA) (σ : gS) (f : Nat → Int64) (H : Heap) (locs : List Loc) (ls : Array Slot) (hI : I L ad σ) (E : l_E D cy cJ b f ad L σ s H locs) (hl : lv_has ls 8 [(0, .ref bs), (1, .ref (ad 8 0)), (2, .ref (ad 9 0)), (3, .ref b), (4, .int x4)]) : W p l e room_1 s m #[Value.ref bs] below meth c H locs cl sl Q (F0 m 1052 ls []) := by
  refine lv_aload_n C.x C.b dL_law_1052 rfl (lv_at hl 1 rfl) ?_
  obtain ⟨r, σ1, σ2, e1, e2, hI2⟩ := hsim L ad σ hI  
  refine l_calli E (l_run (As := []) (rest := []) C E 8 0 (c_X8_breaches l D cy (l_A s b) ad L σ (hI9 L ad σ hI).1 r σ1 e1) ⟨tw598, tw54, tw595, ⟨tw596, tw597⟩, hd_X8_breaches⟩ (by decide) (hI9 L ad σ hI).1 rfl ⟨rfl, by decide⟩ hl.1 rfl (Nat.le_of_ble_eq_true rfl) dL_law_1053 ⟨by show _ ≤ 601024; omega, by show _ ≤ 7293034; omega⟩) (fun H locs E => ?_)
  refine lv_aload_n C.x C.b dL_law_1056 rfl (lv_at hl 2 rfl) ?_
  refine l_calli E (l_run (As := []) (rest := [.int r]) C E 9 0 (c_X9_breaches l D cy (l_A s b) ad L σ1 (hI9 L ad σ hI).2 r σ2 e2) ⟨tw1225, tw60, tw1222, ⟨tw1223, tw1224⟩, hd_X9_breaches⟩ (by decide) (hI9 L ad σ hI).2 rfl ⟨rfl, by decide⟩ hl.1 rfl (Nat.le_of_ble_eq_true rfl) dL_law_1057 ⟨by show _ ≤ 601024; omega, by show _ ≤ 7293034; omega⟩) (fun H locs E => ?_)
  refine lv_icmp_eq (tgt := 1902) C.x C.b dL_law_1060 (by decide) (fun _ => ?_) (fun cb => absurd rfl cb)
  refine W.widen (k := cl + 2) (n := sl + 700) (by omega) (by omega) ?_
  exact kk L ad σ2 f _ _ ls hI2 E hl
set_option maxHeartbeats 4000000 in
set_option maxRecDepth 100000 in
theorem lc_breach {p : Program} {l : Launch} {e : Env} {s : State} {m : MethodId} {below : List Frame} {meth : Method} {c : Code} {Q : State → Prop} {D : va_G} {cy : Nat → ClassId} {cJ : ClassId} {b bs Ls : Nat} {xs : Nat → Int32} (C : l_C D cy cJ p m c s #[Value.ref bs]) (SX : l_S bs Ls xs s) (hst : l.stackTraces = false) (hX : g_X (l_A s b) s) (I : gL → gA → gS → Prop) (hI9 : ∀ L ad σ, I L ad σ → (8, 0) ∈ L ∧ (9, 0) ∈ L) (hP9 : ∀ L ad σ, I L ad σ → ∀ K i, (K, i) ∈ L → K < 10 ∨ g_ty K < 9) (hsim : sim_breach I) {cl sl : Nat} (hcl : cl + 2 ≤ 601024) (hsl : sl + 700 ≤ 7293034) {x4 : Int32} (h1 : g_ix (x4 + (1 : Int32)) Ls) (h2 : g_ix (x4 + (2 : Int32)) Ls) (h3 : g_ix (x4 + (3 : Int32)) Ls) (h4 : g_ix (x4 + (4 : Int32)) Ls) (h5 : g_ix (x4 + (5 : Int32)) Ls) (h6 : g_ix (x4 + (6 : Int32)) Ls)
    (kk : ∀ (L : gL) (ad : gA) (σ : gS) (f : Nat → Int64) (H : Heap) (locs : List Loc) (ls : Array Slot), I L ad σ → l_E D cy cJ b f ad L σ s H locs → lv_has ls 8 [(0, .ref bs), (1, .ref (ad 8 0)), (2, .ref (ad 9 0)), (3, .ref b), (4, .int x4)] → W p l e room_1 s m #[Value.ref bs] below meth c H locs (cl + 2) (sl + 700) Q (F0 m 1902 ls []))
    (L : gL) (ad : gA) (σ : gS) (f : Nat → Int64) (H : Heap) (locs : List Loc) (ls : Array Slot) (hI : I L ad σ) (E : l_E D cy cJ b f ad L σ s H locs) (hl : lv_has ls 8 [(0, .ref bs), (1, .ref (ad 8 0)), (2, .ref (ad 9 0)), (3, .ref b), (4, .int x4)]) : W p l e room_1 s m #[Value.ref bs] below meth c H locs cl sl Q (F0 m 1065 ls []) := by
  refine lv_aload_n C.x C.b dL_law_1065 rfl (lv_at hl 1 rfl) ?_
  refine lv_aload_n C.x C.b dL_law_1066 rfl (lv_at hl 0 rfl) ?_
  refine lv_iload C.x C.b dL_law_1067 (lv_at hl 4 rfl) ?_
  refine lv_iconst (v := (1 : Int32)) C.x C.b dL_law_1069 (by decide) ?_
  refine lv_iadd C.x C.b dL_law_1070 ?_
  refine va_sld C.x C.b SX.1 SX.2 (Nat.not_le.mpr SX.2) E.2.2.1 h1 dL_law_1071 ?_
  obtain ⟨r, σ1, σ2, e1, e2, hI2⟩ := hsim L ad σ hI (xs (x4 + (1 : Int32)).toNatClampNeg) 
  refine l_calli E (l_run (As := [.int (xs (x4 + (1 : Int32)).toNatClampNeg)]) (rest := []) C E 8 0 (c_X8_breach l D cy (l_A s b) ad L σ (hI9 L ad σ hI).1 (xs (x4 + (1 : Int32)).toNatClampNeg) r σ1 e1) ⟨tw607, tw54, tw604, ⟨tw605, tw606⟩, hd_X8_breach⟩ (by decide) (hI9 L ad σ hI).1 rfl ⟨rfl, by decide⟩ hl.1 rfl (Nat.le_of_ble_eq_true rfl) dL_law_1072 ⟨by show _ ≤ 601024; omega, by show _ ≤ 7293034; omega⟩) (fun H locs E => ?_)
  refine lv_aload_n C.x C.b dL_law_1075 rfl (lv_at hl 2 rfl) ?_
  refine lv_aload_n C.x C.b dL_law_1076 rfl (lv_at hl 0 rfl) ?_
  refine lv_iload C.x C.b dL_law_1077 (lv_at hl 4 rfl) ?_
  refine lv_iconst (v := (1 : Int32)) C.x C.b dL_law_1079 (by decide) ?_
  refine lv_iadd C.x C.b dL_law_1080 ?_
  refine va_sld C.x C.b SX.1 SX.2 (Nat.not_le.mpr SX.2) E.2.2.1 h1 dL_law_1081 ?_
  refine l_calli E (l_run (As := [.int (xs (x4 + (1 : Int32)).toNatClampNeg)]) (rest := [.int r]) C E 9 0 (c_X9_breach l D cy (l_A s b) ad L σ1 (hI9 L ad σ hI).2 (xs (x4 + (1 : Int32)).toNatClampNeg) r σ2 e2) ⟨tw1237, tw60, tw1234, ⟨tw1235, tw1236⟩, hd_X9_breach⟩ (by decide) (hI9 L ad σ hI).2 rfl ⟨rfl, by decide⟩ hl.1 rfl (Nat.le_of_ble_eq_true rfl) dL_law_1082 ⟨by show _ ≤ 601024; omega, by show _ ≤ 7293034; omega⟩) (fun H locs E => ?_)
  refine lv_icmp_eq (tgt := 1902) C.x C.b dL_law_1085 (by decide) (fun _ => ?_) (fun cb => absurd rfl cb)
  refine W.widen (k := cl + 2) (n := sl + 700) (by omega) (by omega) ?_
  exact kk L ad σ2 f _ _ ls hI2 E hl
set_option maxHeartbeats 4000000 in
set_option maxRecDepth 100000 in
theorem lc_fillings {p : Program} {l : Launch} {e : Env} {s : State} {m : MethodId} {below : List Frame} {meth : Method} {c : Code} {Q : State → Prop} {D : va_G} {cy : Nat → ClassId} {cJ : ClassId} {b bs Ls : Nat} {xs : Nat → Int32} (C : l_C D cy cJ p m c s #[Value.ref bs]) (SX : l_S bs Ls xs s) (hst : l.stackTraces = false) (hX : g_X (l_A s b) s) (I : gL → gA → gS → Prop) (hI9 : ∀ L ad σ, I L ad σ → (8, 0) ∈ L ∧ (9, 0) ∈ L) (hP9 : ∀ L ad σ, I L ad σ → ∀ K i, (K, i) ∈ L → K < 10 ∨ g_ty K < 9) (hsim : sim_fillings I) {cl sl : Nat} (hcl : cl + 2 ≤ 601024) (hsl : sl + 700 ≤ 7293034) {x4 : Int32} (h1 : g_ix (x4 + (1 : Int32)) Ls) (h2 : g_ix (x4 + (2 : Int32)) Ls) (h3 : g_ix (x4 + (3 : Int32)) Ls) (h4 : g_ix (x4 + (4 : Int32)) Ls) (h5 : g_ix (x4 + (5 : Int32)) Ls) (h6 : g_ix (x4 + (6 : Int32)) Ls)
    (kk : ∀ (L : gL) (ad : gA) (σ : gS) (f : Nat → Int64) (H : Heap) (locs : List Loc) (ls : Array Slot), I L ad σ → l_E D cy cJ b f ad L σ s H locs → lv_has ls 8 [(0, .ref bs), (1, .ref (ad 8 0)), (2, .ref (ad 9 0)), (3, .ref b), (4, .int x4)] → W p l e room_1 s m #[Value.ref bs] below meth c H locs (cl + 2) (sl + 700) Q (F0 m 1902 ls []))
    (L : gL) (ad : gA) (σ : gS) (f : Nat → Int64) (H : Heap) (locs : List Loc) (ls : Array Slot) (hI : I L ad σ) (E : l_E D cy cJ b f ad L σ s H locs) (hl : lv_has ls 8 [(0, .ref bs), (1, .ref (ad 8 0)), (2, .ref (ad 9 0)), (3, .ref b), (4, .int x4)]) : W p l e room_1 s m #[Value.ref bs] below meth c H locs cl sl Q (F0 m 1090 ls []) := by
  refine lv_aload_n C.x C.b dL_law_1090 rfl (lv_at hl 1 rfl) ?_
  refine lv_aload_n C.x C.b dL_law_1091 rfl (lv_at hl 0 rfl) ?_
  refine lv_iload C.x C.b dL_law_1092 (lv_at hl 4 rfl) ?_
  refine lv_iconst (v := (1 : Int32)) C.x C.b dL_law_1094 (by decide) ?_
  refine lv_iadd C.x C.b dL_law_1095 ?_
  refine va_sld C.x C.b SX.1 SX.2 (Nat.not_le.mpr SX.2) E.2.2.1 h1 dL_law_1096 ?_
  obtain ⟨r, σ1, σ2, e1, e2, hI2⟩ := hsim L ad σ hI (xs (x4 + (1 : Int32)).toNatClampNeg) 
  refine l_calli E (l_run (As := [.int (xs (x4 + (1 : Int32)).toNatClampNeg)]) (rest := []) C E 8 0 (c_X8_fillings l D cy (l_A s b) ad L σ (hI9 L ad σ hI).1 (xs (x4 + (1 : Int32)).toNatClampNeg) r σ1 e1) ⟨tw611, tw54, tw608, ⟨tw609, tw610⟩, hd_X8_fillings⟩ (by decide) (hI9 L ad σ hI).1 rfl ⟨rfl, by decide⟩ hl.1 rfl (Nat.le_of_ble_eq_true rfl) dL_law_1097 ⟨by show _ ≤ 601024; omega, by show _ ≤ 7293034; omega⟩) (fun H locs E => ?_)
  refine lv_aload_n C.x C.b dL_law_1100 rfl (lv_at hl 2 rfl) ?_
  refine lv_aload_n C.x C.b dL_law_1101 rfl (lv_at hl 0 rfl) ?_
  refine lv_iload C.x C.b dL_law_1102 (lv_at hl 4 rfl) ?_
  refine lv_iconst (v := (1 : Int32)) C.x C.b dL_law_1104 (by decide) ?_
  refine lv_iadd C.x C.b dL_law_1105 ?_
  refine va_sld C.x C.b SX.1 SX.2 (Nat.not_le.mpr SX.2) E.2.2.1 h1 dL_law_1106 ?_
  refine l_calli E (l_run (As := [.int (xs (x4 + (1 : Int32)).toNatClampNeg)]) (rest := [.int r]) C E 9 0 (c_X9_fillings l D cy (l_A s b) ad L σ1 (hI9 L ad σ hI).2 (xs (x4 + (1 : Int32)).toNatClampNeg) r σ2 e2) ⟨tw1241, tw60, tw1238, ⟨tw1239, tw1240⟩, hd_X9_fillings⟩ (by decide) (hI9 L ad σ hI).2 rfl ⟨rfl, by decide⟩ hl.1 rfl (Nat.le_of_ble_eq_true rfl) dL_law_1107 ⟨by show _ ≤ 601024; omega, by show _ ≤ 7293034; omega⟩) (fun H locs E => ?_)
  refine lv_icmp_eq (tgt := 1902) C.x C.b dL_law_1110 (by decide) (fun _ => ?_) (fun cb => absurd rfl cb)
  refine W.widen (k := cl + 2) (n := sl + 700) (by omega) (by omega) ?_
  exact kk L ad σ2 f _ _ ls hI2 E hl
set_option maxHeartbeats 4000000 in
set_option maxRecDepth 100000 in
theorem lc_fill {p : Program} {l : Launch} {e : Env} {s : State} {m : MethodId} {below : List Frame} {meth : Method} {c : Code} {Q : State → Prop} {D : va_G} {cy : Nat → ClassId} {cJ : ClassId} {b bs Ls : Nat} {xs : Nat → Int32} (C : l_C D cy cJ p m c s #[Value.ref bs]) (SX : l_S bs Ls xs s) (hst : l.stackTraces = false) (hX : g_X (l_A s b) s) (I : gL → gA → gS → Prop) (hI9 : ∀ L ad σ, I L ad σ → (8, 0) ∈ L ∧ (9, 0) ∈ L) (hP9 : ∀ L ad σ, I L ad σ → ∀ K i, (K, i) ∈ L → K < 10 ∨ g_ty K < 9) (hsim : sim_fill I) {cl sl : Nat} (hcl : cl + 2 ≤ 601024) (hsl : sl + 700 ≤ 7293034) {x4 : Int32} (h1 : g_ix (x4 + (1 : Int32)) Ls) (h2 : g_ix (x4 + (2 : Int32)) Ls) (h3 : g_ix (x4 + (3 : Int32)) Ls) (h4 : g_ix (x4 + (4 : Int32)) Ls) (h5 : g_ix (x4 + (5 : Int32)) Ls) (h6 : g_ix (x4 + (6 : Int32)) Ls)
    (kk : ∀ (L : gL) (ad : gA) (σ : gS) (f : Nat → Int64) (H : Heap) (locs : List Loc) (ls : Array Slot), I L ad σ → l_E D cy cJ b f ad L σ s H locs → lv_has ls 8 [(0, .ref bs), (1, .ref (ad 8 0)), (2, .ref (ad 9 0)), (3, .ref b), (4, .int x4)] → W p l e room_1 s m #[Value.ref bs] below meth c H locs (cl + 2) (sl + 700) Q (F0 m 1902 ls []))
    (L : gL) (ad : gA) (σ : gS) (f : Nat → Int64) (H : Heap) (locs : List Loc) (ls : Array Slot) (hI : I L ad σ) (E : l_E D cy cJ b f ad L σ s H locs) (hl : lv_has ls 8 [(0, .ref bs), (1, .ref (ad 8 0)), (2, .ref (ad 9 0)), (3, .ref b), (4, .int x4)]) : W p l e room_1 s m #[Value.ref bs] below meth c H locs cl sl Q (F0 m 1115 ls []) := by
  refine lv_aload_n C.x C.b dL_law_1115 rfl (lv_at hl 1 rfl) ?_
  refine lv_aload_n C.x C.b dL_law_1116 rfl (lv_at hl 0 rfl) ?_
  refine lv_iload C.x C.b dL_law_1117 (lv_at hl 4 rfl) ?_
  refine lv_iconst (v := (1 : Int32)) C.x C.b dL_law_1119 (by decide) ?_
  refine lv_iadd C.x C.b dL_law_1120 ?_
  refine va_sld C.x C.b SX.1 SX.2 (Nat.not_le.mpr SX.2) E.2.2.1 h1 dL_law_1121 ?_
  obtain ⟨r, σ1, σ2, e1, e2, hI2⟩ := hsim L ad σ hI (xs (x4 + (1 : Int32)).toNatClampNeg) 
  refine l_calli E (l_run (As := [.int (xs (x4 + (1 : Int32)).toNatClampNeg)]) (rest := []) C E 8 0 (c_X8_fill l D cy (l_A s b) ad L σ (hI9 L ad σ hI).1 (xs (x4 + (1 : Int32)).toNatClampNeg) r σ1 e1) ⟨tw653, tw54, tw650, ⟨tw651, tw652⟩, hd_X8_fill⟩ (by decide) (hI9 L ad σ hI).1 rfl ⟨rfl, by decide⟩ hl.1 rfl (Nat.le_of_ble_eq_true rfl) dL_law_1122 ⟨by show _ ≤ 601024; omega, by show _ ≤ 7293034; omega⟩) (fun H locs E => ?_)
  refine lv_aload_n C.x C.b dL_law_1125 rfl (lv_at hl 2 rfl) ?_
  refine lv_aload_n C.x C.b dL_law_1126 rfl (lv_at hl 0 rfl) ?_
  refine lv_iload C.x C.b dL_law_1127 (lv_at hl 4 rfl) ?_
  refine lv_iconst (v := (1 : Int32)) C.x C.b dL_law_1129 (by decide) ?_
  refine lv_iadd C.x C.b dL_law_1130 ?_
  refine va_sld C.x C.b SX.1 SX.2 (Nat.not_le.mpr SX.2) E.2.2.1 h1 dL_law_1131 ?_
  refine l_calli E (l_run (As := [.int (xs (x4 + (1 : Int32)).toNatClampNeg)]) (rest := [.int r]) C E 9 0 (c_X9_fill l D cy (l_A s b) ad L σ1 (hI9 L ad σ hI).2 (xs (x4 + (1 : Int32)).toNatClampNeg) r σ2 e2) ⟨tw1261, tw60, tw1258, ⟨tw1259, tw1260⟩, hd_X9_fill⟩ (by decide) (hI9 L ad σ hI).2 rfl ⟨rfl, by decide⟩ hl.1 rfl (Nat.le_of_ble_eq_true rfl) dL_law_1132 ⟨by show _ ≤ 601024; omega, by show _ ≤ 7293034; omega⟩) (fun H locs E => ?_)
  refine lv_icmp_eq (tgt := 1902) C.x C.b dL_law_1135 (by decide) (fun _ => ?_) (fun cb => absurd rfl cb)
  refine W.widen (k := cl + 2) (n := sl + 700) (by omega) (by omega) ?_
  exact kk L ad σ2 f _ _ ls hI2 E hl
set_option maxHeartbeats 4000000 in
set_option maxRecDepth 100000 in
theorem lc_among {p : Program} {l : Launch} {e : Env} {s : State} {m : MethodId} {below : List Frame} {meth : Method} {c : Code} {Q : State → Prop} {D : va_G} {cy : Nat → ClassId} {cJ : ClassId} {b bs Ls : Nat} {xs : Nat → Int32} (C : l_C D cy cJ p m c s #[Value.ref bs]) (SX : l_S bs Ls xs s) (hst : l.stackTraces = false) (hX : g_X (l_A s b) s) (I : gL → gA → gS → Prop) (hI9 : ∀ L ad σ, I L ad σ → (8, 0) ∈ L ∧ (9, 0) ∈ L) (hP9 : ∀ L ad σ, I L ad σ → ∀ K i, (K, i) ∈ L → K < 10 ∨ g_ty K < 9) (hsim : sim_among I) {cl sl : Nat} (hcl : cl + 2 ≤ 601024) (hsl : sl + 700 ≤ 7293034) {x4 : Int32} (h1 : g_ix (x4 + (1 : Int32)) Ls) (h2 : g_ix (x4 + (2 : Int32)) Ls) (h3 : g_ix (x4 + (3 : Int32)) Ls) (h4 : g_ix (x4 + (4 : Int32)) Ls) (h5 : g_ix (x4 + (5 : Int32)) Ls) (h6 : g_ix (x4 + (6 : Int32)) Ls)
    (kk : ∀ (L : gL) (ad : gA) (σ : gS) (f : Nat → Int64) (H : Heap) (locs : List Loc) (ls : Array Slot), I L ad σ → l_E D cy cJ b f ad L σ s H locs → lv_has ls 8 [(0, .ref bs), (1, .ref (ad 8 0)), (2, .ref (ad 9 0)), (3, .ref b), (4, .int x4)] → W p l e room_1 s m #[Value.ref bs] below meth c H locs (cl + 2) (sl + 700) Q (F0 m 1902 ls []))
    (L : gL) (ad : gA) (σ : gS) (f : Nat → Int64) (H : Heap) (locs : List Loc) (ls : Array Slot) (hI : I L ad σ) (E : l_E D cy cJ b f ad L σ s H locs) (hl : lv_has ls 8 [(0, .ref bs), (1, .ref (ad 8 0)), (2, .ref (ad 9 0)), (3, .ref b), (4, .int x4)]) : W p l e room_1 s m #[Value.ref bs] below meth c H locs cl sl Q (F0 m 1140 ls []) := by
  refine lv_aload_n C.x C.b dL_law_1140 rfl (lv_at hl 1 rfl) ?_
  refine lv_aload_n C.x C.b dL_law_1141 rfl (lv_at hl 0 rfl) ?_
  refine lv_iload C.x C.b dL_law_1142 (lv_at hl 4 rfl) ?_
  refine lv_iconst (v := (1 : Int32)) C.x C.b dL_law_1144 (by decide) ?_
  refine lv_iadd C.x C.b dL_law_1145 ?_
  refine va_sld C.x C.b SX.1 SX.2 (Nat.not_le.mpr SX.2) E.2.2.1 h1 dL_law_1146 ?_
  refine lv_aload_n C.x C.b dL_law_1147 rfl (lv_at hl 0 rfl) ?_
  refine lv_iload C.x C.b dL_law_1148 (lv_at hl 4 rfl) ?_
  refine lv_iconst (v := (2 : Int32)) C.x C.b dL_law_1150 (by decide) ?_
  refine lv_iadd C.x C.b dL_law_1151 ?_
  refine va_sld C.x C.b SX.1 SX.2 (Nat.not_le.mpr SX.2) E.2.2.1 h2 dL_law_1152 ?_
  refine lv_aload_n C.x C.b dL_law_1153 rfl (lv_at hl 0 rfl) ?_
  refine lv_iload C.x C.b dL_law_1154 (lv_at hl 4 rfl) ?_
  refine lv_iconst (v := (3 : Int32)) C.x C.b dL_law_1156 (by decide) ?_
  refine lv_iadd C.x C.b dL_law_1157 ?_
  refine va_sld C.x C.b SX.1 SX.2 (Nat.not_le.mpr SX.2) E.2.2.1 h3 dL_law_1158 ?_
  obtain ⟨r, σ1, σ2, e1, e2, hI2⟩ := hsim L ad σ hI (xs (x4 + (1 : Int32)).toNatClampNeg) (xs (x4 + (2 : Int32)).toNatClampNeg) (xs (x4 + (3 : Int32)).toNatClampNeg) 
  refine l_calli E (l_run (As := [.int (xs (x4 + (1 : Int32)).toNatClampNeg), .int (xs (x4 + (2 : Int32)).toNatClampNeg), .int (xs (x4 + (3 : Int32)).toNatClampNeg)]) (rest := []) C E 8 0 (c_X8_among l D cy (l_A s b) ad L σ (hI9 L ad σ hI).1 (xs (x4 + (1 : Int32)).toNatClampNeg) (xs (x4 + (2 : Int32)).toNatClampNeg) (xs (x4 + (3 : Int32)).toNatClampNeg) r σ1 e1) ⟨tw662, tw54, tw659, ⟨tw660, tw661⟩, hd_X8_among⟩ (by decide) (hI9 L ad σ hI).1 rfl ⟨rfl, by decide⟩ hl.1 rfl (Nat.le_of_ble_eq_true rfl) dL_law_1159 ⟨by show _ ≤ 601024; omega, by show _ ≤ 7293034; omega⟩) (fun H locs E => ?_)
  refine lv_aload_n C.x C.b dL_law_1162 rfl (lv_at hl 2 rfl) ?_
  refine lv_aload_n C.x C.b dL_law_1163 rfl (lv_at hl 0 rfl) ?_
  refine lv_iload C.x C.b dL_law_1164 (lv_at hl 4 rfl) ?_
  refine lv_iconst (v := (1 : Int32)) C.x C.b dL_law_1166 (by decide) ?_
  refine lv_iadd C.x C.b dL_law_1167 ?_
  refine va_sld C.x C.b SX.1 SX.2 (Nat.not_le.mpr SX.2) E.2.2.1 h1 dL_law_1168 ?_
  refine lv_aload_n C.x C.b dL_law_1169 rfl (lv_at hl 0 rfl) ?_
  refine lv_iload C.x C.b dL_law_1170 (lv_at hl 4 rfl) ?_
  refine lv_iconst (v := (2 : Int32)) C.x C.b dL_law_1172 (by decide) ?_
  refine lv_iadd C.x C.b dL_law_1173 ?_
  refine va_sld C.x C.b SX.1 SX.2 (Nat.not_le.mpr SX.2) E.2.2.1 h2 dL_law_1174 ?_
  refine lv_aload_n C.x C.b dL_law_1175 rfl (lv_at hl 0 rfl) ?_
  refine lv_iload C.x C.b dL_law_1176 (lv_at hl 4 rfl) ?_
  refine lv_iconst (v := (3 : Int32)) C.x C.b dL_law_1178 (by decide) ?_
  refine lv_iadd C.x C.b dL_law_1179 ?_
  refine va_sld C.x C.b SX.1 SX.2 (Nat.not_le.mpr SX.2) E.2.2.1 h3 dL_law_1180 ?_
  refine l_calli E (l_run (As := [.int (xs (x4 + (1 : Int32)).toNatClampNeg), .int (xs (x4 + (2 : Int32)).toNatClampNeg), .int (xs (x4 + (3 : Int32)).toNatClampNeg)]) (rest := [.int r]) C E 9 0 (c_X9_among l D cy (l_A s b) ad L σ1 (hI9 L ad σ hI).2 (xs (x4 + (1 : Int32)).toNatClampNeg) (xs (x4 + (2 : Int32)).toNatClampNeg) (xs (x4 + (3 : Int32)).toNatClampNeg) r σ2 e2) ⟨tw1265, tw60, tw1262, ⟨tw1263, tw1264⟩, hd_X9_among⟩ (by decide) (hI9 L ad σ hI).2 rfl ⟨rfl, by decide⟩ hl.1 rfl (Nat.le_of_ble_eq_true rfl) dL_law_1181 ⟨by show _ ≤ 601024; omega, by show _ ≤ 7293034; omega⟩) (fun H locs E => ?_)
  refine lv_icmp_eq (tgt := 1902) C.x C.b dL_law_1184 (by decide) (fun _ => ?_) (fun cb => absurd rfl cb)
  refine W.widen (k := cl + 2) (n := sl + 700) (by omega) (by omega) ?_
  exact kk L ad σ2 f _ _ ls hI2 E hl
set_option maxHeartbeats 4000000 in
set_option maxRecDepth 100000 in
theorem lc_election {p : Program} {l : Launch} {e : Env} {s : State} {m : MethodId} {below : List Frame} {meth : Method} {c : Code} {Q : State → Prop} {D : va_G} {cy : Nat → ClassId} {cJ : ClassId} {b bs Ls : Nat} {xs : Nat → Int32} (C : l_C D cy cJ p m c s #[Value.ref bs]) (SX : l_S bs Ls xs s) (hst : l.stackTraces = false) (hX : g_X (l_A s b) s) (I : gL → gA → gS → Prop) (hI9 : ∀ L ad σ, I L ad σ → (8, 0) ∈ L ∧ (9, 0) ∈ L) (hP9 : ∀ L ad σ, I L ad σ → ∀ K i, (K, i) ∈ L → K < 10 ∨ g_ty K < 9) (hsim : sim_election I) {cl sl : Nat} (hcl : cl + 2 ≤ 601024) (hsl : sl + 700 ≤ 7293034) {x4 : Int32} (h1 : g_ix (x4 + (1 : Int32)) Ls) (h2 : g_ix (x4 + (2 : Int32)) Ls) (h3 : g_ix (x4 + (3 : Int32)) Ls) (h4 : g_ix (x4 + (4 : Int32)) Ls) (h5 : g_ix (x4 + (5 : Int32)) Ls) (h6 : g_ix (x4 + (6 : Int32)) Ls)
    (kk : ∀ (L : gL) (ad : gA) (σ : gS) (f : Nat → Int64) (H : Heap) (locs : List Loc) (ls : Array Slot), I L ad σ → l_E D cy cJ b f ad L σ s H locs → lv_has ls 8 [(0, .ref bs), (1, .ref (ad 8 0)), (2, .ref (ad 9 0)), (3, .ref b), (4, .int x4)] → W p l e room_1 s m #[Value.ref bs] below meth c H locs (cl + 2) (sl + 700) Q (F0 m 1902 ls []))
    (L : gL) (ad : gA) (σ : gS) (f : Nat → Int64) (H : Heap) (locs : List Loc) (ls : Array Slot) (hI : I L ad σ) (E : l_E D cy cJ b f ad L σ s H locs) (hl : lv_has ls 8 [(0, .ref bs), (1, .ref (ad 8 0)), (2, .ref (ad 9 0)), (3, .ref b), (4, .int x4)]) : W p l e room_1 s m #[Value.ref bs] below meth c H locs cl sl Q (F0 m 1189 ls []) := by
  refine lv_aload_n C.x C.b dL_law_1189 rfl (lv_at hl 1 rfl) ?_
  refine lv_aload_n C.x C.b dL_law_1190 rfl (lv_at hl 0 rfl) ?_
  refine lv_iload C.x C.b dL_law_1191 (lv_at hl 4 rfl) ?_
  refine lv_iconst (v := (1 : Int32)) C.x C.b dL_law_1193 (by decide) ?_
  refine lv_iadd C.x C.b dL_law_1194 ?_
  refine va_sld C.x C.b SX.1 SX.2 (Nat.not_le.mpr SX.2) E.2.2.1 h1 dL_law_1195 ?_
  refine lv_aload_n C.x C.b dL_law_1196 rfl (lv_at hl 0 rfl) ?_
  refine lv_iload C.x C.b dL_law_1197 (lv_at hl 4 rfl) ?_
  refine lv_iconst (v := (2 : Int32)) C.x C.b dL_law_1199 (by decide) ?_
  refine lv_iadd C.x C.b dL_law_1200 ?_
  refine va_sld C.x C.b SX.1 SX.2 (Nat.not_le.mpr SX.2) E.2.2.1 h2 dL_law_1201 ?_
  obtain ⟨r, σ1, σ2, e1, e2, hI2⟩ := hsim L ad σ hI (xs (x4 + (1 : Int32)).toNatClampNeg) (xs (x4 + (2 : Int32)).toNatClampNeg) 
  refine l_calli E (l_run (As := [.int (xs (x4 + (1 : Int32)).toNatClampNeg), .int (xs (x4 + (2 : Int32)).toNatClampNeg)]) (rest := []) C E 8 0 (c_X8_election l D cy (l_A s b) ad L σ (hI9 L ad σ hI).1 (xs (x4 + (1 : Int32)).toNatClampNeg) (xs (x4 + (2 : Int32)).toNatClampNeg) r σ1 e1) ⟨tw666, tw54, tw663, ⟨tw664, tw665⟩, hd_X8_election⟩ (by decide) (hI9 L ad σ hI).1 rfl ⟨rfl, by decide⟩ hl.1 rfl (Nat.le_of_ble_eq_true rfl) dL_law_1202 ⟨by show _ ≤ 601024; omega, by show _ ≤ 7293034; omega⟩) (fun H locs E => ?_)
  refine lv_aload_n C.x C.b dL_law_1205 rfl (lv_at hl 2 rfl) ?_
  refine lv_aload_n C.x C.b dL_law_1206 rfl (lv_at hl 0 rfl) ?_
  refine lv_iload C.x C.b dL_law_1207 (lv_at hl 4 rfl) ?_
  refine lv_iconst (v := (1 : Int32)) C.x C.b dL_law_1209 (by decide) ?_
  refine lv_iadd C.x C.b dL_law_1210 ?_
  refine va_sld C.x C.b SX.1 SX.2 (Nat.not_le.mpr SX.2) E.2.2.1 h1 dL_law_1211 ?_
  refine lv_aload_n C.x C.b dL_law_1212 rfl (lv_at hl 0 rfl) ?_
  refine lv_iload C.x C.b dL_law_1213 (lv_at hl 4 rfl) ?_
  refine lv_iconst (v := (2 : Int32)) C.x C.b dL_law_1215 (by decide) ?_
  refine lv_iadd C.x C.b dL_law_1216 ?_
  refine va_sld C.x C.b SX.1 SX.2 (Nat.not_le.mpr SX.2) E.2.2.1 h2 dL_law_1217 ?_
  refine l_calli E (l_run (As := [.int (xs (x4 + (1 : Int32)).toNatClampNeg), .int (xs (x4 + (2 : Int32)).toNatClampNeg)]) (rest := [.int r]) C E 9 0 (c_X9_election l D cy (l_A s b) ad L σ1 (hI9 L ad σ hI).2 (xs (x4 + (1 : Int32)).toNatClampNeg) (xs (x4 + (2 : Int32)).toNatClampNeg) r σ2 e2) ⟨tw1269, tw60, tw1266, ⟨tw1267, tw1268⟩, hd_X9_election⟩ (by decide) (hI9 L ad σ hI).2 rfl ⟨rfl, by decide⟩ hl.1 rfl (Nat.le_of_ble_eq_true rfl) dL_law_1218 ⟨by show _ ≤ 601024; omega, by show _ ≤ 7293034; omega⟩) (fun H locs E => ?_)
  refine lv_icmp_eq (tgt := 1902) C.x C.b dL_law_1221 (by decide) (fun _ => ?_) (fun cb => absurd rfl cb)
  refine W.widen (k := cl + 2) (n := sl + 700) (by omega) (by omega) ?_
  exact kk L ad σ2 f _ _ ls hI2 E hl
set_option maxHeartbeats 4000000 in
set_option maxRecDepth 100000 in
theorem lc_vote {p : Program} {l : Launch} {e : Env} {s : State} {m : MethodId} {below : List Frame} {meth : Method} {c : Code} {Q : State → Prop} {D : va_G} {cy : Nat → ClassId} {cJ : ClassId} {b bs Ls : Nat} {xs : Nat → Int32} (C : l_C D cy cJ p m c s #[Value.ref bs]) (SX : l_S bs Ls xs s) (hst : l.stackTraces = false) (hX : g_X (l_A s b) s) (I : gL → gA → gS → Prop) (hI9 : ∀ L ad σ, I L ad σ → (8, 0) ∈ L ∧ (9, 0) ∈ L) (hP9 : ∀ L ad σ, I L ad σ → ∀ K i, (K, i) ∈ L → K < 10 ∨ g_ty K < 9) (hsim : sim_vote I) {cl sl : Nat} (hcl : cl + 2 ≤ 601024) (hsl : sl + 700 ≤ 7293034) {x4 : Int32} (h1 : g_ix (x4 + (1 : Int32)) Ls) (h2 : g_ix (x4 + (2 : Int32)) Ls) (h3 : g_ix (x4 + (3 : Int32)) Ls) (h4 : g_ix (x4 + (4 : Int32)) Ls) (h5 : g_ix (x4 + (5 : Int32)) Ls) (h6 : g_ix (x4 + (6 : Int32)) Ls)
    (kk : ∀ (L : gL) (ad : gA) (σ : gS) (f : Nat → Int64) (H : Heap) (locs : List Loc) (ls : Array Slot), I L ad σ → l_E D cy cJ b f ad L σ s H locs → lv_has ls 8 [(0, .ref bs), (1, .ref (ad 8 0)), (2, .ref (ad 9 0)), (3, .ref b), (4, .int x4)] → W p l e room_1 s m #[Value.ref bs] below meth c H locs (cl + 2) (sl + 700) Q (F0 m 1902 ls []))
    (L : gL) (ad : gA) (σ : gS) (f : Nat → Int64) (H : Heap) (locs : List Loc) (ls : Array Slot) (hI : I L ad σ) (E : l_E D cy cJ b f ad L σ s H locs) (hl : lv_has ls 8 [(0, .ref bs), (1, .ref (ad 8 0)), (2, .ref (ad 9 0)), (3, .ref b), (4, .int x4)]) : W p l e room_1 s m #[Value.ref bs] below meth c H locs cl sl Q (F0 m 1226 ls []) := by
  refine lv_aload_n C.x C.b dL_law_1226 rfl (lv_at hl 1 rfl) ?_
  refine lv_aload_n C.x C.b dL_law_1227 rfl (lv_at hl 0 rfl) ?_
  refine lv_iload C.x C.b dL_law_1228 (lv_at hl 4 rfl) ?_
  refine lv_iconst (v := (1 : Int32)) C.x C.b dL_law_1230 (by decide) ?_
  refine lv_iadd C.x C.b dL_law_1231 ?_
  refine va_sld C.x C.b SX.1 SX.2 (Nat.not_le.mpr SX.2) E.2.2.1 h1 dL_law_1232 ?_
  refine lv_aload_n C.x C.b dL_law_1233 rfl (lv_at hl 0 rfl) ?_
  refine lv_iload C.x C.b dL_law_1234 (lv_at hl 4 rfl) ?_
  refine lv_iconst (v := (2 : Int32)) C.x C.b dL_law_1236 (by decide) ?_
  refine lv_iadd C.x C.b dL_law_1237 ?_
  refine va_sld C.x C.b SX.1 SX.2 (Nat.not_le.mpr SX.2) E.2.2.1 h2 dL_law_1238 ?_
  obtain ⟨r, σ1, σ2, e1, e2, hI2⟩ := hsim L ad σ hI (xs (x4 + (1 : Int32)).toNatClampNeg) (xs (x4 + (2 : Int32)).toNatClampNeg) 
  refine l_calli E (l_run (As := [.int (xs (x4 + (1 : Int32)).toNatClampNeg), .int (xs (x4 + (2 : Int32)).toNatClampNeg)]) (rest := []) C E 8 0 (c_X8_vote l D cy (l_A s b) ad L σ (hI9 L ad σ hI).1 (xs (x4 + (1 : Int32)).toNatClampNeg) (xs (x4 + (2 : Int32)).toNatClampNeg) r σ1 e1) ⟨tw677, tw54, tw674, ⟨tw675, tw676⟩, hd_X8_vote⟩ (by decide) (hI9 L ad σ hI).1 rfl ⟨rfl, by decide⟩ hl.1 rfl (Nat.le_of_ble_eq_true rfl) dL_law_1239 ⟨by show _ ≤ 601024; omega, by show _ ≤ 7293034; omega⟩) (fun H locs E => ?_)
  refine lv_aload_n C.x C.b dL_law_1242 rfl (lv_at hl 2 rfl) ?_
  refine lv_aload_n C.x C.b dL_law_1243 rfl (lv_at hl 0 rfl) ?_
  refine lv_iload C.x C.b dL_law_1244 (lv_at hl 4 rfl) ?_
  refine lv_iconst (v := (1 : Int32)) C.x C.b dL_law_1246 (by decide) ?_
  refine lv_iadd C.x C.b dL_law_1247 ?_
  refine va_sld C.x C.b SX.1 SX.2 (Nat.not_le.mpr SX.2) E.2.2.1 h1 dL_law_1248 ?_
  refine lv_aload_n C.x C.b dL_law_1249 rfl (lv_at hl 0 rfl) ?_
  refine lv_iload C.x C.b dL_law_1250 (lv_at hl 4 rfl) ?_
  refine lv_iconst (v := (2 : Int32)) C.x C.b dL_law_1252 (by decide) ?_
  refine lv_iadd C.x C.b dL_law_1253 ?_
  refine va_sld C.x C.b SX.1 SX.2 (Nat.not_le.mpr SX.2) E.2.2.1 h2 dL_law_1254 ?_
  refine l_calli E (l_run (As := [.int (xs (x4 + (1 : Int32)).toNatClampNeg), .int (xs (x4 + (2 : Int32)).toNatClampNeg)]) (rest := [.int r]) C E 9 0 (c_X9_vote l D cy (l_A s b) ad L σ1 (hI9 L ad σ hI).2 (xs (x4 + (1 : Int32)).toNatClampNeg) (xs (x4 + (2 : Int32)).toNatClampNeg) r σ2 e2) ⟨tw1277, tw60, tw1274, ⟨tw1275, tw1276⟩, hd_X9_vote⟩ (by decide) (hI9 L ad σ hI).2 rfl ⟨rfl, by decide⟩ hl.1 rfl (Nat.le_of_ble_eq_true rfl) dL_law_1255 ⟨by show _ ≤ 601024; omega, by show _ ≤ 7293034; omega⟩) (fun H locs E => ?_)
  refine lv_icmp_eq (tgt := 1902) C.x C.b dL_law_1258 (by decide) (fun _ => ?_) (fun cb => absurd rfl cb)
  refine W.widen (k := cl + 2) (n := sl + 700) (by omega) (by omega) ?_
  exact kk L ad σ2 f _ _ ls hI2 E hl
set_option maxHeartbeats 4000000 in
set_option maxRecDepth 100000 in
theorem lc_elected {p : Program} {l : Launch} {e : Env} {s : State} {m : MethodId} {below : List Frame} {meth : Method} {c : Code} {Q : State → Prop} {D : va_G} {cy : Nat → ClassId} {cJ : ClassId} {b bs Ls : Nat} {xs : Nat → Int32} (C : l_C D cy cJ p m c s #[Value.ref bs]) (SX : l_S bs Ls xs s) (hst : l.stackTraces = false) (hX : g_X (l_A s b) s) (I : gL → gA → gS → Prop) (hI9 : ∀ L ad σ, I L ad σ → (8, 0) ∈ L ∧ (9, 0) ∈ L) (hP9 : ∀ L ad σ, I L ad σ → ∀ K i, (K, i) ∈ L → K < 10 ∨ g_ty K < 9) (hsim : sim_elected I) {cl sl : Nat} (hcl : cl + 2 ≤ 601024) (hsl : sl + 700 ≤ 7293034) {x4 : Int32} (h1 : g_ix (x4 + (1 : Int32)) Ls) (h2 : g_ix (x4 + (2 : Int32)) Ls) (h3 : g_ix (x4 + (3 : Int32)) Ls) (h4 : g_ix (x4 + (4 : Int32)) Ls) (h5 : g_ix (x4 + (5 : Int32)) Ls) (h6 : g_ix (x4 + (6 : Int32)) Ls)
    (kk : ∀ (L : gL) (ad : gA) (σ : gS) (f : Nat → Int64) (H : Heap) (locs : List Loc) (ls : Array Slot), I L ad σ → l_E D cy cJ b f ad L σ s H locs → lv_has ls 8 [(0, .ref bs), (1, .ref (ad 8 0)), (2, .ref (ad 9 0)), (3, .ref b), (4, .int x4)] → W p l e room_1 s m #[Value.ref bs] below meth c H locs (cl + 2) (sl + 700) Q (F0 m 1902 ls []))
    (L : gL) (ad : gA) (σ : gS) (f : Nat → Int64) (H : Heap) (locs : List Loc) (ls : Array Slot) (hI : I L ad σ) (E : l_E D cy cJ b f ad L σ s H locs) (hl : lv_has ls 8 [(0, .ref bs), (1, .ref (ad 8 0)), (2, .ref (ad 9 0)), (3, .ref b), (4, .int x4)]) : W p l e room_1 s m #[Value.ref bs] below meth c H locs cl sl Q (F0 m 1263 ls []) := by
  refine lv_aload_n C.x C.b dL_law_1263 rfl (lv_at hl 1 rfl) ?_
  refine lv_aload_n C.x C.b dL_law_1264 rfl (lv_at hl 0 rfl) ?_
  refine lv_iload C.x C.b dL_law_1265 (lv_at hl 4 rfl) ?_
  refine lv_iconst (v := (1 : Int32)) C.x C.b dL_law_1267 (by decide) ?_
  refine lv_iadd C.x C.b dL_law_1268 ?_
  refine va_sld C.x C.b SX.1 SX.2 (Nat.not_le.mpr SX.2) E.2.2.1 h1 dL_law_1269 ?_
  refine lv_i2l C.x C.b dL_law_1270 rfl ?_
  refine lv_bipush (v := (32 : Int32)) C.x C.b dL_law_1271 (by decide) ?_
  refine lv_lshl C.x C.b dL_law_1273 rfl ?_
  refine lv_aload_n C.x C.b dL_law_1274 rfl (lv_at hl 0 rfl) ?_
  refine lv_iload C.x C.b dL_law_1275 (lv_at hl 4 rfl) ?_
  refine lv_iconst (v := (2 : Int32)) C.x C.b dL_law_1277 (by decide) ?_
  refine lv_iadd C.x C.b dL_law_1278 ?_
  refine va_sld C.x C.b SX.1 SX.2 (Nat.not_le.mpr SX.2) E.2.2.1 h2 dL_law_1279 ?_
  refine lv_i2l C.x C.b dL_law_1280 rfl ?_
  refine lv_ldc2 (v := (4294967295 : Int64)) C.x C.b C.1.2.2.2.1 (C.1.2.2.2.2 _ tw1362) dL_law_1281 ?_
  refine lv_land C.x C.b dL_law_1284 ?_
  refine lv_lor C.x C.b dL_law_1285 ?_
  refine lv_aload_n C.x C.b dL_law_1286 rfl (lv_at hl 0 rfl) ?_
  refine lv_iload C.x C.b dL_law_1287 (lv_at hl 4 rfl) ?_
  refine lv_iconst (v := (3 : Int32)) C.x C.b dL_law_1289 (by decide) ?_
  refine lv_iadd C.x C.b dL_law_1290 ?_
  refine va_sld C.x C.b SX.1 SX.2 (Nat.not_le.mpr SX.2) E.2.2.1 h3 dL_law_1291 ?_
  refine lv_aload_n C.x C.b dL_law_1292 rfl (lv_at hl 0 rfl) ?_
  refine lv_iload C.x C.b dL_law_1293 (lv_at hl 4 rfl) ?_
  refine lv_iconst (v := (4 : Int32)) C.x C.b dL_law_1295 (by decide) ?_
  refine lv_iadd C.x C.b dL_law_1296 ?_
  refine va_sld C.x C.b SX.1 SX.2 (Nat.not_le.mpr SX.2) E.2.2.1 h4 dL_law_1297 ?_
  obtain ⟨r, σ1, σ2, e1, e2, hI2⟩ := hsim L ad σ hI ((((xs (x4 + (1 : Int32)).toNatClampNeg)).toInt64 <<< (((32 : Int32)).toInt64 &&& 63)) ||| (((xs (x4 + (2 : Int32)).toNatClampNeg)).toInt64 &&& (4294967295 : Int64))) (xs (x4 + (3 : Int32)).toNatClampNeg) (xs (x4 + (4 : Int32)).toNatClampNeg) 
  refine l_calli E (l_run (As := [.long ((((xs (x4 + (1 : Int32)).toNatClampNeg)).toInt64 <<< (((32 : Int32)).toInt64 &&& 63)) ||| (((xs (x4 + (2 : Int32)).toNatClampNeg)).toInt64 &&& (4294967295 : Int64))), .int (xs (x4 + (3 : Int32)).toNatClampNeg), .int (xs (x4 + (4 : Int32)).toNatClampNeg)]) (rest := []) C E 8 0 (c_X8_elected l D cy (l_A s b) ad L σ (hI9 L ad σ hI).1 ((((xs (x4 + (1 : Int32)).toNatClampNeg)).toInt64 <<< (((32 : Int32)).toInt64 &&& 63)) ||| (((xs (x4 + (2 : Int32)).toNatClampNeg)).toInt64 &&& (4294967295 : Int64))) (xs (x4 + (3 : Int32)).toNatClampNeg) (xs (x4 + (4 : Int32)).toNatClampNeg) r σ1 e1) ⟨tw695, tw54, tw692, ⟨tw693, tw694⟩, hd_X8_elected⟩ (by decide) (hI9 L ad σ hI).1 rfl ⟨rfl, by decide⟩ hl.1 rfl (Nat.le_of_ble_eq_true rfl) dL_law_1298 ⟨by show _ ≤ 601024; omega, by show _ ≤ 7293034; omega⟩) (fun H locs E => ?_)
  refine lv_aload_n C.x C.b dL_law_1301 rfl (lv_at hl 2 rfl) ?_
  refine lv_aload_n C.x C.b dL_law_1302 rfl (lv_at hl 0 rfl) ?_
  refine lv_iload C.x C.b dL_law_1303 (lv_at hl 4 rfl) ?_
  refine lv_iconst (v := (1 : Int32)) C.x C.b dL_law_1305 (by decide) ?_
  refine lv_iadd C.x C.b dL_law_1306 ?_
  refine va_sld C.x C.b SX.1 SX.2 (Nat.not_le.mpr SX.2) E.2.2.1 h1 dL_law_1307 ?_
  refine lv_i2l C.x C.b dL_law_1308 rfl ?_
  refine lv_bipush (v := (32 : Int32)) C.x C.b dL_law_1309 (by decide) ?_
  refine lv_lshl C.x C.b dL_law_1311 rfl ?_
  refine lv_aload_n C.x C.b dL_law_1312 rfl (lv_at hl 0 rfl) ?_
  refine lv_iload C.x C.b dL_law_1313 (lv_at hl 4 rfl) ?_
  refine lv_iconst (v := (2 : Int32)) C.x C.b dL_law_1315 (by decide) ?_
  refine lv_iadd C.x C.b dL_law_1316 ?_
  refine va_sld C.x C.b SX.1 SX.2 (Nat.not_le.mpr SX.2) E.2.2.1 h2 dL_law_1317 ?_
  refine lv_i2l C.x C.b dL_law_1318 rfl ?_
  refine lv_ldc2 (v := (4294967295 : Int64)) C.x C.b C.1.2.2.2.1 (C.1.2.2.2.2 _ tw1362) dL_law_1319 ?_
  refine lv_land C.x C.b dL_law_1322 ?_
  refine lv_lor C.x C.b dL_law_1323 ?_
  refine lv_aload_n C.x C.b dL_law_1324 rfl (lv_at hl 0 rfl) ?_
  refine lv_iload C.x C.b dL_law_1325 (lv_at hl 4 rfl) ?_
  refine lv_iconst (v := (3 : Int32)) C.x C.b dL_law_1327 (by decide) ?_
  refine lv_iadd C.x C.b dL_law_1328 ?_
  refine va_sld C.x C.b SX.1 SX.2 (Nat.not_le.mpr SX.2) E.2.2.1 h3 dL_law_1329 ?_
  refine lv_aload_n C.x C.b dL_law_1330 rfl (lv_at hl 0 rfl) ?_
  refine lv_iload C.x C.b dL_law_1331 (lv_at hl 4 rfl) ?_
  refine lv_iconst (v := (4 : Int32)) C.x C.b dL_law_1333 (by decide) ?_
  refine lv_iadd C.x C.b dL_law_1334 ?_
  refine va_sld C.x C.b SX.1 SX.2 (Nat.not_le.mpr SX.2) E.2.2.1 h4 dL_law_1335 ?_
  refine l_calli E (l_run (As := [.long ((((xs (x4 + (1 : Int32)).toNatClampNeg)).toInt64 <<< (((32 : Int32)).toInt64 &&& 63)) ||| (((xs (x4 + (2 : Int32)).toNatClampNeg)).toInt64 &&& (4294967295 : Int64))), .int (xs (x4 + (3 : Int32)).toNatClampNeg), .int (xs (x4 + (4 : Int32)).toNatClampNeg)]) (rest := [.int r]) C E 9 0 (c_X9_elected l D cy (l_A s b) ad L σ1 (hI9 L ad σ hI).2 ((((xs (x4 + (1 : Int32)).toNatClampNeg)).toInt64 <<< (((32 : Int32)).toInt64 &&& 63)) ||| (((xs (x4 + (2 : Int32)).toNatClampNeg)).toInt64 &&& (4294967295 : Int64))) (xs (x4 + (3 : Int32)).toNatClampNeg) (xs (x4 + (4 : Int32)).toNatClampNeg) r σ2 e2) ⟨tw1285, tw60, tw1282, ⟨tw1283, tw1284⟩, hd_X9_elected⟩ (by decide) (hI9 L ad σ hI).2 rfl ⟨rfl, by decide⟩ hl.1 rfl (Nat.le_of_ble_eq_true rfl) dL_law_1336 ⟨by show _ ≤ 601024; omega, by show _ ≤ 7293034; omega⟩) (fun H locs E => ?_)
  refine lv_icmp_eq (tgt := 1902) C.x C.b dL_law_1339 (by decide) (fun _ => ?_) (fun cb => absurd rfl cb)
  refine W.widen (k := cl + 2) (n := sl + 700) (by omega) (by omega) ?_
  exact kk L ad σ2 f _ _ ls hI2 E hl
set_option maxHeartbeats 4000000 in
set_option maxRecDepth 100000 in
theorem lc_sure {p : Program} {l : Launch} {e : Env} {s : State} {m : MethodId} {below : List Frame} {meth : Method} {c : Code} {Q : State → Prop} {D : va_G} {cy : Nat → ClassId} {cJ : ClassId} {b bs Ls : Nat} {xs : Nat → Int32} (C : l_C D cy cJ p m c s #[Value.ref bs]) (SX : l_S bs Ls xs s) (hst : l.stackTraces = false) (hX : g_X (l_A s b) s) (I : gL → gA → gS → Prop) (hI9 : ∀ L ad σ, I L ad σ → (8, 0) ∈ L ∧ (9, 0) ∈ L) (hP9 : ∀ L ad σ, I L ad σ → ∀ K i, (K, i) ∈ L → K < 10 ∨ g_ty K < 9) (hsim : sim_sure I) {cl sl : Nat} (hcl : cl + 2 ≤ 601024) (hsl : sl + 700 ≤ 7293034) {x4 : Int32} (h1 : g_ix (x4 + (1 : Int32)) Ls) (h2 : g_ix (x4 + (2 : Int32)) Ls) (h3 : g_ix (x4 + (3 : Int32)) Ls) (h4 : g_ix (x4 + (4 : Int32)) Ls) (h5 : g_ix (x4 + (5 : Int32)) Ls) (h6 : g_ix (x4 + (6 : Int32)) Ls)
    (kk : ∀ (L : gL) (ad : gA) (σ : gS) (f : Nat → Int64) (H : Heap) (locs : List Loc) (ls : Array Slot), I L ad σ → l_E D cy cJ b f ad L σ s H locs → lv_has ls 8 [(0, .ref bs), (1, .ref (ad 8 0)), (2, .ref (ad 9 0)), (3, .ref b), (4, .int x4)] → W p l e room_1 s m #[Value.ref bs] below meth c H locs (cl + 2) (sl + 700) Q (F0 m 1902 ls []))
    (L : gL) (ad : gA) (σ : gS) (f : Nat → Int64) (H : Heap) (locs : List Loc) (ls : Array Slot) (hI : I L ad σ) (E : l_E D cy cJ b f ad L σ s H locs) (hl : lv_has ls 8 [(0, .ref bs), (1, .ref (ad 8 0)), (2, .ref (ad 9 0)), (3, .ref b), (4, .int x4)]) : W p l e room_1 s m #[Value.ref bs] below meth c H locs cl sl Q (F0 m 1344 ls []) := by
  refine lv_aload_n C.x C.b dL_law_1344 rfl (lv_at hl 1 rfl) ?_
  refine lv_aload_n C.x C.b dL_law_1345 rfl (lv_at hl 0 rfl) ?_
  refine lv_iload C.x C.b dL_law_1346 (lv_at hl 4 rfl) ?_
  refine lv_iconst (v := (1 : Int32)) C.x C.b dL_law_1348 (by decide) ?_
  refine lv_iadd C.x C.b dL_law_1349 ?_
  refine va_sld C.x C.b SX.1 SX.2 (Nat.not_le.mpr SX.2) E.2.2.1 h1 dL_law_1350 ?_
  refine lv_i2l C.x C.b dL_law_1351 rfl ?_
  refine lv_bipush (v := (32 : Int32)) C.x C.b dL_law_1352 (by decide) ?_
  refine lv_lshl C.x C.b dL_law_1354 rfl ?_
  refine lv_aload_n C.x C.b dL_law_1355 rfl (lv_at hl 0 rfl) ?_
  refine lv_iload C.x C.b dL_law_1356 (lv_at hl 4 rfl) ?_
  refine lv_iconst (v := (2 : Int32)) C.x C.b dL_law_1358 (by decide) ?_
  refine lv_iadd C.x C.b dL_law_1359 ?_
  refine va_sld C.x C.b SX.1 SX.2 (Nat.not_le.mpr SX.2) E.2.2.1 h2 dL_law_1360 ?_
  refine lv_i2l C.x C.b dL_law_1361 rfl ?_
  refine lv_ldc2 (v := (4294967295 : Int64)) C.x C.b C.1.2.2.2.1 (C.1.2.2.2.2 _ tw1362) dL_law_1362 ?_
  refine lv_land C.x C.b dL_law_1365 ?_
  refine lv_lor C.x C.b dL_law_1366 ?_
  obtain ⟨r, σ1, σ2, e1, e2, hI2⟩ := hsim L ad σ hI ((((xs (x4 + (1 : Int32)).toNatClampNeg)).toInt64 <<< (((32 : Int32)).toInt64 &&& 63)) ||| (((xs (x4 + (2 : Int32)).toNatClampNeg)).toInt64 &&& (4294967295 : Int64))) 
  refine l_calli E (l_run (As := [.long ((((xs (x4 + (1 : Int32)).toNatClampNeg)).toInt64 <<< (((32 : Int32)).toInt64 &&& 63)) ||| (((xs (x4 + (2 : Int32)).toNatClampNeg)).toInt64 &&& (4294967295 : Int64)))]) (rest := []) C E 8 0 (c_X8_sure l D cy (l_A s b) ad L σ (hI9 L ad σ hI).1 ((((xs (x4 + (1 : Int32)).toNatClampNeg)).toInt64 <<< (((32 : Int32)).toInt64 &&& 63)) ||| (((xs (x4 + (2 : Int32)).toNatClampNeg)).toInt64 &&& (4294967295 : Int64))) r σ1 e1) ⟨tw734, tw54, tw731, ⟨tw732, tw733⟩, hd_X8_sure⟩ (by decide) (hI9 L ad σ hI).1 rfl ⟨rfl, by decide⟩ hl.1 rfl (Nat.le_of_ble_eq_true rfl) dL_law_1367 ⟨by show _ ≤ 601024; omega, by show _ ≤ 7293034; omega⟩) (fun H locs E => ?_)
  refine lv_aload_n C.x C.b dL_law_1370 rfl (lv_at hl 2 rfl) ?_
  refine lv_aload_n C.x C.b dL_law_1371 rfl (lv_at hl 0 rfl) ?_
  refine lv_iload C.x C.b dL_law_1372 (lv_at hl 4 rfl) ?_
  refine lv_iconst (v := (1 : Int32)) C.x C.b dL_law_1374 (by decide) ?_
  refine lv_iadd C.x C.b dL_law_1375 ?_
  refine va_sld C.x C.b SX.1 SX.2 (Nat.not_le.mpr SX.2) E.2.2.1 h1 dL_law_1376 ?_
  refine lv_i2l C.x C.b dL_law_1377 rfl ?_
  refine lv_bipush (v := (32 : Int32)) C.x C.b dL_law_1378 (by decide) ?_
  refine lv_lshl C.x C.b dL_law_1380 rfl ?_
  refine lv_aload_n C.x C.b dL_law_1381 rfl (lv_at hl 0 rfl) ?_
  refine lv_iload C.x C.b dL_law_1382 (lv_at hl 4 rfl) ?_
  refine lv_iconst (v := (2 : Int32)) C.x C.b dL_law_1384 (by decide) ?_
  refine lv_iadd C.x C.b dL_law_1385 ?_
  refine va_sld C.x C.b SX.1 SX.2 (Nat.not_le.mpr SX.2) E.2.2.1 h2 dL_law_1386 ?_
  refine lv_i2l C.x C.b dL_law_1387 rfl ?_
  refine lv_ldc2 (v := (4294967295 : Int64)) C.x C.b C.1.2.2.2.1 (C.1.2.2.2.2 _ tw1362) dL_law_1388 ?_
  refine lv_land C.x C.b dL_law_1391 ?_
  refine lv_lor C.x C.b dL_law_1392 ?_
  refine l_calli E (l_run (As := [.long ((((xs (x4 + (1 : Int32)).toNatClampNeg)).toInt64 <<< (((32 : Int32)).toInt64 &&& 63)) ||| (((xs (x4 + (2 : Int32)).toNatClampNeg)).toInt64 &&& (4294967295 : Int64)))]) (rest := [.int r]) C E 9 0 (c_X9_sure l D cy (l_A s b) ad L σ1 (hI9 L ad σ hI).2 ((((xs (x4 + (1 : Int32)).toNatClampNeg)).toInt64 <<< (((32 : Int32)).toInt64 &&& 63)) ||| (((xs (x4 + (2 : Int32)).toNatClampNeg)).toInt64 &&& (4294967295 : Int64))) r σ2 e2) ⟨tw1309, tw60, tw1306, ⟨tw1307, tw1308⟩, hd_X9_sure⟩ (by decide) (hI9 L ad σ hI).2 rfl ⟨rfl, by decide⟩ hl.1 rfl (Nat.le_of_ble_eq_true rfl) dL_law_1393 ⟨by show _ ≤ 601024; omega, by show _ ≤ 7293034; omega⟩) (fun H locs E => ?_)
  refine lv_icmp_eq (tgt := 1902) C.x C.b dL_law_1396 (by decide) (fun _ => ?_) (fun cb => absurd rfl cb)
  refine W.widen (k := cl + 2) (n := sl + 700) (by omega) (by omega) ?_
  exact kk L ad σ2 f _ _ ls hI2 E hl
set_option maxHeartbeats 4000000 in
set_option maxRecDepth 100000 in
theorem lc_drawn {p : Program} {l : Launch} {e : Env} {s : State} {m : MethodId} {below : List Frame} {meth : Method} {c : Code} {Q : State → Prop} {D : va_G} {cy : Nat → ClassId} {cJ : ClassId} {b bs Ls : Nat} {xs : Nat → Int32} (C : l_C D cy cJ p m c s #[Value.ref bs]) (SX : l_S bs Ls xs s) (hst : l.stackTraces = false) (hX : g_X (l_A s b) s) (I : gL → gA → gS → Prop) (hI9 : ∀ L ad σ, I L ad σ → (8, 0) ∈ L ∧ (9, 0) ∈ L) (hP9 : ∀ L ad σ, I L ad σ → ∀ K i, (K, i) ∈ L → K < 10 ∨ g_ty K < 9) (hsim : sim_drawn I) {cl sl : Nat} (hcl : cl + 2 ≤ 601024) (hsl : sl + 700 ≤ 7293034) {x4 : Int32} (h1 : g_ix (x4 + (1 : Int32)) Ls) (h2 : g_ix (x4 + (2 : Int32)) Ls) (h3 : g_ix (x4 + (3 : Int32)) Ls) (h4 : g_ix (x4 + (4 : Int32)) Ls) (h5 : g_ix (x4 + (5 : Int32)) Ls) (h6 : g_ix (x4 + (6 : Int32)) Ls)
    (kk : ∀ (L : gL) (ad : gA) (σ : gS) (f : Nat → Int64) (H : Heap) (locs : List Loc) (ls : Array Slot), I L ad σ → l_E D cy cJ b f ad L σ s H locs → lv_has ls 8 [(0, .ref bs), (1, .ref (ad 8 0)), (2, .ref (ad 9 0)), (3, .ref b), (4, .int x4)] → W p l e room_1 s m #[Value.ref bs] below meth c H locs (cl + 2) (sl + 700) Q (F0 m 1902 ls []))
    (L : gL) (ad : gA) (σ : gS) (f : Nat → Int64) (H : Heap) (locs : List Loc) (ls : Array Slot) (hI : I L ad σ) (E : l_E D cy cJ b f ad L σ s H locs) (hl : lv_has ls 8 [(0, .ref bs), (1, .ref (ad 8 0)), (2, .ref (ad 9 0)), (3, .ref b), (4, .int x4)]) : W p l e room_1 s m #[Value.ref bs] below meth c H locs cl sl Q (F0 m 1401 ls []) := by
  refine lv_aload_n C.x C.b dL_law_1401 rfl (lv_at hl 1 rfl) ?_
  refine lv_aload_n C.x C.b dL_law_1402 rfl (lv_at hl 0 rfl) ?_
  refine lv_iload C.x C.b dL_law_1403 (lv_at hl 4 rfl) ?_
  refine lv_iconst (v := (1 : Int32)) C.x C.b dL_law_1405 (by decide) ?_
  refine lv_iadd C.x C.b dL_law_1406 ?_
  refine va_sld C.x C.b SX.1 SX.2 (Nat.not_le.mpr SX.2) E.2.2.1 h1 dL_law_1407 ?_
  refine lv_aload_n C.x C.b dL_law_1408 rfl (lv_at hl 0 rfl) ?_
  refine lv_iload C.x C.b dL_law_1409 (lv_at hl 4 rfl) ?_
  refine lv_iconst (v := (2 : Int32)) C.x C.b dL_law_1411 (by decide) ?_
  refine lv_iadd C.x C.b dL_law_1412 ?_
  refine va_sld C.x C.b SX.1 SX.2 (Nat.not_le.mpr SX.2) E.2.2.1 h2 dL_law_1413 ?_
  refine lv_i2l C.x C.b dL_law_1414 rfl ?_
  refine lv_bipush (v := (32 : Int32)) C.x C.b dL_law_1415 (by decide) ?_
  refine lv_lshl C.x C.b dL_law_1417 rfl ?_
  refine lv_aload_n C.x C.b dL_law_1418 rfl (lv_at hl 0 rfl) ?_
  refine lv_iload C.x C.b dL_law_1419 (lv_at hl 4 rfl) ?_
  refine lv_iconst (v := (3 : Int32)) C.x C.b dL_law_1421 (by decide) ?_
  refine lv_iadd C.x C.b dL_law_1422 ?_
  refine va_sld C.x C.b SX.1 SX.2 (Nat.not_le.mpr SX.2) E.2.2.1 h3 dL_law_1423 ?_
  refine lv_i2l C.x C.b dL_law_1424 rfl ?_
  refine lv_ldc2 (v := (4294967295 : Int64)) C.x C.b C.1.2.2.2.1 (C.1.2.2.2.2 _ tw1362) dL_law_1425 ?_
  refine lv_land C.x C.b dL_law_1428 ?_
  refine lv_lor C.x C.b dL_law_1429 ?_
  refine lv_aload_n C.x C.b dL_law_1430 rfl (lv_at hl 0 rfl) ?_
  refine lv_iload C.x C.b dL_law_1431 (lv_at hl 4 rfl) ?_
  refine lv_iconst (v := (4 : Int32)) C.x C.b dL_law_1433 (by decide) ?_
  refine lv_iadd C.x C.b dL_law_1434 ?_
  refine va_sld C.x C.b SX.1 SX.2 (Nat.not_le.mpr SX.2) E.2.2.1 h4 dL_law_1435 ?_
  obtain ⟨r, σ1, σ2, e1, e2, hI2⟩ := hsim L ad σ hI (xs (x4 + (1 : Int32)).toNatClampNeg) ((((xs (x4 + (2 : Int32)).toNatClampNeg)).toInt64 <<< (((32 : Int32)).toInt64 &&& 63)) ||| (((xs (x4 + (3 : Int32)).toNatClampNeg)).toInt64 &&& (4294967295 : Int64))) (xs (x4 + (4 : Int32)).toNatClampNeg) 
  refine l_calli E (l_run (As := [.int (xs (x4 + (1 : Int32)).toNatClampNeg), .long ((((xs (x4 + (2 : Int32)).toNatClampNeg)).toInt64 <<< (((32 : Int32)).toInt64 &&& 63)) ||| (((xs (x4 + (3 : Int32)).toNatClampNeg)).toInt64 &&& (4294967295 : Int64))), .int (xs (x4 + (4 : Int32)).toNatClampNeg)]) (rest := []) C E 8 0 (c_X8_drawn l D cy (l_A s b) ad L σ (hI9 L ad σ hI).1 (xs (x4 + (1 : Int32)).toNatClampNeg) ((((xs (x4 + (2 : Int32)).toNatClampNeg)).toInt64 <<< (((32 : Int32)).toInt64 &&& 63)) ||| (((xs (x4 + (3 : Int32)).toNatClampNeg)).toInt64 &&& (4294967295 : Int64))) (xs (x4 + (4 : Int32)).toNatClampNeg) r σ1 e1) ⟨tw746, tw54, tw743, ⟨tw744, tw745⟩, hd_X8_drawn⟩ (by decide) (hI9 L ad σ hI).1 rfl ⟨rfl, by decide⟩ hl.1 rfl (Nat.le_of_ble_eq_true rfl) dL_law_1436 ⟨by show _ ≤ 601024; omega, by show _ ≤ 7293034; omega⟩) (fun H locs E => ?_)
  refine lv_aload_n C.x C.b dL_law_1439 rfl (lv_at hl 2 rfl) ?_
  refine lv_aload_n C.x C.b dL_law_1440 rfl (lv_at hl 0 rfl) ?_
  refine lv_iload C.x C.b dL_law_1441 (lv_at hl 4 rfl) ?_
  refine lv_iconst (v := (1 : Int32)) C.x C.b dL_law_1443 (by decide) ?_
  refine lv_iadd C.x C.b dL_law_1444 ?_
  refine va_sld C.x C.b SX.1 SX.2 (Nat.not_le.mpr SX.2) E.2.2.1 h1 dL_law_1445 ?_
  refine lv_aload_n C.x C.b dL_law_1446 rfl (lv_at hl 0 rfl) ?_
  refine lv_iload C.x C.b dL_law_1447 (lv_at hl 4 rfl) ?_
  refine lv_iconst (v := (2 : Int32)) C.x C.b dL_law_1449 (by decide) ?_
  refine lv_iadd C.x C.b dL_law_1450 ?_
  refine va_sld C.x C.b SX.1 SX.2 (Nat.not_le.mpr SX.2) E.2.2.1 h2 dL_law_1451 ?_
  refine lv_i2l C.x C.b dL_law_1452 rfl ?_
  refine lv_bipush (v := (32 : Int32)) C.x C.b dL_law_1453 (by decide) ?_
  refine lv_lshl C.x C.b dL_law_1455 rfl ?_
  refine lv_aload_n C.x C.b dL_law_1456 rfl (lv_at hl 0 rfl) ?_
  refine lv_iload C.x C.b dL_law_1457 (lv_at hl 4 rfl) ?_
  refine lv_iconst (v := (3 : Int32)) C.x C.b dL_law_1459 (by decide) ?_
  refine lv_iadd C.x C.b dL_law_1460 ?_
  refine va_sld C.x C.b SX.1 SX.2 (Nat.not_le.mpr SX.2) E.2.2.1 h3 dL_law_1461 ?_
  refine lv_i2l C.x C.b dL_law_1462 rfl ?_
  refine lv_ldc2 (v := (4294967295 : Int64)) C.x C.b C.1.2.2.2.1 (C.1.2.2.2.2 _ tw1362) dL_law_1463 ?_
  refine lv_land C.x C.b dL_law_1466 ?_
  refine lv_lor C.x C.b dL_law_1467 ?_
  refine lv_aload_n C.x C.b dL_law_1468 rfl (lv_at hl 0 rfl) ?_
  refine lv_iload C.x C.b dL_law_1469 (lv_at hl 4 rfl) ?_
  refine lv_iconst (v := (4 : Int32)) C.x C.b dL_law_1471 (by decide) ?_
  refine lv_iadd C.x C.b dL_law_1472 ?_
  refine va_sld C.x C.b SX.1 SX.2 (Nat.not_le.mpr SX.2) E.2.2.1 h4 dL_law_1473 ?_
  refine l_calli E (l_run (As := [.int (xs (x4 + (1 : Int32)).toNatClampNeg), .long ((((xs (x4 + (2 : Int32)).toNatClampNeg)).toInt64 <<< (((32 : Int32)).toInt64 &&& 63)) ||| (((xs (x4 + (3 : Int32)).toNatClampNeg)).toInt64 &&& (4294967295 : Int64))), .int (xs (x4 + (4 : Int32)).toNatClampNeg)]) (rest := [.int r]) C E 9 0 (c_X9_drawn l D cy (l_A s b) ad L σ1 (hI9 L ad σ hI).2 (xs (x4 + (1 : Int32)).toNatClampNeg) ((((xs (x4 + (2 : Int32)).toNatClampNeg)).toInt64 <<< (((32 : Int32)).toInt64 &&& 63)) ||| (((xs (x4 + (3 : Int32)).toNatClampNeg)).toInt64 &&& (4294967295 : Int64))) (xs (x4 + (4 : Int32)).toNatClampNeg) r σ2 e2) ⟨tw1317, tw60, tw1314, ⟨tw1315, tw1316⟩, hd_X9_drawn⟩ (by decide) (hI9 L ad σ hI).2 rfl ⟨rfl, by decide⟩ hl.1 rfl (Nat.le_of_ble_eq_true rfl) dL_law_1474 ⟨by show _ ≤ 601024; omega, by show _ ≤ 7293034; omega⟩) (fun H locs E => ?_)
  refine lv_icmp_eq (tgt := 1902) C.x C.b dL_law_1477 (by decide) (fun _ => ?_) (fun cb => absurd rfl cb)
  refine W.widen (k := cl + 2) (n := sl + 700) (by omega) (by omega) ?_
  exact kk L ad σ2 f _ _ ls hI2 E hl
set_option maxHeartbeats 4000000 in
set_option maxRecDepth 100000 in
theorem lc_province {p : Program} {l : Launch} {e : Env} {s : State} {m : MethodId} {below : List Frame} {meth : Method} {c : Code} {Q : State → Prop} {D : va_G} {cy : Nat → ClassId} {cJ : ClassId} {b bs Ls : Nat} {xs : Nat → Int32} (C : l_C D cy cJ p m c s #[Value.ref bs]) (SX : l_S bs Ls xs s) (hst : l.stackTraces = false) (hX : g_X (l_A s b) s) (I : gL → gA → gS → Prop) (hI9 : ∀ L ad σ, I L ad σ → (8, 0) ∈ L ∧ (9, 0) ∈ L) (hP9 : ∀ L ad σ, I L ad σ → ∀ K i, (K, i) ∈ L → K < 10 ∨ g_ty K < 9) (hsim : sim_province I) {cl sl : Nat} (hcl : cl + 2 ≤ 601024) (hsl : sl + 700 ≤ 7293034) {x4 : Int32} (h1 : g_ix (x4 + (1 : Int32)) Ls) (h2 : g_ix (x4 + (2 : Int32)) Ls) (h3 : g_ix (x4 + (3 : Int32)) Ls) (h4 : g_ix (x4 + (4 : Int32)) Ls) (h5 : g_ix (x4 + (5 : Int32)) Ls) (h6 : g_ix (x4 + (6 : Int32)) Ls)
    (kk : ∀ (L : gL) (ad : gA) (σ : gS) (f : Nat → Int64) (H : Heap) (locs : List Loc) (ls : Array Slot), I L ad σ → l_E D cy cJ b f ad L σ s H locs → lv_has ls 8 [(0, .ref bs), (1, .ref (ad 8 0)), (2, .ref (ad 9 0)), (3, .ref b), (4, .int x4)] → W p l e room_1 s m #[Value.ref bs] below meth c H locs (cl + 2) (sl + 700) Q (F0 m 1902 ls []))
    (L : gL) (ad : gA) (σ : gS) (f : Nat → Int64) (H : Heap) (locs : List Loc) (ls : Array Slot) (hI : I L ad σ) (E : l_E D cy cJ b f ad L σ s H locs) (hl : lv_has ls 8 [(0, .ref bs), (1, .ref (ad 8 0)), (2, .ref (ad 9 0)), (3, .ref b), (4, .int x4)]) : W p l e room_1 s m #[Value.ref bs] below meth c H locs cl sl Q (F0 m 1482 ls []) := by
  refine lv_aload_n C.x C.b dL_law_1482 rfl (lv_at hl 1 rfl) ?_
  refine lv_aload_n C.x C.b dL_law_1483 rfl (lv_at hl 0 rfl) ?_
  refine lv_iload C.x C.b dL_law_1484 (lv_at hl 4 rfl) ?_
  refine lv_iconst (v := (1 : Int32)) C.x C.b dL_law_1486 (by decide) ?_
  refine lv_iadd C.x C.b dL_law_1487 ?_
  refine va_sld C.x C.b SX.1 SX.2 (Nat.not_le.mpr SX.2) E.2.2.1 h1 dL_law_1488 ?_
  refine lv_aload_n C.x C.b dL_law_1489 rfl (lv_at hl 0 rfl) ?_
  refine lv_iload C.x C.b dL_law_1490 (lv_at hl 4 rfl) ?_
  refine lv_iconst (v := (2 : Int32)) C.x C.b dL_law_1492 (by decide) ?_
  refine lv_iadd C.x C.b dL_law_1493 ?_
  refine va_sld C.x C.b SX.1 SX.2 (Nat.not_le.mpr SX.2) E.2.2.1 h2 dL_law_1494 ?_
  refine lv_aload_n C.x C.b dL_law_1495 rfl (lv_at hl 0 rfl) ?_
  refine lv_iload C.x C.b dL_law_1496 (lv_at hl 4 rfl) ?_
  refine lv_iconst (v := (3 : Int32)) C.x C.b dL_law_1498 (by decide) ?_
  refine lv_iadd C.x C.b dL_law_1499 ?_
  refine va_sld C.x C.b SX.1 SX.2 (Nat.not_le.mpr SX.2) E.2.2.1 h3 dL_law_1500 ?_
  refine lv_aload_n C.x C.b dL_law_1501 rfl (lv_at hl 0 rfl) ?_
  refine lv_iload C.x C.b dL_law_1502 (lv_at hl 4 rfl) ?_
  refine lv_iconst (v := (4 : Int32)) C.x C.b dL_law_1504 (by decide) ?_
  refine lv_iadd C.x C.b dL_law_1505 ?_
  refine va_sld C.x C.b SX.1 SX.2 (Nat.not_le.mpr SX.2) E.2.2.1 h4 dL_law_1506 ?_
  refine lv_aload_n C.x C.b dL_law_1507 rfl (lv_at hl 0 rfl) ?_
  refine lv_iload C.x C.b dL_law_1508 (lv_at hl 4 rfl) ?_
  refine lv_iconst (v := (5 : Int32)) C.x C.b dL_law_1510 (by decide) ?_
  refine lv_iadd C.x C.b dL_law_1511 ?_
  refine va_sld C.x C.b SX.1 SX.2 (Nat.not_le.mpr SX.2) E.2.2.1 h5 dL_law_1512 ?_
  refine lv_i2l C.x C.b dL_law_1513 rfl ?_
  refine lv_bipush (v := (32 : Int32)) C.x C.b dL_law_1514 (by decide) ?_
  refine lv_lshl C.x C.b dL_law_1516 rfl ?_
  refine lv_aload_n C.x C.b dL_law_1517 rfl (lv_at hl 0 rfl) ?_
  refine lv_iload C.x C.b dL_law_1518 (lv_at hl 4 rfl) ?_
  refine lv_bipush (v := (6 : Int32)) C.x C.b dL_law_1520 (by decide) ?_
  refine lv_iadd C.x C.b dL_law_1522 ?_
  refine va_sld C.x C.b SX.1 SX.2 (Nat.not_le.mpr SX.2) E.2.2.1 h6 dL_law_1523 ?_
  refine lv_i2l C.x C.b dL_law_1524 rfl ?_
  refine lv_ldc2 (v := (4294967295 : Int64)) C.x C.b C.1.2.2.2.1 (C.1.2.2.2.2 _ tw1362) dL_law_1525 ?_
  refine lv_land C.x C.b dL_law_1528 ?_
  refine lv_lor C.x C.b dL_law_1529 ?_
  obtain ⟨r, σ1, σ2, e1, e2, hI2⟩ := hsim L ad σ hI (xs (x4 + (1 : Int32)).toNatClampNeg) (xs (x4 + (2 : Int32)).toNatClampNeg) (xs (x4 + (3 : Int32)).toNatClampNeg) (xs (x4 + (4 : Int32)).toNatClampNeg) ((((xs (x4 + (5 : Int32)).toNatClampNeg)).toInt64 <<< (((32 : Int32)).toInt64 &&& 63)) ||| (((xs (x4 + (6 : Int32)).toNatClampNeg)).toInt64 &&& (4294967295 : Int64))) 
  refine l_calli E (l_run (As := [.int (xs (x4 + (1 : Int32)).toNatClampNeg), .int (xs (x4 + (2 : Int32)).toNatClampNeg), .int (xs (x4 + (3 : Int32)).toNatClampNeg), .int (xs (x4 + (4 : Int32)).toNatClampNeg), .long ((((xs (x4 + (5 : Int32)).toNatClampNeg)).toInt64 <<< (((32 : Int32)).toInt64 &&& 63)) ||| (((xs (x4 + (6 : Int32)).toNatClampNeg)).toInt64 &&& (4294967295 : Int64)))]) (rest := []) C E 8 0 (c_X8_province l D cy (l_A s b) ad L σ (hI9 L ad σ hI).1 (xs (x4 + (1 : Int32)).toNatClampNeg) (xs (x4 + (2 : Int32)).toNatClampNeg) (xs (x4 + (3 : Int32)).toNatClampNeg) (xs (x4 + (4 : Int32)).toNatClampNeg) ((((xs (x4 + (5 : Int32)).toNatClampNeg)).toInt64 <<< (((32 : Int32)).toInt64 &&& 63)) ||| (((xs (x4 + (6 : Int32)).toNatClampNeg)).toInt64 &&& (4294967295 : Int64))) r σ1 e1) ⟨tw751, tw54, tw748, ⟨tw749, tw750⟩, hd_X8_province⟩ (by decide) (hI9 L ad σ hI).1 rfl ⟨rfl, by decide⟩ hl.1 rfl (Nat.le_of_ble_eq_true rfl) dL_law_1530 ⟨by show _ ≤ 601024; omega, by show _ ≤ 7293034; omega⟩) (fun H locs E => ?_)
  refine lv_aload_n C.x C.b dL_law_1533 rfl (lv_at hl 2 rfl) ?_
  refine lv_aload_n C.x C.b dL_law_1534 rfl (lv_at hl 0 rfl) ?_
  refine lv_iload C.x C.b dL_law_1535 (lv_at hl 4 rfl) ?_
  refine lv_iconst (v := (1 : Int32)) C.x C.b dL_law_1537 (by decide) ?_
  refine lv_iadd C.x C.b dL_law_1538 ?_
  refine va_sld C.x C.b SX.1 SX.2 (Nat.not_le.mpr SX.2) E.2.2.1 h1 dL_law_1539 ?_
  refine lv_aload_n C.x C.b dL_law_1540 rfl (lv_at hl 0 rfl) ?_
  refine lv_iload C.x C.b dL_law_1541 (lv_at hl 4 rfl) ?_
  refine lv_iconst (v := (2 : Int32)) C.x C.b dL_law_1543 (by decide) ?_
  refine lv_iadd C.x C.b dL_law_1544 ?_
  refine va_sld C.x C.b SX.1 SX.2 (Nat.not_le.mpr SX.2) E.2.2.1 h2 dL_law_1545 ?_
  refine lv_aload_n C.x C.b dL_law_1546 rfl (lv_at hl 0 rfl) ?_
  refine lv_iload C.x C.b dL_law_1547 (lv_at hl 4 rfl) ?_
  refine lv_iconst (v := (3 : Int32)) C.x C.b dL_law_1549 (by decide) ?_
  refine lv_iadd C.x C.b dL_law_1550 ?_
  refine va_sld C.x C.b SX.1 SX.2 (Nat.not_le.mpr SX.2) E.2.2.1 h3 dL_law_1551 ?_
  refine lv_aload_n C.x C.b dL_law_1552 rfl (lv_at hl 0 rfl) ?_
  refine lv_iload C.x C.b dL_law_1553 (lv_at hl 4 rfl) ?_
  refine lv_iconst (v := (4 : Int32)) C.x C.b dL_law_1555 (by decide) ?_
  refine lv_iadd C.x C.b dL_law_1556 ?_
  refine va_sld C.x C.b SX.1 SX.2 (Nat.not_le.mpr SX.2) E.2.2.1 h4 dL_law_1557 ?_
  refine lv_aload_n C.x C.b dL_law_1558 rfl (lv_at hl 0 rfl) ?_
  refine lv_iload C.x C.b dL_law_1559 (lv_at hl 4 rfl) ?_
  refine lv_iconst (v := (5 : Int32)) C.x C.b dL_law_1561 (by decide) ?_
  refine lv_iadd C.x C.b dL_law_1562 ?_
  refine va_sld C.x C.b SX.1 SX.2 (Nat.not_le.mpr SX.2) E.2.2.1 h5 dL_law_1563 ?_
  refine lv_i2l C.x C.b dL_law_1564 rfl ?_
  refine lv_bipush (v := (32 : Int32)) C.x C.b dL_law_1565 (by decide) ?_
  refine lv_lshl C.x C.b dL_law_1567 rfl ?_
  refine lv_aload_n C.x C.b dL_law_1568 rfl (lv_at hl 0 rfl) ?_
  refine lv_iload C.x C.b dL_law_1569 (lv_at hl 4 rfl) ?_
  refine lv_bipush (v := (6 : Int32)) C.x C.b dL_law_1571 (by decide) ?_
  refine lv_iadd C.x C.b dL_law_1573 ?_
  refine va_sld C.x C.b SX.1 SX.2 (Nat.not_le.mpr SX.2) E.2.2.1 h6 dL_law_1574 ?_
  refine lv_i2l C.x C.b dL_law_1575 rfl ?_
  refine lv_ldc2 (v := (4294967295 : Int64)) C.x C.b C.1.2.2.2.1 (C.1.2.2.2.2 _ tw1362) dL_law_1576 ?_
  refine lv_land C.x C.b dL_law_1579 ?_
  refine lv_lor C.x C.b dL_law_1580 ?_
  refine l_calli E (l_run (As := [.int (xs (x4 + (1 : Int32)).toNatClampNeg), .int (xs (x4 + (2 : Int32)).toNatClampNeg), .int (xs (x4 + (3 : Int32)).toNatClampNeg), .int (xs (x4 + (4 : Int32)).toNatClampNeg), .long ((((xs (x4 + (5 : Int32)).toNatClampNeg)).toInt64 <<< (((32 : Int32)).toInt64 &&& 63)) ||| (((xs (x4 + (6 : Int32)).toNatClampNeg)).toInt64 &&& (4294967295 : Int64)))]) (rest := [.int r]) C E 9 0 (c_X9_province l D cy (l_A s b) ad L σ1 (hI9 L ad σ hI).2 (xs (x4 + (1 : Int32)).toNatClampNeg) (xs (x4 + (2 : Int32)).toNatClampNeg) (xs (x4 + (3 : Int32)).toNatClampNeg) (xs (x4 + (4 : Int32)).toNatClampNeg) ((((xs (x4 + (5 : Int32)).toNatClampNeg)).toInt64 <<< (((32 : Int32)).toInt64 &&& 63)) ||| (((xs (x4 + (6 : Int32)).toNatClampNeg)).toInt64 &&& (4294967295 : Int64))) r σ2 e2) ⟨tw1321, tw60, tw1318, ⟨tw1319, tw1320⟩, hd_X9_province⟩ (by decide) (hI9 L ad σ hI).2 rfl ⟨rfl, by decide⟩ hl.1 rfl (Nat.le_of_ble_eq_true rfl) dL_law_1581 ⟨by show _ ≤ 601024; omega, by show _ ≤ 7293034; omega⟩) (fun H locs E => ?_)
  refine lv_icmp_eq (tgt := 1902) C.x C.b dL_law_1584 (by decide) (fun _ => ?_) (fun cb => absurd rfl cb)
  refine W.widen (k := cl + 2) (n := sl + 700) (by omega) (by omega) ?_
  exact kk L ad σ2 f _ _ ls hI2 E hl
set_option maxHeartbeats 4000000 in
set_option maxRecDepth 100000 in
theorem lc_count {p : Program} {l : Launch} {e : Env} {s : State} {m : MethodId} {below : List Frame} {meth : Method} {c : Code} {Q : State → Prop} {D : va_G} {cy : Nat → ClassId} {cJ : ClassId} {b bs Ls : Nat} {xs : Nat → Int32} (C : l_C D cy cJ p m c s #[Value.ref bs]) (SX : l_S bs Ls xs s) (hst : l.stackTraces = false) (hX : g_X (l_A s b) s) (I : gL → gA → gS → Prop) (hI9 : ∀ L ad σ, I L ad σ → (8, 0) ∈ L ∧ (9, 0) ∈ L) (hP9 : ∀ L ad σ, I L ad σ → ∀ K i, (K, i) ∈ L → K < 10 ∨ g_ty K < 9) (hsim : sim_count I) {cl sl : Nat} (hcl : cl + 2 ≤ 601024) (hsl : sl + 700 ≤ 7293034) {x4 : Int32} (h1 : g_ix (x4 + (1 : Int32)) Ls) (h2 : g_ix (x4 + (2 : Int32)) Ls) (h3 : g_ix (x4 + (3 : Int32)) Ls) (h4 : g_ix (x4 + (4 : Int32)) Ls) (h5 : g_ix (x4 + (5 : Int32)) Ls) (h6 : g_ix (x4 + (6 : Int32)) Ls)
    (kk : ∀ (L : gL) (ad : gA) (σ : gS) (f : Nat → Int64) (H : Heap) (locs : List Loc) (ls : Array Slot), I L ad σ → l_E D cy cJ b f ad L σ s H locs → lv_has ls 8 [(0, .ref bs), (1, .ref (ad 8 0)), (2, .ref (ad 9 0)), (3, .ref b), (4, .int x4)] → W p l e room_1 s m #[Value.ref bs] below meth c H locs (cl + 2) (sl + 700) Q (F0 m 1902 ls []))
    (L : gL) (ad : gA) (σ : gS) (f : Nat → Int64) (H : Heap) (locs : List Loc) (ls : Array Slot) (hI : I L ad σ) (E : l_E D cy cJ b f ad L σ s H locs) (hl : lv_has ls 8 [(0, .ref bs), (1, .ref (ad 8 0)), (2, .ref (ad 9 0)), (3, .ref b), (4, .int x4)]) : W p l e room_1 s m #[Value.ref bs] below meth c H locs cl sl Q (F0 m 1589 ls []) := by
  refine lv_aload_n C.x C.b dL_law_1589 rfl (lv_at hl 1 rfl) ?_
  refine lv_aload_n C.x C.b dL_law_1590 rfl (lv_at hl 0 rfl) ?_
  refine lv_iload C.x C.b dL_law_1591 (lv_at hl 4 rfl) ?_
  refine lv_iconst (v := (1 : Int32)) C.x C.b dL_law_1593 (by decide) ?_
  refine lv_iadd C.x C.b dL_law_1594 ?_
  refine va_sld C.x C.b SX.1 SX.2 (Nat.not_le.mpr SX.2) E.2.2.1 h1 dL_law_1595 ?_
  obtain ⟨r, e1, e2, hI2⟩ := hsim L ad σ hI (xs (x4 + (1 : Int32)).toNatClampNeg) 
  refine l_calli E (l_run (As := [.int (xs (x4 + (1 : Int32)).toNatClampNeg)]) (rest := []) C E 8 0 (c_X8_count l D cy (l_A s b) ad L σ (hI9 L ad σ hI).1 (xs (x4 + (1 : Int32)).toNatClampNeg) r e1) ⟨tw759, tw54, tw756, ⟨tw757, tw758⟩, hd_X8_count⟩ (by decide) (hI9 L ad σ hI).1 rfl ⟨rfl, by decide⟩ hl.1 rfl (Nat.le_of_ble_eq_true rfl) dL_law_1596 ⟨by show _ ≤ 601024; omega, by show _ ≤ 7293034; omega⟩) (fun H locs E => ?_)
  refine lv_aload_n C.x C.b dL_law_1599 rfl (lv_at hl 2 rfl) ?_
  refine lv_aload_n C.x C.b dL_law_1600 rfl (lv_at hl 0 rfl) ?_
  refine lv_iload C.x C.b dL_law_1601 (lv_at hl 4 rfl) ?_
  refine lv_iconst (v := (1 : Int32)) C.x C.b dL_law_1603 (by decide) ?_
  refine lv_iadd C.x C.b dL_law_1604 ?_
  refine va_sld C.x C.b SX.1 SX.2 (Nat.not_le.mpr SX.2) E.2.2.1 h1 dL_law_1605 ?_
  refine l_calli E (l_run (As := [.int (xs (x4 + (1 : Int32)).toNatClampNeg)]) (rest := [.int r]) C E 9 0 (c_X9_count l D cy (l_A s b) ad L σ (hI9 L ad σ hI).2 (xs (x4 + (1 : Int32)).toNatClampNeg) r e2) ⟨tw1325, tw60, tw1322, ⟨tw1323, tw1324⟩, hd_X9_count⟩ (by decide) (hI9 L ad σ hI).2 rfl ⟨rfl, by decide⟩ hl.1 rfl (Nat.le_of_ble_eq_true rfl) dL_law_1606 ⟨by show _ ≤ 601024; omega, by show _ ≤ 7293034; omega⟩) (fun H locs E => ?_)
  refine lv_icmp_eq (tgt := 1902) C.x C.b dL_law_1609 (by decide) (fun _ => ?_) (fun cb => absurd rfl cb)
  refine W.widen (k := cl + 2) (n := sl + 700) (by omega) (by omega) ?_
  exact kk L ad σ f _ _ ls hI2 E hl
set_option maxHeartbeats 4000000 in
set_option maxRecDepth 100000 in
theorem lc_keep {p : Program} {l : Launch} {e : Env} {s : State} {m : MethodId} {below : List Frame} {meth : Method} {c : Code} {Q : State → Prop} {D : va_G} {cy : Nat → ClassId} {cJ : ClassId} {b bs Ls : Nat} {xs : Nat → Int32} (C : l_C D cy cJ p m c s #[Value.ref bs]) (SX : l_S bs Ls xs s) (hst : l.stackTraces = false) (hX : g_X (l_A s b) s) (I : gL → gA → gS → Prop) (hI9 : ∀ L ad σ, I L ad σ → (8, 0) ∈ L ∧ (9, 0) ∈ L) (hP9 : ∀ L ad σ, I L ad σ → ∀ K i, (K, i) ∈ L → K < 10 ∨ g_ty K < 9) (hsim : sim_keep I) {cl sl : Nat} (hcl : cl + 2 ≤ 601024) (hsl : sl + 700 ≤ 7293034) {x4 : Int32} (h1 : g_ix (x4 + (1 : Int32)) Ls) (h2 : g_ix (x4 + (2 : Int32)) Ls) (h3 : g_ix (x4 + (3 : Int32)) Ls) (h4 : g_ix (x4 + (4 : Int32)) Ls) (h5 : g_ix (x4 + (5 : Int32)) Ls) (h6 : g_ix (x4 + (6 : Int32)) Ls)
    (kk : ∀ (L : gL) (ad : gA) (σ : gS) (f : Nat → Int64) (H : Heap) (locs : List Loc) (ls : Array Slot), I L ad σ → l_E D cy cJ b f ad L σ s H locs → lv_has ls 8 [(0, .ref bs), (1, .ref (ad 8 0)), (2, .ref (ad 9 0)), (3, .ref b), (4, .int x4)] → W p l e room_1 s m #[Value.ref bs] below meth c H locs (cl + 2) (sl + 700) Q (F0 m 1902 ls []))
    (L : gL) (ad : gA) (σ : gS) (f : Nat → Int64) (H : Heap) (locs : List Loc) (ls : Array Slot) (hI : I L ad σ) (E : l_E D cy cJ b f ad L σ s H locs) (hl : lv_has ls 8 [(0, .ref bs), (1, .ref (ad 8 0)), (2, .ref (ad 9 0)), (3, .ref b), (4, .int x4)]) : W p l e room_1 s m #[Value.ref bs] below meth c H locs cl sl Q (F0 m 1614 ls []) := by
  refine lv_aload_n C.x C.b dL_law_1614 rfl (lv_at hl 1 rfl) ?_
  refine lv_aload_n C.x C.b dL_law_1615 rfl (lv_at hl 0 rfl) ?_
  refine lv_iload C.x C.b dL_law_1616 (lv_at hl 4 rfl) ?_
  refine lv_iconst (v := (1 : Int32)) C.x C.b dL_law_1618 (by decide) ?_
  refine lv_iadd C.x C.b dL_law_1619 ?_
  refine va_sld C.x C.b SX.1 SX.2 (Nat.not_le.mpr SX.2) E.2.2.1 h1 dL_law_1620 ?_
  refine lv_aload_n C.x C.b dL_law_1621 rfl (lv_at hl 0 rfl) ?_
  refine lv_iload C.x C.b dL_law_1622 (lv_at hl 4 rfl) ?_
  refine lv_iconst (v := (2 : Int32)) C.x C.b dL_law_1624 (by decide) ?_
  refine lv_iadd C.x C.b dL_law_1625 ?_
  refine va_sld C.x C.b SX.1 SX.2 (Nat.not_le.mpr SX.2) E.2.2.1 h2 dL_law_1626 ?_
  refine lv_aload_n C.x C.b dL_law_1627 rfl (lv_at hl 0 rfl) ?_
  refine lv_iload C.x C.b dL_law_1628 (lv_at hl 4 rfl) ?_
  refine lv_iconst (v := (3 : Int32)) C.x C.b dL_law_1630 (by decide) ?_
  refine lv_iadd C.x C.b dL_law_1631 ?_
  refine va_sld C.x C.b SX.1 SX.2 (Nat.not_le.mpr SX.2) E.2.2.1 h3 dL_law_1632 ?_
  obtain ⟨r, σ1, σ2, e1, e2, hI2⟩ := hsim L ad σ hI (xs (x4 + (1 : Int32)).toNatClampNeg) (xs (x4 + (2 : Int32)).toNatClampNeg) (xs (x4 + (3 : Int32)).toNatClampNeg) 
  refine l_calli E (l_run (As := [.int (xs (x4 + (1 : Int32)).toNatClampNeg), .int (xs (x4 + (2 : Int32)).toNatClampNeg), .int (xs (x4 + (3 : Int32)).toNatClampNeg)]) (rest := []) C E 8 0 (c_X8_keep l D cy (l_A s b) ad L σ (hI9 L ad σ hI).1 (xs (x4 + (1 : Int32)).toNatClampNeg) (xs (x4 + (2 : Int32)).toNatClampNeg) (xs (x4 + (3 : Int32)).toNatClampNeg) r σ1 e1) ⟨tw763, tw54, tw760, ⟨tw761, tw762⟩, hd_X8_keep⟩ (by decide) (hI9 L ad σ hI).1 rfl ⟨rfl, by decide⟩ hl.1 rfl (Nat.le_of_ble_eq_true rfl) dL_law_1633 ⟨by show _ ≤ 601024; omega, by show _ ≤ 7293034; omega⟩) (fun H locs E => ?_)
  refine lv_aload_n C.x C.b dL_law_1636 rfl (lv_at hl 2 rfl) ?_
  refine lv_aload_n C.x C.b dL_law_1637 rfl (lv_at hl 0 rfl) ?_
  refine lv_iload C.x C.b dL_law_1638 (lv_at hl 4 rfl) ?_
  refine lv_iconst (v := (1 : Int32)) C.x C.b dL_law_1640 (by decide) ?_
  refine lv_iadd C.x C.b dL_law_1641 ?_
  refine va_sld C.x C.b SX.1 SX.2 (Nat.not_le.mpr SX.2) E.2.2.1 h1 dL_law_1642 ?_
  refine lv_aload_n C.x C.b dL_law_1643 rfl (lv_at hl 0 rfl) ?_
  refine lv_iload C.x C.b dL_law_1644 (lv_at hl 4 rfl) ?_
  refine lv_iconst (v := (2 : Int32)) C.x C.b dL_law_1646 (by decide) ?_
  refine lv_iadd C.x C.b dL_law_1647 ?_
  refine va_sld C.x C.b SX.1 SX.2 (Nat.not_le.mpr SX.2) E.2.2.1 h2 dL_law_1648 ?_
  refine lv_aload_n C.x C.b dL_law_1649 rfl (lv_at hl 0 rfl) ?_
  refine lv_iload C.x C.b dL_law_1650 (lv_at hl 4 rfl) ?_
  refine lv_iconst (v := (3 : Int32)) C.x C.b dL_law_1652 (by decide) ?_
  refine lv_iadd C.x C.b dL_law_1653 ?_
  refine va_sld C.x C.b SX.1 SX.2 (Nat.not_le.mpr SX.2) E.2.2.1 h3 dL_law_1654 ?_
  refine l_calli E (l_run (As := [.int (xs (x4 + (1 : Int32)).toNatClampNeg), .int (xs (x4 + (2 : Int32)).toNatClampNeg), .int (xs (x4 + (3 : Int32)).toNatClampNeg)]) (rest := [.int r]) C E 9 0 (c_X9_keep l D cy (l_A s b) ad L σ1 (hI9 L ad σ hI).2 (xs (x4 + (1 : Int32)).toNatClampNeg) (xs (x4 + (2 : Int32)).toNatClampNeg) (xs (x4 + (3 : Int32)).toNatClampNeg) r σ2 e2) ⟨tw1329, tw60, tw1326, ⟨tw1327, tw1328⟩, hd_X9_keep⟩ (by decide) (hI9 L ad σ hI).2 rfl ⟨rfl, by decide⟩ hl.1 rfl (Nat.le_of_ble_eq_true rfl) dL_law_1655 ⟨by show _ ≤ 601024; omega, by show _ ≤ 7293034; omega⟩) (fun H locs E => ?_)
  refine lv_icmp_eq (tgt := 1902) C.x C.b dL_law_1658 (by decide) (fun _ => ?_) (fun cb => absurd rfl cb)
  refine W.widen (k := cl + 2) (n := sl + 700) (by omega) (by omega) ?_
  exact kk L ad σ2 f _ _ ls hI2 E hl
set_option maxHeartbeats 4000000 in
set_option maxRecDepth 100000 in
theorem lc_make {p : Program} {l : Launch} {e : Env} {s : State} {m : MethodId} {below : List Frame} {meth : Method} {c : Code} {Q : State → Prop} {D : va_G} {cy : Nat → ClassId} {cJ : ClassId} {b bs Ls : Nat} {xs : Nat → Int32} (C : l_C D cy cJ p m c s #[Value.ref bs]) (SX : l_S bs Ls xs s) (hst : l.stackTraces = false) (hX : g_X (l_A s b) s) (I : gL → gA → gS → Prop) (hI9 : ∀ L ad σ, I L ad σ → (8, 0) ∈ L ∧ (9, 0) ∈ L) (hP9 : ∀ L ad σ, I L ad σ → ∀ K i, (K, i) ∈ L → K < 10 ∨ g_ty K < 9) (hsim : sim_make I) {cl sl : Nat} (hcl : cl + 2 ≤ 601024) (hsl : sl + 700 ≤ 7293034) {x4 : Int32} (h1 : g_ix (x4 + (1 : Int32)) Ls) (h2 : g_ix (x4 + (2 : Int32)) Ls) (h3 : g_ix (x4 + (3 : Int32)) Ls) (h4 : g_ix (x4 + (4 : Int32)) Ls) (h5 : g_ix (x4 + (5 : Int32)) Ls) (h6 : g_ix (x4 + (6 : Int32)) Ls)
    (kk : ∀ (L : gL) (ad : gA) (σ : gS) (f : Nat → Int64) (H : Heap) (locs : List Loc) (ls : Array Slot), I L ad σ → l_E D cy cJ b f ad L σ s H locs → lv_has ls 8 [(0, .ref bs), (1, .ref (ad 8 0)), (2, .ref (ad 9 0)), (3, .ref b), (4, .int x4)] → W p l e room_1 s m #[Value.ref bs] below meth c H locs (cl + 2) (sl + 700) Q (F0 m 1902 ls []))
    (L : gL) (ad : gA) (σ : gS) (f : Nat → Int64) (H : Heap) (locs : List Loc) (ls : Array Slot) (hI : I L ad σ) (E : l_E D cy cJ b f ad L σ s H locs) (hl : lv_has ls 8 [(0, .ref bs), (1, .ref (ad 8 0)), (2, .ref (ad 9 0)), (3, .ref b), (4, .int x4)]) : W p l e room_1 s m #[Value.ref bs] below meth c H locs cl sl Q (F0 m 1663 ls []) := by
  refine lv_aload_n C.x C.b dL_law_1663 rfl (lv_at hl 1 rfl) ?_
  refine lv_aload_n C.x C.b dL_law_1664 rfl (lv_at hl 0 rfl) ?_
  refine lv_iload C.x C.b dL_law_1665 (lv_at hl 4 rfl) ?_
  refine lv_iconst (v := (1 : Int32)) C.x C.b dL_law_1667 (by decide) ?_
  refine lv_iadd C.x C.b dL_law_1668 ?_
  refine va_sld C.x C.b SX.1 SX.2 (Nat.not_le.mpr SX.2) E.2.2.1 h1 dL_law_1669 ?_
  refine lv_aload_n C.x C.b dL_law_1670 rfl (lv_at hl 0 rfl) ?_
  refine lv_iload C.x C.b dL_law_1671 (lv_at hl 4 rfl) ?_
  refine lv_iconst (v := (2 : Int32)) C.x C.b dL_law_1673 (by decide) ?_
  refine lv_iadd C.x C.b dL_law_1674 ?_
  refine va_sld C.x C.b SX.1 SX.2 (Nat.not_le.mpr SX.2) E.2.2.1 h2 dL_law_1675 ?_
  refine lv_aload_n C.x C.b dL_law_1676 rfl (lv_at hl 0 rfl) ?_
  refine lv_iload C.x C.b dL_law_1677 (lv_at hl 4 rfl) ?_
  refine lv_iconst (v := (3 : Int32)) C.x C.b dL_law_1679 (by decide) ?_
  refine lv_iadd C.x C.b dL_law_1680 ?_
  refine va_sld C.x C.b SX.1 SX.2 (Nat.not_le.mpr SX.2) E.2.2.1 h3 dL_law_1681 ?_
  obtain ⟨r, σ1, σ2, e1, e2, hI2⟩ := hsim L ad σ hI (xs (x4 + (1 : Int32)).toNatClampNeg) (xs (x4 + (2 : Int32)).toNatClampNeg) (xs (x4 + (3 : Int32)).toNatClampNeg) 
  refine l_calli E (l_run (As := [.int (xs (x4 + (1 : Int32)).toNatClampNeg), .int (xs (x4 + (2 : Int32)).toNatClampNeg), .int (xs (x4 + (3 : Int32)).toNatClampNeg)]) (rest := []) C E 8 0 (c_X8_make l D cy (l_A s b) ad L σ (hI9 L ad σ hI).1 (xs (x4 + (1 : Int32)).toNatClampNeg) (xs (x4 + (2 : Int32)).toNatClampNeg) (xs (x4 + (3 : Int32)).toNatClampNeg) r σ1 e1) ⟨tw791, tw54, tw788, ⟨tw789, tw790⟩, hd_X8_make⟩ (by decide) (hI9 L ad σ hI).1 rfl ⟨rfl, by decide⟩ hl.1 rfl (Nat.le_of_ble_eq_true rfl) dL_law_1682 ⟨by show _ ≤ 601024; omega, by show _ ≤ 7293034; omega⟩) (fun H locs E => ?_)
  refine lv_aload_n C.x C.b dL_law_1685 rfl (lv_at hl 2 rfl) ?_
  refine lv_aload_n C.x C.b dL_law_1686 rfl (lv_at hl 0 rfl) ?_
  refine lv_iload C.x C.b dL_law_1687 (lv_at hl 4 rfl) ?_
  refine lv_iconst (v := (1 : Int32)) C.x C.b dL_law_1689 (by decide) ?_
  refine lv_iadd C.x C.b dL_law_1690 ?_
  refine va_sld C.x C.b SX.1 SX.2 (Nat.not_le.mpr SX.2) E.2.2.1 h1 dL_law_1691 ?_
  refine lv_aload_n C.x C.b dL_law_1692 rfl (lv_at hl 0 rfl) ?_
  refine lv_iload C.x C.b dL_law_1693 (lv_at hl 4 rfl) ?_
  refine lv_iconst (v := (2 : Int32)) C.x C.b dL_law_1695 (by decide) ?_
  refine lv_iadd C.x C.b dL_law_1696 ?_
  refine va_sld C.x C.b SX.1 SX.2 (Nat.not_le.mpr SX.2) E.2.2.1 h2 dL_law_1697 ?_
  refine lv_aload_n C.x C.b dL_law_1698 rfl (lv_at hl 0 rfl) ?_
  refine lv_iload C.x C.b dL_law_1699 (lv_at hl 4 rfl) ?_
  refine lv_iconst (v := (3 : Int32)) C.x C.b dL_law_1701 (by decide) ?_
  refine lv_iadd C.x C.b dL_law_1702 ?_
  refine va_sld C.x C.b SX.1 SX.2 (Nat.not_le.mpr SX.2) E.2.2.1 h3 dL_law_1703 ?_
  refine l_calli E (l_run (As := [.int (xs (x4 + (1 : Int32)).toNatClampNeg), .int (xs (x4 + (2 : Int32)).toNatClampNeg), .int (xs (x4 + (3 : Int32)).toNatClampNeg)]) (rest := [.int r]) C E 9 0 (c_X9_make l D cy (l_A s b) ad L σ1 (hI9 L ad σ hI).2 (xs (x4 + (1 : Int32)).toNatClampNeg) (xs (x4 + (2 : Int32)).toNatClampNeg) (xs (x4 + (3 : Int32)).toNatClampNeg) r σ2 e2) ⟨tw1341, tw60, tw1338, ⟨tw1339, tw1340⟩, hd_X9_make⟩ (by decide) (hI9 L ad σ hI).2 rfl ⟨rfl, by decide⟩ hl.1 rfl (Nat.le_of_ble_eq_true rfl) dL_law_1704 ⟨by show _ ≤ 601024; omega, by show _ ≤ 7293034; omega⟩) (fun H locs E => ?_)
  refine lv_icmp_eq (tgt := 1902) C.x C.b dL_law_1707 (by decide) (fun _ => ?_) (fun cb => absurd rfl cb)
  refine W.widen (k := cl + 2) (n := sl + 700) (by omega) (by omega) ?_
  exact kk L ad σ2 f _ _ ls hI2 E hl
set_option maxHeartbeats 4000000 in
set_option maxRecDepth 100000 in
theorem lc_copy {p : Program} {l : Launch} {e : Env} {s : State} {m : MethodId} {below : List Frame} {meth : Method} {c : Code} {Q : State → Prop} {D : va_G} {cy : Nat → ClassId} {cJ : ClassId} {b bs Ls : Nat} {xs : Nat → Int32} (C : l_C D cy cJ p m c s #[Value.ref bs]) (SX : l_S bs Ls xs s) (hst : l.stackTraces = false) (hX : g_X (l_A s b) s) (I : gL → gA → gS → Prop) (hI9 : ∀ L ad σ, I L ad σ → (8, 0) ∈ L ∧ (9, 0) ∈ L) (hP9 : ∀ L ad σ, I L ad σ → ∀ K i, (K, i) ∈ L → K < 10 ∨ g_ty K < 9) (hsim : sim_copy I) {cl sl : Nat} (hcl : cl + 2 ≤ 601024) (hsl : sl + 700 ≤ 7293034) {x4 : Int32} (h1 : g_ix (x4 + (1 : Int32)) Ls) (h2 : g_ix (x4 + (2 : Int32)) Ls) (h3 : g_ix (x4 + (3 : Int32)) Ls) (h4 : g_ix (x4 + (4 : Int32)) Ls) (h5 : g_ix (x4 + (5 : Int32)) Ls) (h6 : g_ix (x4 + (6 : Int32)) Ls)
    (kk : ∀ (L : gL) (ad : gA) (σ : gS) (f : Nat → Int64) (H : Heap) (locs : List Loc) (ls : Array Slot), I L ad σ → l_E D cy cJ b f ad L σ s H locs → lv_has ls 8 [(0, .ref bs), (1, .ref (ad 8 0)), (2, .ref (ad 9 0)), (3, .ref b), (4, .int x4)] → W p l e room_1 s m #[Value.ref bs] below meth c H locs (cl + 2) (sl + 700) Q (F0 m 1902 ls []))
    (L : gL) (ad : gA) (σ : gS) (f : Nat → Int64) (H : Heap) (locs : List Loc) (ls : Array Slot) (hI : I L ad σ) (E : l_E D cy cJ b f ad L σ s H locs) (hl : lv_has ls 8 [(0, .ref bs), (1, .ref (ad 8 0)), (2, .ref (ad 9 0)), (3, .ref b), (4, .int x4)]) : W p l e room_1 s m #[Value.ref bs] below meth c H locs cl sl Q (F0 m 1779 ls []) := by
  refine lv_aload_n C.x C.b dL_law_1779 rfl (lv_at hl 1 rfl) ?_
  refine lv_aload_n C.x C.b dL_law_1780 rfl (lv_at hl 0 rfl) ?_
  refine lv_iload C.x C.b dL_law_1781 (lv_at hl 4 rfl) ?_
  refine lv_iconst (v := (1 : Int32)) C.x C.b dL_law_1783 (by decide) ?_
  refine lv_iadd C.x C.b dL_law_1784 ?_
  refine va_sld C.x C.b SX.1 SX.2 (Nat.not_le.mpr SX.2) E.2.2.1 h1 dL_law_1785 ?_
  refine lv_aload_n C.x C.b dL_law_1786 rfl (lv_at hl 0 rfl) ?_
  refine lv_iload C.x C.b dL_law_1787 (lv_at hl 4 rfl) ?_
  refine lv_iconst (v := (2 : Int32)) C.x C.b dL_law_1789 (by decide) ?_
  refine lv_iadd C.x C.b dL_law_1790 ?_
  refine va_sld C.x C.b SX.1 SX.2 (Nat.not_le.mpr SX.2) E.2.2.1 h2 dL_law_1791 ?_
  refine lv_aload_n C.x C.b dL_law_1792 rfl (lv_at hl 0 rfl) ?_
  refine lv_iload C.x C.b dL_law_1793 (lv_at hl 4 rfl) ?_
  refine lv_iconst (v := (3 : Int32)) C.x C.b dL_law_1795 (by decide) ?_
  refine lv_iadd C.x C.b dL_law_1796 ?_
  refine va_sld C.x C.b SX.1 SX.2 (Nat.not_le.mpr SX.2) E.2.2.1 h3 dL_law_1797 ?_
  refine lv_aload_n C.x C.b dL_law_1798 rfl (lv_at hl 0 rfl) ?_
  refine lv_iload C.x C.b dL_law_1799 (lv_at hl 4 rfl) ?_
  refine lv_iconst (v := (4 : Int32)) C.x C.b dL_law_1801 (by decide) ?_
  refine lv_iadd C.x C.b dL_law_1802 ?_
  refine va_sld C.x C.b SX.1 SX.2 (Nat.not_le.mpr SX.2) E.2.2.1 h4 dL_law_1803 ?_
  refine lv_aload_n C.x C.b dL_law_1804 rfl (lv_at hl 0 rfl) ?_
  refine lv_iload C.x C.b dL_law_1805 (lv_at hl 4 rfl) ?_
  refine lv_iconst (v := (5 : Int32)) C.x C.b dL_law_1807 (by decide) ?_
  refine lv_iadd C.x C.b dL_law_1808 ?_
  refine va_sld C.x C.b SX.1 SX.2 (Nat.not_le.mpr SX.2) E.2.2.1 h5 dL_law_1809 ?_
  obtain ⟨r, σ1, σ2, e1, e2, hI2⟩ := hsim L ad σ hI (xs (x4 + (1 : Int32)).toNatClampNeg) (xs (x4 + (2 : Int32)).toNatClampNeg) (xs (x4 + (3 : Int32)).toNatClampNeg) (xs (x4 + (4 : Int32)).toNatClampNeg) (xs (x4 + (5 : Int32)).toNatClampNeg) 
  refine l_calli E (l_run (As := [.int (xs (x4 + (1 : Int32)).toNatClampNeg), .int (xs (x4 + (2 : Int32)).toNatClampNeg), .int (xs (x4 + (3 : Int32)).toNatClampNeg), .int (xs (x4 + (4 : Int32)).toNatClampNeg), .int (xs (x4 + (5 : Int32)).toNatClampNeg)]) (rest := []) C E 8 0 (c_X8_copy l D cy (l_A s b) ad L σ (hI9 L ad σ hI).1 (xs (x4 + (1 : Int32)).toNatClampNeg) (xs (x4 + (2 : Int32)).toNatClampNeg) (xs (x4 + (3 : Int32)).toNatClampNeg) (xs (x4 + (4 : Int32)).toNatClampNeg) (xs (x4 + (5 : Int32)).toNatClampNeg) r σ1 e1) ⟨tw801, tw54, tw798, ⟨tw799, tw800⟩, hd_X8_copy⟩ (by decide) (hI9 L ad σ hI).1 rfl ⟨rfl, by decide⟩ hl.1 rfl (Nat.le_of_ble_eq_true rfl) dL_law_1810 ⟨by show _ ≤ 601024; omega, by show _ ≤ 7293034; omega⟩) (fun H locs E => ?_)
  refine lv_aload_n C.x C.b dL_law_1813 rfl (lv_at hl 2 rfl) ?_
  refine lv_aload_n C.x C.b dL_law_1814 rfl (lv_at hl 0 rfl) ?_
  refine lv_iload C.x C.b dL_law_1815 (lv_at hl 4 rfl) ?_
  refine lv_iconst (v := (1 : Int32)) C.x C.b dL_law_1817 (by decide) ?_
  refine lv_iadd C.x C.b dL_law_1818 ?_
  refine va_sld C.x C.b SX.1 SX.2 (Nat.not_le.mpr SX.2) E.2.2.1 h1 dL_law_1819 ?_
  refine lv_aload_n C.x C.b dL_law_1820 rfl (lv_at hl 0 rfl) ?_
  refine lv_iload C.x C.b dL_law_1821 (lv_at hl 4 rfl) ?_
  refine lv_iconst (v := (2 : Int32)) C.x C.b dL_law_1823 (by decide) ?_
  refine lv_iadd C.x C.b dL_law_1824 ?_
  refine va_sld C.x C.b SX.1 SX.2 (Nat.not_le.mpr SX.2) E.2.2.1 h2 dL_law_1825 ?_
  refine lv_aload_n C.x C.b dL_law_1826 rfl (lv_at hl 0 rfl) ?_
  refine lv_iload C.x C.b dL_law_1827 (lv_at hl 4 rfl) ?_
  refine lv_iconst (v := (3 : Int32)) C.x C.b dL_law_1829 (by decide) ?_
  refine lv_iadd C.x C.b dL_law_1830 ?_
  refine va_sld C.x C.b SX.1 SX.2 (Nat.not_le.mpr SX.2) E.2.2.1 h3 dL_law_1831 ?_
  refine lv_aload_n C.x C.b dL_law_1832 rfl (lv_at hl 0 rfl) ?_
  refine lv_iload C.x C.b dL_law_1833 (lv_at hl 4 rfl) ?_
  refine lv_iconst (v := (4 : Int32)) C.x C.b dL_law_1835 (by decide) ?_
  refine lv_iadd C.x C.b dL_law_1836 ?_
  refine va_sld C.x C.b SX.1 SX.2 (Nat.not_le.mpr SX.2) E.2.2.1 h4 dL_law_1837 ?_
  refine lv_aload_n C.x C.b dL_law_1838 rfl (lv_at hl 0 rfl) ?_
  refine lv_iload C.x C.b dL_law_1839 (lv_at hl 4 rfl) ?_
  refine lv_iconst (v := (5 : Int32)) C.x C.b dL_law_1841 (by decide) ?_
  refine lv_iadd C.x C.b dL_law_1842 ?_
  refine va_sld C.x C.b SX.1 SX.2 (Nat.not_le.mpr SX.2) E.2.2.1 h5 dL_law_1843 ?_
  refine l_calli E (l_run (As := [.int (xs (x4 + (1 : Int32)).toNatClampNeg), .int (xs (x4 + (2 : Int32)).toNatClampNeg), .int (xs (x4 + (3 : Int32)).toNatClampNeg), .int (xs (x4 + (4 : Int32)).toNatClampNeg), .int (xs (x4 + (5 : Int32)).toNatClampNeg)]) (rest := [.int r]) C E 9 0 (c_X9_copy l D cy (l_A s b) ad L σ1 (hI9 L ad σ hI).2 (xs (x4 + (1 : Int32)).toNatClampNeg) (xs (x4 + (2 : Int32)).toNatClampNeg) (xs (x4 + (3 : Int32)).toNatClampNeg) (xs (x4 + (4 : Int32)).toNatClampNeg) (xs (x4 + (5 : Int32)).toNatClampNeg) r σ2 e2) ⟨tw1349, tw60, tw1346, ⟨tw1347, tw1348⟩, hd_X9_copy⟩ (by decide) (hI9 L ad σ hI).2 rfl ⟨rfl, by decide⟩ hl.1 rfl (Nat.le_of_ble_eq_true rfl) dL_law_1844 ⟨by show _ ≤ 601024; omega, by show _ ≤ 7293034; omega⟩) (fun H locs E => ?_)
  refine lv_icmp_eq (tgt := 1902) C.x C.b dL_law_1847 (by decide) (fun _ => ?_) (fun cb => absurd rfl cb)
  refine W.widen (k := cl + 2) (n := sl + 700) (by omega) (by omega) ?_
  exact kk L ad σ2 f _ _ ls hI2 E hl
set_option maxHeartbeats 4000000 in
set_option maxRecDepth 100000 in
theorem lc_weight {p : Program} {l : Launch} {e : Env} {s : State} {m : MethodId} {below : List Frame} {meth : Method} {c : Code} {Q : State → Prop} {D : va_G} {cy : Nat → ClassId} {cJ : ClassId} {b bs Ls : Nat} {xs : Nat → Int32} (C : l_C D cy cJ p m c s #[Value.ref bs]) (SX : l_S bs Ls xs s) (hst : l.stackTraces = false) (hX : g_X (l_A s b) s) (I : gL → gA → gS → Prop) (hI9 : ∀ L ad σ, I L ad σ → (8, 0) ∈ L ∧ (9, 0) ∈ L) (hP9 : ∀ L ad σ, I L ad σ → ∀ K i, (K, i) ∈ L → K < 10 ∨ g_ty K < 9) (hsim : sim_weight I) {cl sl : Nat} (hcl : cl + 2 ≤ 601024) (hsl : sl + 700 ≤ 7293034) {x4 : Int32} (h1 : g_ix (x4 + (1 : Int32)) Ls) (h2 : g_ix (x4 + (2 : Int32)) Ls) (h3 : g_ix (x4 + (3 : Int32)) Ls) (h4 : g_ix (x4 + (4 : Int32)) Ls) (h5 : g_ix (x4 + (5 : Int32)) Ls) (h6 : g_ix (x4 + (6 : Int32)) Ls)
    (kk : ∀ (L : gL) (ad : gA) (σ : gS) (f : Nat → Int64) (H : Heap) (locs : List Loc) (ls : Array Slot), I L ad σ → l_E D cy cJ b f ad L σ s H locs → lv_has ls 8 [(0, .ref bs), (1, .ref (ad 8 0)), (2, .ref (ad 9 0)), (3, .ref b), (4, .int x4)] → W p l e room_1 s m #[Value.ref bs] below meth c H locs (cl + 2) (sl + 700) Q (F0 m 1902 ls []))
    (L : gL) (ad : gA) (σ : gS) (f : Nat → Int64) (H : Heap) (locs : List Loc) (ls : Array Slot) (hI : I L ad σ) (E : l_E D cy cJ b f ad L σ s H locs) (hl : lv_has ls 8 [(0, .ref bs), (1, .ref (ad 8 0)), (2, .ref (ad 9 0)), (3, .ref b), (4, .int x4)]) : W p l e room_1 s m #[Value.ref bs] below meth c H locs cl sl Q (F0 m 1852 ls []) := by
  refine lv_aload_n C.x C.b dL_law_1852 rfl (lv_at hl 1 rfl) ?_
  refine lv_aload_n C.x C.b dL_law_1853 rfl (lv_at hl 0 rfl) ?_
  refine lv_iload C.x C.b dL_law_1854 (lv_at hl 4 rfl) ?_
  refine lv_iconst (v := (1 : Int32)) C.x C.b dL_law_1856 (by decide) ?_
  refine lv_iadd C.x C.b dL_law_1857 ?_
  refine va_sld C.x C.b SX.1 SX.2 (Nat.not_le.mpr SX.2) E.2.2.1 h1 dL_law_1858 ?_
  obtain ⟨r, e1, e2, hI2⟩ := hsim L ad σ hI (xs (x4 + (1 : Int32)).toNatClampNeg) 
  refine l_calli E (l_run (As := [.int (xs (x4 + (1 : Int32)).toNatClampNeg)]) (rest := []) C E 8 0 (c_X8_weight l D cy (l_A s b) ad L σ (hI9 L ad σ hI).1 (xs (x4 + (1 : Int32)).toNatClampNeg) r e1) ⟨tw820, tw54, tw817, ⟨tw818, tw819⟩, hd_X8_weight⟩ (by decide) (hI9 L ad σ hI).1 rfl ⟨rfl, by decide⟩ hl.1 rfl (Nat.le_of_ble_eq_true rfl) dL_law_1859 ⟨by show _ ≤ 601024; omega, by show _ ≤ 7293034; omega⟩) (fun H locs E => ?_)
  refine lv_aload_n C.x C.b dL_law_1862 rfl (lv_at hl 2 rfl) ?_
  refine lv_aload_n C.x C.b dL_law_1863 rfl (lv_at hl 0 rfl) ?_
  refine lv_iload C.x C.b dL_law_1864 (lv_at hl 4 rfl) ?_
  refine lv_iconst (v := (1 : Int32)) C.x C.b dL_law_1866 (by decide) ?_
  refine lv_iadd C.x C.b dL_law_1867 ?_
  refine va_sld C.x C.b SX.1 SX.2 (Nat.not_le.mpr SX.2) E.2.2.1 h1 dL_law_1868 ?_
  refine l_calli E (l_run (As := [.int (xs (x4 + (1 : Int32)).toNatClampNeg)]) (rest := [.int r]) C E 9 0 (c_X9_weight l D cy (l_A s b) ad L σ (hI9 L ad σ hI).2 (xs (x4 + (1 : Int32)).toNatClampNeg) r e2) ⟨tw1353, tw60, tw1350, ⟨tw1351, tw1352⟩, hd_X9_weight⟩ (by decide) (hI9 L ad σ hI).2 rfl ⟨rfl, by decide⟩ hl.1 rfl (Nat.le_of_ble_eq_true rfl) dL_law_1869 ⟨by show _ ≤ 601024; omega, by show _ ≤ 7293034; omega⟩) (fun H locs E => ?_)
  refine lv_icmp_eq (tgt := 1902) C.x C.b dL_law_1872 (by decide) (fun _ => ?_) (fun cb => absurd rfl cb)
  refine W.widen (k := cl + 2) (n := sl + 700) (by omega) (by omega) ?_
  exact kk L ad σ f _ _ ls hI2 E hl
set_option maxHeartbeats 4000000 in
set_option maxRecDepth 100000 in
theorem lc_toss {p : Program} {l : Launch} {e : Env} {s : State} {m : MethodId} {below : List Frame} {meth : Method} {c : Code} {Q : State → Prop} {D : va_G} {cy : Nat → ClassId} {cJ : ClassId} {b bs Ls : Nat} {xs : Nat → Int32} (C : l_C D cy cJ p m c s #[Value.ref bs]) (SX : l_S bs Ls xs s) (hst : l.stackTraces = false) (hX : g_X (l_A s b) s) (I : gL → gA → gS → Prop) (hI9 : ∀ L ad σ, I L ad σ → (8, 0) ∈ L ∧ (9, 0) ∈ L) (hP9 : ∀ L ad σ, I L ad σ → ∀ K i, (K, i) ∈ L → K < 10 ∨ g_ty K < 9) (hsim : sim_toss I) {cl sl : Nat} (hcl : cl + 2 ≤ 601024) (hsl : sl + 700 ≤ 7293034) {x4 : Int32} (h1 : g_ix (x4 + (1 : Int32)) Ls) (h2 : g_ix (x4 + (2 : Int32)) Ls) (h3 : g_ix (x4 + (3 : Int32)) Ls) (h4 : g_ix (x4 + (4 : Int32)) Ls) (h5 : g_ix (x4 + (5 : Int32)) Ls) (h6 : g_ix (x4 + (6 : Int32)) Ls)
    (kk : ∀ (L : gL) (ad : gA) (σ : gS) (f : Nat → Int64) (H : Heap) (locs : List Loc) (ls : Array Slot), I L ad σ → l_E D cy cJ b f ad L σ s H locs → lv_has ls 8 [(0, .ref bs), (1, .ref (ad 8 0)), (2, .ref (ad 9 0)), (3, .ref b), (4, .int x4)] → W p l e room_1 s m #[Value.ref bs] below meth c H locs (cl + 2) (sl + 700) Q (F0 m 1902 ls []))
    (L : gL) (ad : gA) (σ : gS) (f : Nat → Int64) (H : Heap) (locs : List Loc) (ls : Array Slot) (hI : I L ad σ) (E : l_E D cy cJ b f ad L σ s H locs) (hl : lv_has ls 8 [(0, .ref bs), (1, .ref (ad 8 0)), (2, .ref (ad 9 0)), (3, .ref b), (4, .int x4)]) : W p l e room_1 s m #[Value.ref bs] below meth c H locs cl sl Q (F0 m 1877 ls []) := by
  refine lv_aload_n C.x C.b dL_law_1877 rfl (lv_at hl 1 rfl) ?_
  refine lv_aload_n C.x C.b dL_law_1878 rfl (lv_at hl 0 rfl) ?_
  refine lv_iload C.x C.b dL_law_1879 (lv_at hl 4 rfl) ?_
  refine lv_iconst (v := (1 : Int32)) C.x C.b dL_law_1881 (by decide) ?_
  refine lv_iadd C.x C.b dL_law_1882 ?_
  refine va_sld C.x C.b SX.1 SX.2 (Nat.not_le.mpr SX.2) E.2.2.1 h1 dL_law_1883 ?_
  obtain ⟨r, e1, e2, hI2⟩ := hsim L ad σ hI (xs (x4 + (1 : Int32)).toNatClampNeg) 
  refine l_calli E (l_runT (As := [.int (xs (x4 + (1 : Int32)).toNatClampNeg)]) (rest := []) C hX E 8 0 (c_X8_toss l hst D cy (l_A s b) ad L σ (hI9 L ad σ hI).1 (xs (x4 + (1 : Int32)).toNatClampNeg) r e1) ⟨tw836, tw54, tw833, ⟨tw834, tw835⟩, hd_X8_toss⟩ (by decide) (hI9 L ad σ hI).1 rfl ⟨rfl, by decide⟩ hl.1 rfl (Nat.le_of_ble_eq_true rfl) dL_law_1884 ⟨by show cl + _ ≤ 601024; omega, by show sl + _ ≤ 7293034; omega⟩) (fun H locs E => ?_)
  refine lv_aload_n C.x C.b dL_law_1887 rfl (lv_at hl 2 rfl) ?_
  refine lv_aload_n C.x C.b dL_law_1888 rfl (lv_at hl 0 rfl) ?_
  refine lv_iload C.x C.b dL_law_1889 (lv_at hl 4 rfl) ?_
  refine lv_iconst (v := (1 : Int32)) C.x C.b dL_law_1891 (by decide) ?_
  refine lv_iadd C.x C.b dL_law_1892 ?_
  refine va_sld C.x C.b SX.1 SX.2 (Nat.not_le.mpr SX.2) E.2.2.1 h1 dL_law_1893 ?_
  refine l_calli E (l_run (As := [.int (xs (x4 + (1 : Int32)).toNatClampNeg)]) (rest := [.int r]) C E 9 0 (c_X9_toss l D cy (l_A s b) ad L σ (hI9 L ad σ hI).2 (xs (x4 + (1 : Int32)).toNatClampNeg) r e2) ⟨tw1361, tw60, tw1358, ⟨tw1359, tw1360⟩, hd_X9_toss⟩ (by decide) (hI9 L ad σ hI).2 rfl ⟨rfl, by decide⟩ hl.1 rfl (Nat.le_of_ble_eq_true rfl) dL_law_1894 ⟨by show _ ≤ 601024; omega, by show _ ≤ 7293034; omega⟩) (fun H locs E => ?_)
  refine lv_icmp_eq (tgt := 1902) C.x C.b dL_law_1897 (by decide) (fun _ => ?_) (fun cb => absurd rfl cb)
  refine W.widen (k := cl + 2) (n := sl + 700) (by omega) (by omega) ?_
  exact kk L ad σ f _ _ ls hI2 E hl
