/-! PART 45: the calls that the law tries, 1 of 3. -/
section CASES0
theorem c_addFerry {p : Program} {l : Launch} {s : State} {m : MethodId} {below : List Frame} {meth : Method} {c : Code} {H : Heap} {locs : List Loc} {cells slots : Nat} {Q : State → Prop} {e : Env} {ls : Array Slot} {b L : Nat} {D : va_G} {ci cz cj : ClassId} {q0 q1 : Nat → Nat} {F P : Nat} {g : Nat → Nat → Int32} {ob : Nat} {xs : Nat → Int32} {i : Nat} (lf : LF p m c meth s b L xs D ci cz cj) (la : LA q0 q1 ob s.heap.size) (hl0 : l.stackTraces = false) (hL : L ≤ 3072) (hi : i + 6 ≤ L) (hw : LW D ci cz cj q0 q1 ob F P g H) (hI : Iw F P g) (hS : va_S (big s) s.heap H locs) (hl : lv_has ls 9 [(0, .ref b), (1, .ref (q0 0)), (2, .ref (q1 0)), (3, .ref ob), (4, .int (nI i))]) (hc : cells + 1 ≤ room_1.cells) (hs : slots + 6 ≤ room_1.slots) (kk : ∀ (F P : Nat) (g : Nat → Nat → Int32) (H : Heap) (locs : List Loc) (ls : Array Slot), LW D ci cz cj q0 q1 ob F P g H → Iw F P g → va_S (big s) s.heap H locs → lv_has ls 9 [(0, .ref b), (1, .ref (q0 0)), (2, .ref (q1 0)), (3, .ref ob), (4, .int (nI i))] → W p l e room_1 s m #[.ref b] below meth c H locs (cells + 1) (slots + 6) Q (F0 m 2627 ls [])) : W p l e room_1 s m #[.ref b] below meth c H locs cells slots Q (F0 m 216 ls []) := by
  obtain ⟨hP, ⟨th, he, hn, hM⟩, f, hO⟩ := hw
  have hx := lf.F.1
  have hb := lf.F.2.1
  have hF := hI.1.1.1
  have hP12 := hI.1.1.2
  refine lv_aload_n hx hb dL_law_216 rfl (lv_at hl 1 rfl) ?_
  refine r_arg lf hS (lv_at hl 0 rfl) (lv_at hl 4 rfl) (k := 1) rfl (by omega) hL rfl rfl rfl rfl rfl dL_law_217 dL_law_218 dL_law_220 dL_law_221 dL_law_222 ?_
  refine lv_aload_n hx hb dL_law_223 rfl (lv_at hl 3 rfl) ?_
  have hk3 : (k_addFerry F (xs (i + 1))) ≤ 3 := by unfold k_addFerry; (repeat' split) <;> decide
  refine r_callLW (As := [.ref (q0 0), .int (xs (i + 1)), .ref ob]) (rest := []) lf.F (m_L_addFerry l hl0 (D := D) (ci := ci) (cz := cz) (cj := cj) (q := q0) (F := F) (P := P) (g := g) (ob := ob) (f0 := f) la.h9 hF hP12 (xs (i + 1)) ) (vx_cwSW 3 lf.F.2.2.2.2 gL_law_L_addFerry rfl rfl rfl (by decide +kernel) ⟨Nat.le_of_ble_eq_true rfl, Nat.le_of_ble_eq_true rfl⟩) BL.bl (lf.b0 la hP hO hS) rfl hl.1 rfl (Nat.le_of_ble_eq_true rfl) dL_law_224 ⟨hc, hs⟩ hS la.o0 (fun H locs hQ hS hkp => ?_)
  obtain ⟨hP, f, hO, hans⟩ := hQ
  have hM : va_P D vwCl (w1 ci cz q1 th F P g he hn) H := P_stay hM hkp la.n1
  refine lv_istore (lv' := [(5, .int (nI (k_addFerry F (xs (i + 1))))), (0, .ref b), (1, .ref (q0 0)), (2, .ref (q1 0)), (3, .ref ob), (4, .int (nI i))]) hx hb dL_law_227 hl (by decide) rfl (fun ls hl => ?_)
  refine lv_aload_n hx hb dL_law_229 rfl (lv_at hl 3 rfl) ?_
  refine r_arg lf hS (lv_at hl 1 rfl) (lv_at hl 5 rfl) (k := 1) rfl (by omega) hL rfl rfl rfl rfl rfl dL_law_230 dL_law_231 dL_law_233 dL_law_234 dL_law_235 ?_
  refine r_callW (rest := []) lf.F (m_X1_addFerry l (D := D) (ci := ci) (cz := cz) (cj := cj) (q := q1) (F := F) (P := P) (g := g) (th := th) (he := he) (hn := hn) la.h1 hF hP12 (xs (i + 1)) hI.1) (cwV 1 lf.F.2.2.2.2 gL_law_X1_addFerry rfl rfl rfl (by decide +kernel) ⟨Nat.le_of_ble_eq_true rfl, Nat.le_of_ble_eq_true rfl⟩) BW.bl (va_recv lf.K hM (ci := 1) (q0 := 0) rfl rfl) (lf.b1 la hM hS) rfl hl.1 rfl (Nat.le_of_ble_eq_true rfl) dL_law_236 ⟨hc, hs⟩ hS la.o1 (fun H locs hM hS _ hkp => ?_)
  obtain ⟨he, hn, hM⟩ := hM
  have hI := sF_iw (K := (k_addFerry F (xs (i + 1)))) hI (st_addFerry hI (xs (i + 1)))
  have hF := hI.1.1.1
  have hP12 := hI.1.1.2
  have hP : va_P D vwCl (w0 ci cz q0 (sF (k_addFerry F (xs (i + 1))) (F + 1) F) (sF (k_addFerry F (xs (i + 1))) P P) (sF (k_addFerry F (xs (i + 1))) (gTol g F (xs (i + 1))) g)) H := P_stay hP hkp la.n0
  have hO : va_P D vwCl (wo cj ob f) H := P_stay hO hkp la.no
  refine lv_istore (lv' := [(6, .int (rz (k_addFerry F (xs (i + 1))) (nI F))), (5, .int (nI (k_addFerry F (xs (i + 1))))), (0, .ref b), (1, .ref (q0 0)), (2, .ref (q1 0)), (3, .ref ob), (4, .int (nI i))]) hx hb dL_law_239 hl (by decide) rfl (fun ls hl => ?_)
  refine lv_aload_n hx hb dL_law_241 rfl (lv_at hl 4 rfl) ?_
  refine r_callR (rest := []) lf.F (m_X1_thrown l (D := D) (ci := ci) (cz := cz) (cj := cj) (q := q1) (F := (sF (k_addFerry F (xs (i + 1))) (F + 1) F)) (P := (sF (k_addFerry F (xs (i + 1))) P P)) (g := (sF (k_addFerry F (xs (i + 1))) (gTol g F (xs (i + 1))) g)) (th := nI (k_addFerry F (xs (i + 1)))) (he := he) (hn := hn) hF hP12) (cwV 0 lf.F.2.2.2.2 gL_law_X1_thrown rfl rfl rfl (by decide +kernel) ⟨Nat.le_of_ble_eq_true rfl, Nat.le_of_ble_eq_true rfl⟩) BW.bl (va_recv lf.K hM (ci := 1) (q0 := 0) rfl rfl) (lf.b1 la hM hS) rfl hl.1 rfl (Nat.le_of_ble_eq_true rfl) dL_law_242 ⟨hc, hs⟩ ?_
  refine lv_iload hx hb dL_law_245 (lv_at hl 1 rfl) ?_
  refine lv_icmp_eq (tgt := 252) hx hb dL_law_247 (by decide) (fun _ => ?_) (fun h => absurd rfl h)
  refine lv_iload hx hb dL_law_252 (lv_at hl 1 rfl) ?_
  refine lv_if_ne (tgt := 269) hx hb dL_law_254 (by decide) (fun _ => ?_) (fun hk => ?_)
  · refine lv_goto (tgt := 2627) hx hb dL_law_269 (by decide) ?_
    exact kk _ _ _ _ _ _ ⟨hP, ⟨_, _, _, hM⟩, f, hO⟩ hI hS (lv_sub hl [2, 3, 4, 5, 6] rfl)
  · have hK0 : (k_addFerry F (xs (i + 1))) = 0 := nK0 hk3 hk
    refine lv_aload_n hx hb dL_law_257 rfl (lv_at hl 5 rfl) ?_
    refine lv_iconst (v := nI 0) hx hb dL_law_258 (by decide) ?_
    refine r_lald hx hb lf.K rfl hO (hans hK0) dL_law_259 ?_
    refine lv_iload hx hb dL_law_260 (lv_at hl 0 rfl) ?_
    refine lv_i2l hx hb dL_law_262 rfl ?_
    refine r_lcmp hx hb (by rw [rz0 hK0]) dL_law_263 ?_
    refine lv_if_eq (tgt := 269) hx hb dL_law_264 (by decide) (fun _ => ?_) (fun h => absurd rfl h)
    refine lv_goto (tgt := 2627) hx hb dL_law_269 (by decide) ?_
    exact kk _ _ _ _ _ _ ⟨hP, ⟨_, _, _, hM⟩, f, hO⟩ hI hS (lv_sub hl [2, 3, 4, 5, 6] rfl)
theorem c_addPerson {p : Program} {l : Launch} {s : State} {m : MethodId} {below : List Frame} {meth : Method} {c : Code} {H : Heap} {locs : List Loc} {cells slots : Nat} {Q : State → Prop} {e : Env} {ls : Array Slot} {b L : Nat} {D : va_G} {ci cz cj : ClassId} {q0 q1 : Nat → Nat} {F P : Nat} {g : Nat → Nat → Int32} {ob : Nat} {xs : Nat → Int32} {i : Nat} (lf : LF p m c meth s b L xs D ci cz cj) (la : LA q0 q1 ob s.heap.size) (hl0 : l.stackTraces = false) (hL : L ≤ 3072) (hi : i + 6 ≤ L) (hw : LW D ci cz cj q0 q1 ob F P g H) (hI : Iw F P g) (hS : va_S (big s) s.heap H locs) (hl : lv_has ls 9 [(0, .ref b), (1, .ref (q0 0)), (2, .ref (q1 0)), (3, .ref ob), (4, .int (nI i))]) (hc : cells + 1 ≤ room_1.cells) (hs : slots + 6 ≤ room_1.slots) (kk : ∀ (F P : Nat) (g : Nat → Nat → Int32) (H : Heap) (locs : List Loc) (ls : Array Slot), LW D ci cz cj q0 q1 ob F P g H → Iw F P g → va_S (big s) s.heap H locs → lv_has ls 9 [(0, .ref b), (1, .ref (q0 0)), (2, .ref (q1 0)), (3, .ref ob), (4, .int (nI i))] → W p l e room_1 s m #[.ref b] below meth c H locs (cells + 1) (slots + 6) Q (F0 m 2627 ls [])) : W p l e room_1 s m #[.ref b] below meth c H locs cells slots Q (F0 m 272 ls []) := by
  obtain ⟨hP, ⟨th, he, hn, hM⟩, f, hO⟩ := hw
  have hx := lf.F.1
  have hb := lf.F.2.1
  have hF := hI.1.1.1
  have hP12 := hI.1.1.2
  refine lv_aload_n hx hb dL_law_272 rfl (lv_at hl 1 rfl) ?_
  refine lv_aload_n hx hb dL_law_273 rfl (lv_at hl 3 rfl) ?_
  have hk3 : (k_addPerson P) ≤ 3 := by unfold k_addPerson; (repeat' split) <;> decide
  refine r_callLW (As := [.ref (q0 0), .ref ob]) (rest := []) lf.F (m_L_addPerson l hl0 (D := D) (ci := ci) (cz := cz) (cj := cj) (q := q0) (F := F) (P := P) (g := g) (ob := ob) (f0 := f) la.h9 hF hP12  hI.1.2.2.2.2.2.1) (vx_cwSW 2 lf.F.2.2.2.2 gL_law_L_addPerson rfl rfl rfl (by decide +kernel) ⟨Nat.le_of_ble_eq_true rfl, Nat.le_of_ble_eq_true rfl⟩) BL.bl (lf.b0 la hP hO hS) rfl hl.1 rfl (Nat.le_of_ble_eq_true rfl) dL_law_274 ⟨hc, hs⟩ hS la.o0 (fun H locs hQ hS hkp => ?_)
  obtain ⟨hP, f, hO, hans⟩ := hQ
  have hM : va_P D vwCl (w1 ci cz q1 th F P g he hn) H := P_stay hM hkp la.n1
  refine lv_istore (lv' := [(5, .int (nI (k_addPerson P))), (0, .ref b), (1, .ref (q0 0)), (2, .ref (q1 0)), (3, .ref ob), (4, .int (nI i))]) hx hb dL_law_277 hl (by decide) rfl (fun ls hl => ?_)
  refine lv_aload_n hx hb dL_law_279 rfl (lv_at hl 3 rfl) ?_
  refine r_callW (rest := []) lf.F (m_X1_addPerson l (D := D) (ci := ci) (cz := cz) (cj := cj) (q := q1) (F := F) (P := P) (g := g) (th := th) (he := he) (hn := hn) la.h1 hF hP12  hI.1) (cwV 0 lf.F.2.2.2.2 gL_law_X1_addPerson rfl rfl rfl (by decide +kernel) ⟨Nat.le_of_ble_eq_true rfl, Nat.le_of_ble_eq_true rfl⟩) BW.bl (va_recv lf.K hM (ci := 1) (q0 := 0) rfl rfl) (lf.b1 la hM hS) rfl hl.1 rfl (Nat.le_of_ble_eq_true rfl) dL_law_280 ⟨hc, hs⟩ hS la.o1 (fun H locs hM hS _ hkp => ?_)
  obtain ⟨he, hn, hM⟩ := hM
  have hI := sF_iw (K := (k_addPerson P)) hI (st_addPerson hI )
  have hF := hI.1.1.1
  have hP12 := hI.1.1.2
  have hP : va_P D vwCl (w0 ci cz q0 (sF (k_addPerson P) F F) (sF (k_addPerson P) (P + 1) P) (sF (k_addPerson P) (gPar g P (-1)) g)) H := P_stay hP hkp la.n0
  have hO : va_P D vwCl (wo cj ob f) H := P_stay hO hkp la.no
  refine lv_istore (lv' := [(6, .int (rz (k_addPerson P) (nI P))), (5, .int (nI (k_addPerson P))), (0, .ref b), (1, .ref (q0 0)), (2, .ref (q1 0)), (3, .ref ob), (4, .int (nI i))]) hx hb dL_law_283 hl (by decide) rfl (fun ls hl => ?_)
  refine lv_aload_n hx hb dL_law_285 rfl (lv_at hl 4 rfl) ?_
  refine r_callR (rest := []) lf.F (m_X1_thrown l (D := D) (ci := ci) (cz := cz) (cj := cj) (q := q1) (F := (sF (k_addPerson P) F F)) (P := (sF (k_addPerson P) (P + 1) P)) (g := (sF (k_addPerson P) (gPar g P (-1)) g)) (th := nI (k_addPerson P)) (he := he) (hn := hn) hF hP12) (cwV 0 lf.F.2.2.2.2 gL_law_X1_thrown rfl rfl rfl (by decide +kernel) ⟨Nat.le_of_ble_eq_true rfl, Nat.le_of_ble_eq_true rfl⟩) BW.bl (va_recv lf.K hM (ci := 1) (q0 := 0) rfl rfl) (lf.b1 la hM hS) rfl hl.1 rfl (Nat.le_of_ble_eq_true rfl) dL_law_286 ⟨hc, hs⟩ ?_
  refine lv_iload hx hb dL_law_289 (lv_at hl 1 rfl) ?_
  refine lv_icmp_eq (tgt := 296) hx hb dL_law_291 (by decide) (fun _ => ?_) (fun h => absurd rfl h)
  refine lv_iload hx hb dL_law_296 (lv_at hl 1 rfl) ?_
  refine lv_if_ne (tgt := 313) hx hb dL_law_298 (by decide) (fun _ => ?_) (fun hk => ?_)
  · refine lv_goto (tgt := 2627) hx hb dL_law_313 (by decide) ?_
    exact kk _ _ _ _ _ _ ⟨hP, ⟨_, _, _, hM⟩, f, hO⟩ hI hS (lv_sub hl [2, 3, 4, 5, 6] rfl)
  · have hK0 : (k_addPerson P) = 0 := nK0 hk3 hk
    refine lv_aload_n hx hb dL_law_301 rfl (lv_at hl 5 rfl) ?_
    refine lv_iconst (v := nI 0) hx hb dL_law_302 (by decide) ?_
    refine r_lald hx hb lf.K rfl hO (hans hK0) dL_law_303 ?_
    refine lv_iload hx hb dL_law_304 (lv_at hl 0 rfl) ?_
    refine lv_i2l hx hb dL_law_306 rfl ?_
    refine r_lcmp hx hb (by rw [rz0 hK0]) dL_law_307 ?_
    refine lv_if_eq (tgt := 313) hx hb dL_law_308 (by decide) (fun _ => ?_) (fun h => absurd rfl h)
    refine lv_goto (tgt := 2627) hx hb dL_law_313 (by decide) ?_
    exact kk _ _ _ _ _ _ ⟨hP, ⟨_, _, _, hM⟩, f, hO⟩ hI hS (lv_sub hl [2, 3, 4, 5, 6] rfl)
theorem c_addChild {p : Program} {l : Launch} {s : State} {m : MethodId} {below : List Frame} {meth : Method} {c : Code} {H : Heap} {locs : List Loc} {cells slots : Nat} {Q : State → Prop} {e : Env} {ls : Array Slot} {b L : Nat} {D : va_G} {ci cz cj : ClassId} {q0 q1 : Nat → Nat} {F P : Nat} {g : Nat → Nat → Int32} {ob : Nat} {xs : Nat → Int32} {i : Nat} (lf : LF p m c meth s b L xs D ci cz cj) (la : LA q0 q1 ob s.heap.size) (hl0 : l.stackTraces = false) (hL : L ≤ 3072) (hi : i + 6 ≤ L) (hw : LW D ci cz cj q0 q1 ob F P g H) (hI : Iw F P g) (hS : va_S (big s) s.heap H locs) (hl : lv_has ls 9 [(0, .ref b), (1, .ref (q0 0)), (2, .ref (q1 0)), (3, .ref ob), (4, .int (nI i))]) (hc : cells + 1 ≤ room_1.cells) (hs : slots + 6 ≤ room_1.slots) (kk : ∀ (F P : Nat) (g : Nat → Nat → Int32) (H : Heap) (locs : List Loc) (ls : Array Slot), LW D ci cz cj q0 q1 ob F P g H → Iw F P g → va_S (big s) s.heap H locs → lv_has ls 9 [(0, .ref b), (1, .ref (q0 0)), (2, .ref (q1 0)), (3, .ref ob), (4, .int (nI i))] → W p l e room_1 s m #[.ref b] below meth c H locs (cells + 1) (slots + 6) Q (F0 m 2627 ls [])) : W p l e room_1 s m #[.ref b] below meth c H locs cells slots Q (F0 m 316 ls []) := by
  obtain ⟨hP, ⟨th, he, hn, hM⟩, f, hO⟩ := hw
  have hx := lf.F.1
  have hb := lf.F.2.1
  have hF := hI.1.1.1
  have hP12 := hI.1.1.2
  refine lv_aload_n hx hb dL_law_316 rfl (lv_at hl 1 rfl) ?_
  refine r_arg lf hS (lv_at hl 0 rfl) (lv_at hl 4 rfl) (k := 1) rfl (by omega) hL rfl rfl rfl rfl rfl dL_law_317 dL_law_318 dL_law_320 dL_law_321 dL_law_322 ?_
  refine lv_aload_n hx hb dL_law_323 rfl (lv_at hl 3 rfl) ?_
  have hk3 : (k_addChild P g (xs (i + 1))) ≤ 3 := by unfold k_addChild; (repeat' split) <;> decide
  refine r_callLW (As := [.ref (q0 0), .int (xs (i + 1)), .ref ob]) (rest := []) lf.F (m_L_addChild l hl0 (D := D) (ci := ci) (cz := cz) (cj := cj) (q := q0) (F := F) (P := P) (g := g) (ob := ob) (f0 := f) la.h9 hF hP12 (xs (i + 1)) hI.1.2.2.2.2.2.1) (vx_cwSW 3 lf.F.2.2.2.2 gL_law_L_addChild rfl rfl rfl (by decide +kernel) ⟨Nat.le_of_ble_eq_true rfl, Nat.le_of_ble_eq_true rfl⟩) BL.bl (lf.b0 la hP hO hS) rfl hl.1 rfl (Nat.le_of_ble_eq_true rfl) dL_law_324 ⟨hc, hs⟩ hS la.o0 (fun H locs hQ hS hkp => ?_)
  obtain ⟨hP, f, hO, hans⟩ := hQ
  have hM : va_P D vwCl (w1 ci cz q1 th F P g he hn) H := P_stay hM hkp la.n1
  refine lv_istore (lv' := [(5, .int (nI (k_addChild P g (xs (i + 1))))), (0, .ref b), (1, .ref (q0 0)), (2, .ref (q1 0)), (3, .ref ob), (4, .int (nI i))]) hx hb dL_law_327 hl (by decide) rfl (fun ls hl => ?_)
  refine lv_aload_n hx hb dL_law_329 rfl (lv_at hl 3 rfl) ?_
  refine r_arg lf hS (lv_at hl 1 rfl) (lv_at hl 5 rfl) (k := 1) rfl (by omega) hL rfl rfl rfl rfl rfl dL_law_330 dL_law_331 dL_law_333 dL_law_334 dL_law_335 ?_
  refine r_callW (rest := []) lf.F (m_X1_addChild l (D := D) (ci := ci) (cz := cz) (cj := cj) (q := q1) (F := F) (P := P) (g := g) (th := th) (he := he) (hn := hn) la.h1 hF hP12 (xs (i + 1)) hI.1) (cwV 1 lf.F.2.2.2.2 gL_law_X1_addChild rfl rfl rfl (by decide +kernel) ⟨Nat.le_of_ble_eq_true rfl, Nat.le_of_ble_eq_true rfl⟩) BW.bl (va_recv lf.K hM (ci := 1) (q0 := 0) rfl rfl) (lf.b1 la hM hS) rfl hl.1 rfl (Nat.le_of_ble_eq_true rfl) dL_law_336 ⟨hc, hs⟩ hS la.o1 (fun H locs hM hS _ hkp => ?_)
  obtain ⟨he, hn, hM⟩ := hM
  have hI := sF_iw (K := (k_addChild P g (xs (i + 1)))) hI (st_addChild hI (xs (i + 1)))
  have hF := hI.1.1.1
  have hP12 := hI.1.1.2
  have hP : va_P D vwCl (w0 ci cz q0 (sF (k_addChild P g (xs (i + 1))) F F) (sF (k_addChild P g (xs (i + 1))) (P + 1) P) (sF (k_addChild P g (xs (i + 1))) (gPar g P (xs (i + 1))) g)) H := P_stay hP hkp la.n0
  have hO : va_P D vwCl (wo cj ob f) H := P_stay hO hkp la.no
  refine lv_istore (lv' := [(6, .int (rz (k_addChild P g (xs (i + 1))) (nI P))), (5, .int (nI (k_addChild P g (xs (i + 1))))), (0, .ref b), (1, .ref (q0 0)), (2, .ref (q1 0)), (3, .ref ob), (4, .int (nI i))]) hx hb dL_law_339 hl (by decide) rfl (fun ls hl => ?_)
  refine lv_aload_n hx hb dL_law_341 rfl (lv_at hl 4 rfl) ?_
  refine r_callR (rest := []) lf.F (m_X1_thrown l (D := D) (ci := ci) (cz := cz) (cj := cj) (q := q1) (F := (sF (k_addChild P g (xs (i + 1))) F F)) (P := (sF (k_addChild P g (xs (i + 1))) (P + 1) P)) (g := (sF (k_addChild P g (xs (i + 1))) (gPar g P (xs (i + 1))) g)) (th := nI (k_addChild P g (xs (i + 1)))) (he := he) (hn := hn) hF hP12) (cwV 0 lf.F.2.2.2.2 gL_law_X1_thrown rfl rfl rfl (by decide +kernel) ⟨Nat.le_of_ble_eq_true rfl, Nat.le_of_ble_eq_true rfl⟩) BW.bl (va_recv lf.K hM (ci := 1) (q0 := 0) rfl rfl) (lf.b1 la hM hS) rfl hl.1 rfl (Nat.le_of_ble_eq_true rfl) dL_law_342 ⟨hc, hs⟩ ?_
  refine lv_iload hx hb dL_law_345 (lv_at hl 1 rfl) ?_
  refine lv_icmp_eq (tgt := 352) hx hb dL_law_347 (by decide) (fun _ => ?_) (fun h => absurd rfl h)
  refine lv_iload hx hb dL_law_352 (lv_at hl 1 rfl) ?_
  refine lv_if_ne (tgt := 369) hx hb dL_law_354 (by decide) (fun _ => ?_) (fun hk => ?_)
  · refine lv_goto (tgt := 2627) hx hb dL_law_369 (by decide) ?_
    exact kk _ _ _ _ _ _ ⟨hP, ⟨_, _, _, hM⟩, f, hO⟩ hI hS (lv_sub hl [2, 3, 4, 5, 6] rfl)
  · have hK0 : (k_addChild P g (xs (i + 1))) = 0 := nK0 hk3 hk
    refine lv_aload_n hx hb dL_law_357 rfl (lv_at hl 5 rfl) ?_
    refine lv_iconst (v := nI 0) hx hb dL_law_358 (by decide) ?_
    refine r_lald hx hb lf.K rfl hO (hans hK0) dL_law_359 ?_
    refine lv_iload hx hb dL_law_360 (lv_at hl 0 rfl) ?_
    refine lv_i2l hx hb dL_law_362 rfl ?_
    refine r_lcmp hx hb (by rw [rz0 hK0]) dL_law_363 ?_
    refine lv_if_eq (tgt := 369) hx hb dL_law_364 (by decide) (fun _ => ?_) (fun h => absurd rfl h)
    refine lv_goto (tgt := 2627) hx hb dL_law_369 (by decide) ?_
    exact kk _ _ _ _ _ _ ⟨hP, ⟨_, _, _, hM⟩, f, hO⟩ hI hS (lv_sub hl [2, 3, 4, 5, 6] rfl)
theorem c_pay {p : Program} {l : Launch} {s : State} {m : MethodId} {below : List Frame} {meth : Method} {c : Code} {H : Heap} {locs : List Loc} {cells slots : Nat} {Q : State → Prop} {e : Env} {ls : Array Slot} {b L : Nat} {D : va_G} {ci cz cj : ClassId} {q0 q1 : Nat → Nat} {F P : Nat} {g : Nat → Nat → Int32} {ob : Nat} {xs : Nat → Int32} {i : Nat} (lf : LF p m c meth s b L xs D ci cz cj) (la : LA q0 q1 ob s.heap.size) (hl0 : l.stackTraces = false) (hL : L ≤ 3072) (hi : i + 6 ≤ L) (hw : LW D ci cz cj q0 q1 ob F P g H) (hI : Iw F P g) (hS : va_S (big s) s.heap H locs) (hl : lv_has ls 9 [(0, .ref b), (1, .ref (q0 0)), (2, .ref (q1 0)), (3, .ref ob), (4, .int (nI i))]) (hc : cells + 1 ≤ room_1.cells) (hs : slots + 6 ≤ room_1.slots) (kk : ∀ (F P : Nat) (g : Nat → Nat → Int32) (H : Heap) (locs : List Loc) (ls : Array Slot), LW D ci cz cj q0 q1 ob F P g H → Iw F P g → va_S (big s) s.heap H locs → lv_has ls 9 [(0, .ref b), (1, .ref (q0 0)), (2, .ref (q1 0)), (3, .ref ob), (4, .int (nI i))] → W p l e room_1 s m #[.ref b] below meth c H locs (cells + 1) (slots + 6) Q (F0 m 2627 ls [])) : W p l e room_1 s m #[.ref b] below meth c H locs cells slots Q (F0 m 372 ls []) := by
  obtain ⟨hP, ⟨th, he, hn, hM⟩, f, hO⟩ := hw
  have hx := lf.F.1
  have hb := lf.F.2.1
  have hF := hI.1.1.1
  have hP12 := hI.1.1.2
  refine lv_aload_n hx hb dL_law_372 rfl (lv_at hl 1 rfl) ?_
  refine r_arg lf hS (lv_at hl 0 rfl) (lv_at hl 4 rfl) (k := 1) rfl (by omega) hL rfl rfl rfl rfl rfl dL_law_373 dL_law_374 dL_law_376 dL_law_377 dL_law_378 ?_
  refine r_arg lf hS (lv_at hl 0 rfl) (lv_at hl 4 rfl) (k := 2) rfl (by omega) hL rfl rfl rfl rfl rfl dL_law_379 dL_law_380 dL_law_382 dL_law_383 dL_law_384 ?_
  refine lv_aload_n hx hb dL_law_385 rfl (lv_at hl 3 rfl) ?_
  have hk3 : (k_pay P g (xs (i + 1)) (xs (i + 2))) ≤ 3 := by unfold k_pay; (repeat' split) <;> decide
  refine r_callLW (As := [.ref (q0 0), .int (xs (i + 1)), .int (xs (i + 2)), .ref ob]) (rest := []) lf.F (m_L_pay l hl0 (D := D) (ci := ci) (cz := cz) (cj := cj) (q := q0) (F := F) (P := P) (g := g) (ob := ob) (f0 := f) la.h9 hF hP12 (xs (i + 1)) (xs (i + 2)) ) (vx_cwSW 4 lf.F.2.2.2.2 gL_law_L_pay rfl rfl rfl (by decide +kernel) ⟨Nat.le_of_ble_eq_true rfl, Nat.le_of_ble_eq_true rfl⟩) BL.bl (lf.b0 la hP hO hS) rfl hl.1 rfl (Nat.le_of_ble_eq_true rfl) dL_law_386 ⟨hc, hs⟩ hS la.o0 (fun H locs hQ hS hkp => ?_)
  obtain ⟨hP, f, hO, hans⟩ := hQ
  have hM : va_P D vwCl (w1 ci cz q1 th F P g he hn) H := P_stay hM hkp la.n1
  refine lv_istore (lv' := [(5, .int (nI (k_pay P g (xs (i + 1)) (xs (i + 2))))), (0, .ref b), (1, .ref (q0 0)), (2, .ref (q1 0)), (3, .ref ob), (4, .int (nI i))]) hx hb dL_law_389 hl (by decide) rfl (fun ls hl => ?_)
  refine lv_aload_n hx hb dL_law_391 rfl (lv_at hl 3 rfl) ?_
  refine r_arg lf hS (lv_at hl 1 rfl) (lv_at hl 5 rfl) (k := 1) rfl (by omega) hL rfl rfl rfl rfl rfl dL_law_392 dL_law_393 dL_law_395 dL_law_396 dL_law_397 ?_
  refine r_arg lf hS (lv_at hl 1 rfl) (lv_at hl 5 rfl) (k := 2) rfl (by omega) hL rfl rfl rfl rfl rfl dL_law_398 dL_law_399 dL_law_401 dL_law_402 dL_law_403 ?_
  refine r_callW (rest := []) lf.F (m_X1_pay l (D := D) (ci := ci) (cz := cz) (cj := cj) (q := q1) (F := F) (P := P) (g := g) (th := th) (he := he) (hn := hn) la.h1 hF hP12 (xs (i + 1)) (xs (i + 2)) hI.1) (cwV 2 lf.F.2.2.2.2 gL_law_X1_pay rfl rfl rfl (by decide +kernel) ⟨Nat.le_of_ble_eq_true rfl, Nat.le_of_ble_eq_true rfl⟩) BW.bl (va_recv lf.K hM (ci := 1) (q0 := 0) rfl rfl) (lf.b1 la hM hS) rfl hl.1 rfl (Nat.le_of_ble_eq_true rfl) dL_law_404 ⟨hc, hs⟩ hS la.o1 (fun H locs hM hS _ hkp => ?_)
  obtain ⟨he, hn, hM⟩ := hM
  have hI := sF_iw (K := (k_pay P g (xs (i + 1)) (xs (i + 2)))) hI (st_pay hI (xs (i + 1)) (xs (i + 2)))
  have hF := hI.1.1.1
  have hP12 := hI.1.1.2
  have hP : va_P D vwCl (w0 ci cz q0 (sF (k_pay P g (xs (i + 1)) (xs (i + 2))) F F) (sF (k_pay P g (xs (i + 1)) (xs (i + 2))) P P) (sF (k_pay P g (xs (i + 1)) (xs (i + 2))) (gGet g (ix (xs (i + 1))) (xs (i + 2))) g)) H := P_stay hP hkp la.n0
  have hO : va_P D vwCl (wo cj ob f) H := P_stay hO hkp la.no
  refine lv_istore (lv' := [(6, .int (rz (k_pay P g (xs (i + 1)) (xs (i + 2))) (mn (g 4 (ix (xs (i + 1))) + (xs (i + 2)))))), (5, .int (nI (k_pay P g (xs (i + 1)) (xs (i + 2))))), (0, .ref b), (1, .ref (q0 0)), (2, .ref (q1 0)), (3, .ref ob), (4, .int (nI i))]) hx hb dL_law_407 hl (by decide) rfl (fun ls hl => ?_)
  refine lv_aload_n hx hb dL_law_409 rfl (lv_at hl 4 rfl) ?_
  refine r_callR (rest := []) lf.F (m_X1_thrown l (D := D) (ci := ci) (cz := cz) (cj := cj) (q := q1) (F := (sF (k_pay P g (xs (i + 1)) (xs (i + 2))) F F)) (P := (sF (k_pay P g (xs (i + 1)) (xs (i + 2))) P P)) (g := (sF (k_pay P g (xs (i + 1)) (xs (i + 2))) (gGet g (ix (xs (i + 1))) (xs (i + 2))) g)) (th := nI (k_pay P g (xs (i + 1)) (xs (i + 2)))) (he := he) (hn := hn) hF hP12) (cwV 0 lf.F.2.2.2.2 gL_law_X1_thrown rfl rfl rfl (by decide +kernel) ⟨Nat.le_of_ble_eq_true rfl, Nat.le_of_ble_eq_true rfl⟩) BW.bl (va_recv lf.K hM (ci := 1) (q0 := 0) rfl rfl) (lf.b1 la hM hS) rfl hl.1 rfl (Nat.le_of_ble_eq_true rfl) dL_law_410 ⟨hc, hs⟩ ?_
  refine lv_iload hx hb dL_law_413 (lv_at hl 1 rfl) ?_
  refine lv_icmp_eq (tgt := 420) hx hb dL_law_415 (by decide) (fun _ => ?_) (fun h => absurd rfl h)
  refine lv_iload hx hb dL_law_420 (lv_at hl 1 rfl) ?_
  refine lv_if_ne (tgt := 437) hx hb dL_law_422 (by decide) (fun _ => ?_) (fun hk => ?_)
  · refine lv_goto (tgt := 2627) hx hb dL_law_437 (by decide) ?_
    exact kk _ _ _ _ _ _ ⟨hP, ⟨_, _, _, hM⟩, f, hO⟩ hI hS (lv_sub hl [2, 3, 4, 5, 6] rfl)
  · have hK0 : (k_pay P g (xs (i + 1)) (xs (i + 2))) = 0 := nK0 hk3 hk
    refine lv_aload_n hx hb dL_law_425 rfl (lv_at hl 5 rfl) ?_
    refine lv_iconst (v := nI 0) hx hb dL_law_426 (by decide) ?_
    refine r_lald hx hb lf.K rfl hO (hans hK0) dL_law_427 ?_
    refine lv_iload hx hb dL_law_428 (lv_at hl 0 rfl) ?_
    refine lv_i2l hx hb dL_law_430 rfl ?_
    refine r_lcmp hx hb (by rw [rz0 hK0]) dL_law_431 ?_
    refine lv_if_eq (tgt := 437) hx hb dL_law_432 (by decide) (fun _ => ?_) (fun h => absurd rfl h)
    refine lv_goto (tgt := 2627) hx hb dL_law_437 (by decide) ?_
    exact kk _ _ _ _ _ _ ⟨hP, ⟨_, _, _, hM⟩, f, hO⟩ hI hS (lv_sub hl [2, 3, 4, 5, 6] rfl)
theorem c_grant {p : Program} {l : Launch} {s : State} {m : MethodId} {below : List Frame} {meth : Method} {c : Code} {H : Heap} {locs : List Loc} {cells slots : Nat} {Q : State → Prop} {e : Env} {ls : Array Slot} {b L : Nat} {D : va_G} {ci cz cj : ClassId} {q0 q1 : Nat → Nat} {F P : Nat} {g : Nat → Nat → Int32} {ob : Nat} {xs : Nat → Int32} {i : Nat} (lf : LF p m c meth s b L xs D ci cz cj) (la : LA q0 q1 ob s.heap.size) (hl0 : l.stackTraces = false) (hL : L ≤ 3072) (hi : i + 6 ≤ L) (hw : LW D ci cz cj q0 q1 ob F P g H) (hI : Iw F P g) (hS : va_S (big s) s.heap H locs) (hl : lv_has ls 9 [(0, .ref b), (1, .ref (q0 0)), (2, .ref (q1 0)), (3, .ref ob), (4, .int (nI i))]) (hc : cells + 1 ≤ room_1.cells) (hs : slots + 6 ≤ room_1.slots) (kk : ∀ (F P : Nat) (g : Nat → Nat → Int32) (H : Heap) (locs : List Loc) (ls : Array Slot), LW D ci cz cj q0 q1 ob F P g H → Iw F P g → va_S (big s) s.heap H locs → lv_has ls 9 [(0, .ref b), (1, .ref (q0 0)), (2, .ref (q1 0)), (3, .ref ob), (4, .int (nI i))] → W p l e room_1 s m #[.ref b] below meth c H locs (cells + 1) (slots + 6) Q (F0 m 2627 ls [])) : W p l e room_1 s m #[.ref b] below meth c H locs cells slots Q (F0 m 440 ls []) := by
  obtain ⟨hP, ⟨th, he, hn, hM⟩, f, hO⟩ := hw
  have hx := lf.F.1
  have hb := lf.F.2.1
  have hF := hI.1.1.1
  have hP12 := hI.1.1.2
  refine lv_aload_n hx hb dL_law_440 rfl (lv_at hl 1 rfl) ?_
  refine r_arg lf hS (lv_at hl 0 rfl) (lv_at hl 4 rfl) (k := 1) rfl (by omega) hL rfl rfl rfl rfl rfl dL_law_441 dL_law_442 dL_law_444 dL_law_445 dL_law_446 ?_
  refine r_arg lf hS (lv_at hl 0 rfl) (lv_at hl 4 rfl) (k := 2) rfl (by omega) hL rfl rfl rfl rfl rfl dL_law_447 dL_law_448 dL_law_450 dL_law_451 dL_law_452 ?_
  refine r_arg lf hS (lv_at hl 0 rfl) (lv_at hl 4 rfl) (k := 3) rfl (by omega) hL rfl rfl rfl rfl rfl dL_law_453 dL_law_454 dL_law_456 dL_law_457 dL_law_458 ?_
  refine r_arg lf hS (lv_at hl 0 rfl) (lv_at hl 4 rfl) (k := 4) rfl (by omega) hL rfl rfl rfl rfl rfl dL_law_459 dL_law_460 dL_law_462 dL_law_463 dL_law_464 ?_
  refine lv_aload_n hx hb dL_law_465 rfl (lv_at hl 3 rfl) ?_
  have hk3 : (k_grant F P g (xs (i + 1)) (xs (i + 2)) (xs (i + 3)) (xs (i + 4))) ≤ 3 := by unfold k_grant; (repeat' split) <;> decide
  refine r_callLW (As := [.ref (q0 0), .int (xs (i + 1)), .int (xs (i + 2)), .int (xs (i + 3)), .int (xs (i + 4)), .ref ob]) (rest := []) lf.F (m_L_grant l hl0 (D := D) (ci := ci) (cz := cz) (cj := cj) (q := q0) (F := F) (P := P) (g := g) (ob := ob) (f0 := f) la.h9 hF hP12 (xs (i + 1)) (xs (i + 2)) (xs (i + 3)) (xs (i + 4)) ) (vx_cwSW 6 lf.F.2.2.2.2 gL_law_L_grant rfl rfl rfl (by decide +kernel) ⟨Nat.le_of_ble_eq_true rfl, Nat.le_of_ble_eq_true rfl⟩) BL.bl (lf.b0 la hP hO hS) rfl hl.1 rfl (Nat.le_of_ble_eq_true rfl) dL_law_466 ⟨hc, hs⟩ hS la.o0 (fun H locs hQ hS hkp => ?_)
  obtain ⟨hP, f, hO, hans⟩ := hQ
  have hM : va_P D vwCl (w1 ci cz q1 th F P g he hn) H := P_stay hM hkp la.n1
  refine lv_istore (lv' := [(5, .int (nI (k_grant F P g (xs (i + 1)) (xs (i + 2)) (xs (i + 3)) (xs (i + 4))))), (0, .ref b), (1, .ref (q0 0)), (2, .ref (q1 0)), (3, .ref ob), (4, .int (nI i))]) hx hb dL_law_469 hl (by decide) rfl (fun ls hl => ?_)
  refine lv_aload_n hx hb dL_law_471 rfl (lv_at hl 3 rfl) ?_
  refine r_arg lf hS (lv_at hl 1 rfl) (lv_at hl 5 rfl) (k := 1) rfl (by omega) hL rfl rfl rfl rfl rfl dL_law_472 dL_law_473 dL_law_475 dL_law_476 dL_law_477 ?_
  refine r_arg lf hS (lv_at hl 1 rfl) (lv_at hl 5 rfl) (k := 2) rfl (by omega) hL rfl rfl rfl rfl rfl dL_law_478 dL_law_479 dL_law_481 dL_law_482 dL_law_483 ?_
  refine r_arg lf hS (lv_at hl 1 rfl) (lv_at hl 5 rfl) (k := 3) rfl (by omega) hL rfl rfl rfl rfl rfl dL_law_484 dL_law_485 dL_law_487 dL_law_488 dL_law_489 ?_
  refine r_arg lf hS (lv_at hl 1 rfl) (lv_at hl 5 rfl) (k := 4) rfl (by omega) hL rfl rfl rfl rfl rfl dL_law_490 dL_law_491 dL_law_493 dL_law_494 dL_law_495 ?_
  refine r_callW (rest := []) lf.F (m_X1_grant l (D := D) (ci := ci) (cz := cz) (cj := cj) (q := q1) (F := F) (P := P) (g := g) (th := th) (he := he) (hn := hn) la.h1 hF hP12 (xs (i + 1)) (xs (i + 2)) (xs (i + 3)) (xs (i + 4)) hI.1) (cwV 4 lf.F.2.2.2.2 gL_law_X1_grant rfl rfl rfl (by decide +kernel) ⟨Nat.le_of_ble_eq_true rfl, Nat.le_of_ble_eq_true rfl⟩) BW.bl (va_recv lf.K hM (ci := 1) (q0 := 0) rfl rfl) (lf.b1 la hM hS) rfl hl.1 rfl (Nat.le_of_ble_eq_true rfl) dL_law_496 ⟨hc, hs⟩ hS la.o1 (fun H locs hM hS _ hkp => ?_)
  obtain ⟨he, hn, hM⟩ := hM
  have hI := sF_iw (K := (k_grant F P g (xs (i + 1)) (xs (i + 2)) (xs (i + 3)) (xs (i + 4)))) hI (st_grant hI (xs (i + 1)) (xs (i + 2)) (xs (i + 3)) (xs (i + 4)))
  have hF := hI.1.1.1
  have hP12 := hI.1.1.2
  have hP : va_P D vwCl (w0 ci cz q0 (sF (k_grant F P g (xs (i + 1)) (xs (i + 2)) (xs (i + 3)) (xs (i + 4))) F F) (sF (k_grant F P g (xs (i + 1)) (xs (i + 2)) (xs (i + 3)) (xs (i + 4))) P P) (sF (k_grant F P g (xs (i + 1)) (xs (i + 2)) (xs (i + 3)) (xs (i + 4))) (gAdd g (ix (xs (i + 1))) (ix (xs (i + 2))) (ix (xs (i + 3))) (xs (i + 4))) g)) H := P_stay hP hkp la.n0
  have hO : va_P D vwCl (wo cj ob f) H := P_stay hO hkp la.no
  refine lv_istore (lv' := [(6, .int (rz (k_grant F P g (xs (i + 1)) (xs (i + 2)) (xs (i + 3)) (xs (i + 4))) (sCro (gAdd g (ix (xs (i + 1))) (ix (xs (i + 2))) (ix (xs (i + 3))) (xs (i + 4))) P (ix (xs (i + 1))) (ix (xs (i + 2)))))), (5, .int (nI (k_grant F P g (xs (i + 1)) (xs (i + 2)) (xs (i + 3)) (xs (i + 4))))), (0, .ref b), (1, .ref (q0 0)), (2, .ref (q1 0)), (3, .ref ob), (4, .int (nI i))]) hx hb dL_law_499 hl (by decide) rfl (fun ls hl => ?_)
  refine lv_aload_n hx hb dL_law_501 rfl (lv_at hl 4 rfl) ?_
  refine r_callR (rest := []) lf.F (m_X1_thrown l (D := D) (ci := ci) (cz := cz) (cj := cj) (q := q1) (F := (sF (k_grant F P g (xs (i + 1)) (xs (i + 2)) (xs (i + 3)) (xs (i + 4))) F F)) (P := (sF (k_grant F P g (xs (i + 1)) (xs (i + 2)) (xs (i + 3)) (xs (i + 4))) P P)) (g := (sF (k_grant F P g (xs (i + 1)) (xs (i + 2)) (xs (i + 3)) (xs (i + 4))) (gAdd g (ix (xs (i + 1))) (ix (xs (i + 2))) (ix (xs (i + 3))) (xs (i + 4))) g)) (th := nI (k_grant F P g (xs (i + 1)) (xs (i + 2)) (xs (i + 3)) (xs (i + 4)))) (he := he) (hn := hn) hF hP12) (cwV 0 lf.F.2.2.2.2 gL_law_X1_thrown rfl rfl rfl (by decide +kernel) ⟨Nat.le_of_ble_eq_true rfl, Nat.le_of_ble_eq_true rfl⟩) BW.bl (va_recv lf.K hM (ci := 1) (q0 := 0) rfl rfl) (lf.b1 la hM hS) rfl hl.1 rfl (Nat.le_of_ble_eq_true rfl) dL_law_502 ⟨hc, hs⟩ ?_
  refine lv_iload hx hb dL_law_505 (lv_at hl 1 rfl) ?_
  refine lv_icmp_eq (tgt := 512) hx hb dL_law_507 (by decide) (fun _ => ?_) (fun h => absurd rfl h)
  refine lv_iload hx hb dL_law_512 (lv_at hl 1 rfl) ?_
  refine lv_if_ne (tgt := 529) hx hb dL_law_514 (by decide) (fun _ => ?_) (fun hk => ?_)
  · refine lv_goto (tgt := 2627) hx hb dL_law_529 (by decide) ?_
    exact kk _ _ _ _ _ _ ⟨hP, ⟨_, _, _, hM⟩, f, hO⟩ hI hS (lv_sub hl [2, 3, 4, 5, 6] rfl)
  · have hK0 : (k_grant F P g (xs (i + 1)) (xs (i + 2)) (xs (i + 3)) (xs (i + 4))) = 0 := nK0 hk3 hk
    refine lv_aload_n hx hb dL_law_517 rfl (lv_at hl 5 rfl) ?_
    refine lv_iconst (v := nI 0) hx hb dL_law_518 (by decide) ?_
    refine r_lald hx hb lf.K rfl hO (hans hK0) dL_law_519 ?_
    refine lv_iload hx hb dL_law_520 (lv_at hl 0 rfl) ?_
    refine lv_i2l hx hb dL_law_522 rfl ?_
    refine r_lcmp hx hb (by rw [rz0 hK0]) dL_law_523 ?_
    refine lv_if_eq (tgt := 529) hx hb dL_law_524 (by decide) (fun _ => ?_) (fun h => absurd rfl h)
    refine lv_goto (tgt := 2627) hx hb dL_law_529 (by decide) ?_
    exact kk _ _ _ _ _ _ ⟨hP, ⟨_, _, _, hM⟩, f, hO⟩ hI hS (lv_sub hl [2, 3, 4, 5, 6] rfl)
theorem c_give {p : Program} {l : Launch} {s : State} {m : MethodId} {below : List Frame} {meth : Method} {c : Code} {H : Heap} {locs : List Loc} {cells slots : Nat} {Q : State → Prop} {e : Env} {ls : Array Slot} {b L : Nat} {D : va_G} {ci cz cj : ClassId} {q0 q1 : Nat → Nat} {F P : Nat} {g : Nat → Nat → Int32} {ob : Nat} {xs : Nat → Int32} {i : Nat} (lf : LF p m c meth s b L xs D ci cz cj) (la : LA q0 q1 ob s.heap.size) (hl0 : l.stackTraces = false) (hL : L ≤ 3072) (hi : i + 6 ≤ L) (hw : LW D ci cz cj q0 q1 ob F P g H) (hI : Iw F P g) (hS : va_S (big s) s.heap H locs) (hl : lv_has ls 9 [(0, .ref b), (1, .ref (q0 0)), (2, .ref (q1 0)), (3, .ref ob), (4, .int (nI i))]) (hc : cells + 1 ≤ room_1.cells) (hs : slots + 6 ≤ room_1.slots) (kk : ∀ (F P : Nat) (g : Nat → Nat → Int32) (H : Heap) (locs : List Loc) (ls : Array Slot), LW D ci cz cj q0 q1 ob F P g H → Iw F P g → va_S (big s) s.heap H locs → lv_has ls 9 [(0, .ref b), (1, .ref (q0 0)), (2, .ref (q1 0)), (3, .ref ob), (4, .int (nI i))] → W p l e room_1 s m #[.ref b] below meth c H locs (cells + 1) (slots + 6) Q (F0 m 2627 ls [])) : W p l e room_1 s m #[.ref b] below meth c H locs cells slots Q (F0 m 532 ls []) := by
  obtain ⟨hP, ⟨th, he, hn, hM⟩, f, hO⟩ := hw
  have hx := lf.F.1
  have hb := lf.F.2.1
  have hF := hI.1.1.1
  have hP12 := hI.1.1.2
  refine lv_aload_n hx hb dL_law_532 rfl (lv_at hl 1 rfl) ?_
  refine r_arg lf hS (lv_at hl 0 rfl) (lv_at hl 4 rfl) (k := 1) rfl (by omega) hL rfl rfl rfl rfl rfl dL_law_533 dL_law_534 dL_law_536 dL_law_537 dL_law_538 ?_
  refine r_arg lf hS (lv_at hl 0 rfl) (lv_at hl 4 rfl) (k := 2) rfl (by omega) hL rfl rfl rfl rfl rfl dL_law_539 dL_law_540 dL_law_542 dL_law_543 dL_law_544 ?_
  refine r_arg lf hS (lv_at hl 0 rfl) (lv_at hl 4 rfl) (k := 3) rfl (by omega) hL rfl rfl rfl rfl rfl dL_law_545 dL_law_546 dL_law_548 dL_law_549 dL_law_550 ?_
  refine r_arg lf hS (lv_at hl 0 rfl) (lv_at hl 4 rfl) (k := 4) rfl (by omega) hL rfl rfl rfl rfl rfl dL_law_551 dL_law_552 dL_law_554 dL_law_555 dL_law_556 ?_
  refine r_arg lf hS (lv_at hl 0 rfl) (lv_at hl 4 rfl) (k := 5) rfl (by omega) hL rfl rfl rfl rfl rfl dL_law_557 dL_law_558 dL_law_560 dL_law_561 dL_law_562 ?_
  refine lv_aload_n hx hb dL_law_563 rfl (lv_at hl 3 rfl) ?_
  have hk3 : (k_give F P g (xs (i + 1)) (xs (i + 2)) (xs (i + 3)) (xs (i + 4)) (xs (i + 5))) ≤ 3 := by unfold k_give; (repeat' split) <;> decide
  refine r_callLW (As := [.ref (q0 0), .int (xs (i + 1)), .int (xs (i + 2)), .int (xs (i + 3)), .int (xs (i + 4)), .int (xs (i + 5)), .ref ob]) (rest := []) lf.F (m_L_give l hl0 (D := D) (ci := ci) (cz := cz) (cj := cj) (q := q0) (F := F) (P := P) (g := g) (ob := ob) (f0 := f) la.h9 hF hP12 (xs (i + 1)) (xs (i + 2)) (xs (i + 3)) (xs (i + 4)) (xs (i + 5)) ) (vx_cwSW 7 lf.F.2.2.2.2 gL_law_L_give rfl rfl rfl (by decide +kernel) ⟨Nat.le_of_ble_eq_true rfl, Nat.le_of_ble_eq_true rfl⟩) BL.bl (lf.b0 la hP hO hS) rfl hl.1 rfl (Nat.le_of_ble_eq_true rfl) dL_law_564 ⟨hc, hs⟩ hS la.o0 (fun H locs hQ hS hkp => ?_)
  obtain ⟨hP, f, hO, hans⟩ := hQ
  have hM : va_P D vwCl (w1 ci cz q1 th F P g he hn) H := P_stay hM hkp la.n1
  refine lv_istore (lv' := [(5, .int (nI (k_give F P g (xs (i + 1)) (xs (i + 2)) (xs (i + 3)) (xs (i + 4)) (xs (i + 5))))), (0, .ref b), (1, .ref (q0 0)), (2, .ref (q1 0)), (3, .ref ob), (4, .int (nI i))]) hx hb dL_law_567 hl (by decide) rfl (fun ls hl => ?_)
  refine lv_aload_n hx hb dL_law_569 rfl (lv_at hl 3 rfl) ?_
  refine r_arg lf hS (lv_at hl 1 rfl) (lv_at hl 5 rfl) (k := 1) rfl (by omega) hL rfl rfl rfl rfl rfl dL_law_570 dL_law_571 dL_law_573 dL_law_574 dL_law_575 ?_
  refine r_arg lf hS (lv_at hl 1 rfl) (lv_at hl 5 rfl) (k := 2) rfl (by omega) hL rfl rfl rfl rfl rfl dL_law_576 dL_law_577 dL_law_579 dL_law_580 dL_law_581 ?_
  refine r_arg lf hS (lv_at hl 1 rfl) (lv_at hl 5 rfl) (k := 3) rfl (by omega) hL rfl rfl rfl rfl rfl dL_law_582 dL_law_583 dL_law_585 dL_law_586 dL_law_587 ?_
  refine r_arg lf hS (lv_at hl 1 rfl) (lv_at hl 5 rfl) (k := 4) rfl (by omega) hL rfl rfl rfl rfl rfl dL_law_588 dL_law_589 dL_law_591 dL_law_592 dL_law_593 ?_
  refine r_arg lf hS (lv_at hl 1 rfl) (lv_at hl 5 rfl) (k := 5) rfl (by omega) hL rfl rfl rfl rfl rfl dL_law_594 dL_law_595 dL_law_597 dL_law_598 dL_law_599 ?_
  refine r_callW (rest := []) lf.F (m_X1_give l (D := D) (ci := ci) (cz := cz) (cj := cj) (q := q1) (F := F) (P := P) (g := g) (th := th) (he := he) (hn := hn) la.h1 hF hP12 (xs (i + 1)) (xs (i + 2)) (xs (i + 3)) (xs (i + 4)) (xs (i + 5)) hI.1) (cwV 5 lf.F.2.2.2.2 gL_law_X1_give rfl rfl rfl (by decide +kernel) ⟨Nat.le_of_ble_eq_true rfl, Nat.le_of_ble_eq_true rfl⟩) BW.bl (va_recv lf.K hM (ci := 1) (q0 := 0) rfl rfl) (lf.b1 la hM hS) rfl hl.1 rfl (Nat.le_of_ble_eq_true rfl) dL_law_600 ⟨hc, hs⟩ hS la.o1 (fun H locs hM hS _ hkp => ?_)
  obtain ⟨he, hn, hM⟩ := hM
  have hI := sF_iw (K := (k_give F P g (xs (i + 1)) (xs (i + 2)) (xs (i + 3)) (xs (i + 4)) (xs (i + 5)))) hI (st_give hI (xs (i + 1)) (xs (i + 2)) (xs (i + 3)) (xs (i + 4)) (xs (i + 5)))
  have hF := hI.1.1.1
  have hP12 := hI.1.1.2
  have hP : va_P D vwCl (w0 ci cz q0 (sF (k_give F P g (xs (i + 1)) (xs (i + 2)) (xs (i + 3)) (xs (i + 4)) (xs (i + 5))) F F) (sF (k_give F P g (xs (i + 1)) (xs (i + 2)) (xs (i + 3)) (xs (i + 4)) (xs (i + 5))) P P) (sF (k_give F P g (xs (i + 1)) (xs (i + 2)) (xs (i + 3)) (xs (i + 4)) (xs (i + 5))) (gGiv g (ix (xs (i + 1))) (ix (xs (i + 2))) (ix (xs (i + 3))) (ix (xs (i + 4))) (xs (i + 5))) g)) H := P_stay hP hkp la.n0
  have hO : va_P D vwCl (wo cj ob f) H := P_stay hO hkp la.no
  refine lv_istore (lv' := [(6, .int (rz (k_give F P g (xs (i + 1)) (xs (i + 2)) (xs (i + 3)) (xs (i + 4)) (xs (i + 5))) (own (gGiv g (ix (xs (i + 1))) (ix (xs (i + 2))) (ix (xs (i + 3))) (ix (xs (i + 4))) (xs (i + 5))) (ix (xs (i + 3))) (ix (xs (i + 4))) (ix (xs (i + 2)))))), (5, .int (nI (k_give F P g (xs (i + 1)) (xs (i + 2)) (xs (i + 3)) (xs (i + 4)) (xs (i + 5))))), (0, .ref b), (1, .ref (q0 0)), (2, .ref (q1 0)), (3, .ref ob), (4, .int (nI i))]) hx hb dL_law_603 hl (by decide) rfl (fun ls hl => ?_)
  refine lv_aload_n hx hb dL_law_605 rfl (lv_at hl 4 rfl) ?_
  refine r_callR (rest := []) lf.F (m_X1_thrown l (D := D) (ci := ci) (cz := cz) (cj := cj) (q := q1) (F := (sF (k_give F P g (xs (i + 1)) (xs (i + 2)) (xs (i + 3)) (xs (i + 4)) (xs (i + 5))) F F)) (P := (sF (k_give F P g (xs (i + 1)) (xs (i + 2)) (xs (i + 3)) (xs (i + 4)) (xs (i + 5))) P P)) (g := (sF (k_give F P g (xs (i + 1)) (xs (i + 2)) (xs (i + 3)) (xs (i + 4)) (xs (i + 5))) (gGiv g (ix (xs (i + 1))) (ix (xs (i + 2))) (ix (xs (i + 3))) (ix (xs (i + 4))) (xs (i + 5))) g)) (th := nI (k_give F P g (xs (i + 1)) (xs (i + 2)) (xs (i + 3)) (xs (i + 4)) (xs (i + 5)))) (he := he) (hn := hn) hF hP12) (cwV 0 lf.F.2.2.2.2 gL_law_X1_thrown rfl rfl rfl (by decide +kernel) ⟨Nat.le_of_ble_eq_true rfl, Nat.le_of_ble_eq_true rfl⟩) BW.bl (va_recv lf.K hM (ci := 1) (q0 := 0) rfl rfl) (lf.b1 la hM hS) rfl hl.1 rfl (Nat.le_of_ble_eq_true rfl) dL_law_606 ⟨hc, hs⟩ ?_
  refine lv_iload hx hb dL_law_609 (lv_at hl 1 rfl) ?_
  refine lv_icmp_eq (tgt := 616) hx hb dL_law_611 (by decide) (fun _ => ?_) (fun h => absurd rfl h)
  refine lv_iload hx hb dL_law_616 (lv_at hl 1 rfl) ?_
  refine lv_if_ne (tgt := 633) hx hb dL_law_618 (by decide) (fun _ => ?_) (fun hk => ?_)
  · refine lv_goto (tgt := 2627) hx hb dL_law_633 (by decide) ?_
    exact kk _ _ _ _ _ _ ⟨hP, ⟨_, _, _, hM⟩, f, hO⟩ hI hS (lv_sub hl [2, 3, 4, 5, 6] rfl)
  · have hK0 : (k_give F P g (xs (i + 1)) (xs (i + 2)) (xs (i + 3)) (xs (i + 4)) (xs (i + 5))) = 0 := nK0 hk3 hk
    refine lv_aload_n hx hb dL_law_621 rfl (lv_at hl 5 rfl) ?_
    refine lv_iconst (v := nI 0) hx hb dL_law_622 (by decide) ?_
    refine r_lald hx hb lf.K rfl hO (hans hK0) dL_law_623 ?_
    refine lv_iload hx hb dL_law_624 (lv_at hl 0 rfl) ?_
    refine lv_i2l hx hb dL_law_626 rfl ?_
    refine r_lcmp hx hb (by rw [rz0 hK0]) dL_law_627 ?_
    refine lv_if_eq (tgt := 633) hx hb dL_law_628 (by decide) (fun _ => ?_) (fun h => absurd rfl h)
    refine lv_goto (tgt := 2627) hx hb dL_law_633 (by decide) ?_
    exact kk _ _ _ _ _ _ ⟨hP, ⟨_, _, _, hM⟩, f, hO⟩ hI hS (lv_sub hl [2, 3, 4, 5, 6] rfl)
theorem c_buy {p : Program} {l : Launch} {s : State} {m : MethodId} {below : List Frame} {meth : Method} {c : Code} {H : Heap} {locs : List Loc} {cells slots : Nat} {Q : State → Prop} {e : Env} {ls : Array Slot} {b L : Nat} {D : va_G} {ci cz cj : ClassId} {q0 q1 : Nat → Nat} {F P : Nat} {g : Nat → Nat → Int32} {ob : Nat} {xs : Nat → Int32} {i : Nat} (lf : LF p m c meth s b L xs D ci cz cj) (la : LA q0 q1 ob s.heap.size) (hl0 : l.stackTraces = false) (hL : L ≤ 3072) (hi : i + 6 ≤ L) (hw : LW D ci cz cj q0 q1 ob F P g H) (hI : Iw F P g) (hS : va_S (big s) s.heap H locs) (hl : lv_has ls 9 [(0, .ref b), (1, .ref (q0 0)), (2, .ref (q1 0)), (3, .ref ob), (4, .int (nI i))]) (hc : cells + 1 ≤ room_1.cells) (hs : slots + 6 ≤ room_1.slots) (kk : ∀ (F P : Nat) (g : Nat → Nat → Int32) (H : Heap) (locs : List Loc) (ls : Array Slot), LW D ci cz cj q0 q1 ob F P g H → Iw F P g → va_S (big s) s.heap H locs → lv_has ls 9 [(0, .ref b), (1, .ref (q0 0)), (2, .ref (q1 0)), (3, .ref ob), (4, .int (nI i))] → W p l e room_1 s m #[.ref b] below meth c H locs (cells + 1) (slots + 6) Q (F0 m 2627 ls [])) : W p l e room_1 s m #[.ref b] below meth c H locs cells slots Q (F0 m 636 ls []) := by
  obtain ⟨hP, ⟨th, he, hn, hM⟩, f, hO⟩ := hw
  have hx := lf.F.1
  have hb := lf.F.2.1
  have hF := hI.1.1.1
  have hP12 := hI.1.1.2
  refine lv_aload_n hx hb dL_law_636 rfl (lv_at hl 1 rfl) ?_
  refine r_arg lf hS (lv_at hl 0 rfl) (lv_at hl 4 rfl) (k := 1) rfl (by omega) hL rfl rfl rfl rfl rfl dL_law_637 dL_law_638 dL_law_640 dL_law_641 dL_law_642 ?_
  refine r_arg lf hS (lv_at hl 0 rfl) (lv_at hl 4 rfl) (k := 2) rfl (by omega) hL rfl rfl rfl rfl rfl dL_law_643 dL_law_644 dL_law_646 dL_law_647 dL_law_648 ?_
  refine r_arg lf hS (lv_at hl 0 rfl) (lv_at hl 4 rfl) (k := 3) rfl (by omega) hL rfl rfl rfl rfl rfl dL_law_649 dL_law_650 dL_law_652 dL_law_653 dL_law_654 ?_
  refine r_arg lf hS (lv_at hl 0 rfl) (lv_at hl 4 rfl) (k := 4) rfl (by omega) hL rfl rfl rfl rfl rfl dL_law_655 dL_law_656 dL_law_658 dL_law_659 dL_law_660 ?_
  refine lv_aload_n hx hb dL_law_661 rfl (lv_at hl 3 rfl) ?_
  have hk3 : (k_buy F P g (xs (i + 1)) (xs (i + 2)) (xs (i + 3)) (xs (i + 4))) ≤ 3 := by unfold k_buy; (repeat' split) <;> decide
  refine r_callLW (As := [.ref (q0 0), .int (xs (i + 1)), .int (xs (i + 2)), .int (xs (i + 3)), .int (xs (i + 4)), .ref ob]) (rest := []) lf.F (m_L_buy l hl0 (D := D) (ci := ci) (cz := cz) (cj := cj) (q := q0) (F := F) (P := P) (g := g) (ob := ob) (f0 := f) la.h9 hF hP12 (xs (i + 1)) (xs (i + 2)) (xs (i + 3)) (xs (i + 4)) ) (vx_cwSW 6 lf.F.2.2.2.2 gL_law_L_buy rfl rfl rfl (by decide +kernel) ⟨Nat.le_of_ble_eq_true rfl, Nat.le_of_ble_eq_true rfl⟩) BL.bl (lf.b0 la hP hO hS) rfl hl.1 rfl (Nat.le_of_ble_eq_true rfl) dL_law_662 ⟨hc, hs⟩ hS la.o0 (fun H locs hQ hS hkp => ?_)
  obtain ⟨hP, f, hO, hans⟩ := hQ
  have hM : va_P D vwCl (w1 ci cz q1 th F P g he hn) H := P_stay hM hkp la.n1
  refine lv_istore (lv' := [(5, .int (nI (k_buy F P g (xs (i + 1)) (xs (i + 2)) (xs (i + 3)) (xs (i + 4))))), (0, .ref b), (1, .ref (q0 0)), (2, .ref (q1 0)), (3, .ref ob), (4, .int (nI i))]) hx hb dL_law_665 hl (by decide) rfl (fun ls hl => ?_)
  refine lv_aload_n hx hb dL_law_667 rfl (lv_at hl 3 rfl) ?_
  refine r_arg lf hS (lv_at hl 1 rfl) (lv_at hl 5 rfl) (k := 1) rfl (by omega) hL rfl rfl rfl rfl rfl dL_law_668 dL_law_669 dL_law_671 dL_law_672 dL_law_673 ?_
  refine r_arg lf hS (lv_at hl 1 rfl) (lv_at hl 5 rfl) (k := 2) rfl (by omega) hL rfl rfl rfl rfl rfl dL_law_674 dL_law_675 dL_law_677 dL_law_678 dL_law_679 ?_
  refine r_arg lf hS (lv_at hl 1 rfl) (lv_at hl 5 rfl) (k := 3) rfl (by omega) hL rfl rfl rfl rfl rfl dL_law_680 dL_law_681 dL_law_683 dL_law_684 dL_law_685 ?_
  refine r_arg lf hS (lv_at hl 1 rfl) (lv_at hl 5 rfl) (k := 4) rfl (by omega) hL rfl rfl rfl rfl rfl dL_law_686 dL_law_687 dL_law_689 dL_law_690 dL_law_691 ?_
  refine r_callW (rest := []) lf.F (m_X1_buy l (D := D) (ci := ci) (cz := cz) (cj := cj) (q := q1) (F := F) (P := P) (g := g) (th := th) (he := he) (hn := hn) la.h1 hF hP12 (xs (i + 1)) (xs (i + 2)) (xs (i + 3)) (xs (i + 4)) hI.1) (cwV 4 lf.F.2.2.2.2 gL_law_X1_buy rfl rfl rfl (by decide +kernel) ⟨Nat.le_of_ble_eq_true rfl, Nat.le_of_ble_eq_true rfl⟩) BW.bl (va_recv lf.K hM (ci := 1) (q0 := 0) rfl rfl) (lf.b1 la hM hS) rfl hl.1 rfl (Nat.le_of_ble_eq_true rfl) dL_law_692 ⟨hc, hs⟩ hS la.o1 (fun H locs hM hS _ hkp => ?_)
  obtain ⟨he, hn, hM⟩ := hM
  have hI := sF_iw (K := (k_buy F P g (xs (i + 1)) (xs (i + 2)) (xs (i + 3)) (xs (i + 4)))) hI (st_buy hI (xs (i + 1)) (xs (i + 2)) (xs (i + 3)) (xs (i + 4)))
  have hF := hI.1.1.1
  have hP12 := hI.1.1.2
  have hP : va_P D vwCl (w0 ci cz q0 (sF (k_buy F P g (xs (i + 1)) (xs (i + 2)) (xs (i + 3)) (xs (i + 4))) F F) (sF (k_buy F P g (xs (i + 1)) (xs (i + 2)) (xs (i + 3)) (xs (i + 4))) P P) (sF (k_buy F P g (xs (i + 1)) (xs (i + 2)) (xs (i + 3)) (xs (i + 4))) (gBuy g (ix (xs (i + 1))) (ix (xs (i + 2))) (ix (xs (i + 3))) (ix (xs (i + 4)))) g)) H := P_stay hP hkp la.n0
  have hO : va_P D vwCl (wo cj ob f) H := P_stay hO hkp la.no
  refine lv_istore (lv' := [(6, .int (rz (k_buy F P g (xs (i + 1)) (xs (i + 2)) (xs (i + 3)) (xs (i + 4))) (sPri g (ix (xs (i + 3))) (ix (xs (i + 4))) (ix (xs (i + 2)))))), (5, .int (nI (k_buy F P g (xs (i + 1)) (xs (i + 2)) (xs (i + 3)) (xs (i + 4))))), (0, .ref b), (1, .ref (q0 0)), (2, .ref (q1 0)), (3, .ref ob), (4, .int (nI i))]) hx hb dL_law_695 hl (by decide) rfl (fun ls hl => ?_)
  refine lv_aload_n hx hb dL_law_697 rfl (lv_at hl 4 rfl) ?_
  refine r_callR (rest := []) lf.F (m_X1_thrown l (D := D) (ci := ci) (cz := cz) (cj := cj) (q := q1) (F := (sF (k_buy F P g (xs (i + 1)) (xs (i + 2)) (xs (i + 3)) (xs (i + 4))) F F)) (P := (sF (k_buy F P g (xs (i + 1)) (xs (i + 2)) (xs (i + 3)) (xs (i + 4))) P P)) (g := (sF (k_buy F P g (xs (i + 1)) (xs (i + 2)) (xs (i + 3)) (xs (i + 4))) (gBuy g (ix (xs (i + 1))) (ix (xs (i + 2))) (ix (xs (i + 3))) (ix (xs (i + 4)))) g)) (th := nI (k_buy F P g (xs (i + 1)) (xs (i + 2)) (xs (i + 3)) (xs (i + 4)))) (he := he) (hn := hn) hF hP12) (cwV 0 lf.F.2.2.2.2 gL_law_X1_thrown rfl rfl rfl (by decide +kernel) ⟨Nat.le_of_ble_eq_true rfl, Nat.le_of_ble_eq_true rfl⟩) BW.bl (va_recv lf.K hM (ci := 1) (q0 := 0) rfl rfl) (lf.b1 la hM hS) rfl hl.1 rfl (Nat.le_of_ble_eq_true rfl) dL_law_698 ⟨hc, hs⟩ ?_
  refine lv_iload hx hb dL_law_701 (lv_at hl 1 rfl) ?_
  refine lv_icmp_eq (tgt := 708) hx hb dL_law_703 (by decide) (fun _ => ?_) (fun h => absurd rfl h)
  refine lv_iload hx hb dL_law_708 (lv_at hl 1 rfl) ?_
  refine lv_if_ne (tgt := 725) hx hb dL_law_710 (by decide) (fun _ => ?_) (fun hk => ?_)
  · refine lv_goto (tgt := 2627) hx hb dL_law_725 (by decide) ?_
    exact kk _ _ _ _ _ _ ⟨hP, ⟨_, _, _, hM⟩, f, hO⟩ hI hS (lv_sub hl [2, 3, 4, 5, 6] rfl)
  · have hK0 : (k_buy F P g (xs (i + 1)) (xs (i + 2)) (xs (i + 3)) (xs (i + 4))) = 0 := nK0 hk3 hk
    refine lv_aload_n hx hb dL_law_713 rfl (lv_at hl 5 rfl) ?_
    refine lv_iconst (v := nI 0) hx hb dL_law_714 (by decide) ?_
    refine r_lald hx hb lf.K rfl hO (hans hK0) dL_law_715 ?_
    refine lv_iload hx hb dL_law_716 (lv_at hl 0 rfl) ?_
    refine lv_i2l hx hb dL_law_718 rfl ?_
    refine r_lcmp hx hb (by rw [rz0 hK0]) dL_law_719 ?_
    refine lv_if_eq (tgt := 725) hx hb dL_law_720 (by decide) (fun _ => ?_) (fun h => absurd rfl h)
    refine lv_goto (tgt := 2627) hx hb dL_law_725 (by decide) ?_
    exact kk _ _ _ _ _ _ ⟨hP, ⟨_, _, _, hM⟩, f, hO⟩ hI hS (lv_sub hl [2, 3, 4, 5, 6] rfl)
theorem c_setToll {p : Program} {l : Launch} {s : State} {m : MethodId} {below : List Frame} {meth : Method} {c : Code} {H : Heap} {locs : List Loc} {cells slots : Nat} {Q : State → Prop} {e : Env} {ls : Array Slot} {b L : Nat} {D : va_G} {ci cz cj : ClassId} {q0 q1 : Nat → Nat} {F P : Nat} {g : Nat → Nat → Int32} {ob : Nat} {xs : Nat → Int32} {i : Nat} (lf : LF p m c meth s b L xs D ci cz cj) (la : LA q0 q1 ob s.heap.size) (hl0 : l.stackTraces = false) (hL : L ≤ 3072) (hi : i + 6 ≤ L) (hw : LW D ci cz cj q0 q1 ob F P g H) (hI : Iw F P g) (hS : va_S (big s) s.heap H locs) (hl : lv_has ls 9 [(0, .ref b), (1, .ref (q0 0)), (2, .ref (q1 0)), (3, .ref ob), (4, .int (nI i))]) (hc : cells + 1 ≤ room_1.cells) (hs : slots + 6 ≤ room_1.slots) (kk : ∀ (F P : Nat) (g : Nat → Nat → Int32) (H : Heap) (locs : List Loc) (ls : Array Slot), LW D ci cz cj q0 q1 ob F P g H → Iw F P g → va_S (big s) s.heap H locs → lv_has ls 9 [(0, .ref b), (1, .ref (q0 0)), (2, .ref (q1 0)), (3, .ref ob), (4, .int (nI i))] → W p l e room_1 s m #[.ref b] below meth c H locs (cells + 1) (slots + 6) Q (F0 m 2627 ls [])) : W p l e room_1 s m #[.ref b] below meth c H locs cells slots Q (F0 m 728 ls []) := by
  obtain ⟨hP, ⟨th, he, hn, hM⟩, f, hO⟩ := hw
  have hx := lf.F.1
  have hb := lf.F.2.1
  have hF := hI.1.1.1
  have hP12 := hI.1.1.2
  refine lv_aload_n hx hb dL_law_728 rfl (lv_at hl 1 rfl) ?_
  refine r_arg lf hS (lv_at hl 0 rfl) (lv_at hl 4 rfl) (k := 1) rfl (by omega) hL rfl rfl rfl rfl rfl dL_law_729 dL_law_730 dL_law_732 dL_law_733 dL_law_734 ?_
  refine r_arg lf hS (lv_at hl 0 rfl) (lv_at hl 4 rfl) (k := 2) rfl (by omega) hL rfl rfl rfl rfl rfl dL_law_735 dL_law_736 dL_law_738 dL_law_739 dL_law_740 ?_
  refine r_arg lf hS (lv_at hl 0 rfl) (lv_at hl 4 rfl) (k := 3) rfl (by omega) hL rfl rfl rfl rfl rfl dL_law_741 dL_law_742 dL_law_744 dL_law_745 dL_law_746 ?_
  refine lv_aload_n hx hb dL_law_747 rfl (lv_at hl 3 rfl) ?_
  have hk3 : (k_setToll F P g (xs (i + 1)) (xs (i + 2)) (xs (i + 3))) ≤ 3 := by unfold k_setToll; (repeat' split) <;> decide
  refine r_callLW (As := [.ref (q0 0), .int (xs (i + 1)), .int (xs (i + 2)), .int (xs (i + 3)), .ref ob]) (rest := []) lf.F (m_L_setToll l hl0 (D := D) (ci := ci) (cz := cz) (cj := cj) (q := q0) (F := F) (P := P) (g := g) (ob := ob) (f0 := f) la.h9 hF hP12 (xs (i + 1)) (xs (i + 2)) (xs (i + 3)) ) (vx_cwSW 5 lf.F.2.2.2.2 gL_law_L_setToll rfl rfl rfl (by decide +kernel) ⟨Nat.le_of_ble_eq_true rfl, Nat.le_of_ble_eq_true rfl⟩) BL.bl (lf.b0 la hP hO hS) rfl hl.1 rfl (Nat.le_of_ble_eq_true rfl) dL_law_748 ⟨hc, hs⟩ hS la.o0 (fun H locs hQ hS hkp => ?_)
  obtain ⟨hP, f, hO, hans⟩ := hQ
  have hM : va_P D vwCl (w1 ci cz q1 th F P g he hn) H := P_stay hM hkp la.n1
  refine lv_istore (lv' := [(5, .int (nI (k_setToll F P g (xs (i + 1)) (xs (i + 2)) (xs (i + 3))))), (0, .ref b), (1, .ref (q0 0)), (2, .ref (q1 0)), (3, .ref ob), (4, .int (nI i))]) hx hb dL_law_751 hl (by decide) rfl (fun ls hl => ?_)
  refine lv_aload_n hx hb dL_law_753 rfl (lv_at hl 3 rfl) ?_
  refine r_arg lf hS (lv_at hl 1 rfl) (lv_at hl 5 rfl) (k := 1) rfl (by omega) hL rfl rfl rfl rfl rfl dL_law_754 dL_law_755 dL_law_757 dL_law_758 dL_law_759 ?_
  refine r_arg lf hS (lv_at hl 1 rfl) (lv_at hl 5 rfl) (k := 2) rfl (by omega) hL rfl rfl rfl rfl rfl dL_law_760 dL_law_761 dL_law_763 dL_law_764 dL_law_765 ?_
  refine r_arg lf hS (lv_at hl 1 rfl) (lv_at hl 5 rfl) (k := 3) rfl (by omega) hL rfl rfl rfl rfl rfl dL_law_766 dL_law_767 dL_law_769 dL_law_770 dL_law_771 ?_
  refine r_callW (rest := []) lf.F (m_X1_setToll l (D := D) (ci := ci) (cz := cz) (cj := cj) (q := q1) (F := F) (P := P) (g := g) (th := th) (he := he) (hn := hn) la.h1 hF hP12 (xs (i + 1)) (xs (i + 2)) (xs (i + 3)) hI.1) (cwV 3 lf.F.2.2.2.2 gL_law_X1_setToll rfl rfl rfl (by decide +kernel) ⟨Nat.le_of_ble_eq_true rfl, Nat.le_of_ble_eq_true rfl⟩) BW.bl (va_recv lf.K hM (ci := 1) (q0 := 0) rfl rfl) (lf.b1 la hM hS) rfl hl.1 rfl (Nat.le_of_ble_eq_true rfl) dL_law_772 ⟨hc, hs⟩ hS la.o1 (fun H locs hM hS _ hkp => ?_)
  obtain ⟨he, hn, hM⟩ := hM
  have hI := sF_iw (K := (k_setToll F P g (xs (i + 1)) (xs (i + 2)) (xs (i + 3)))) hI (st_setToll hI (xs (i + 1)) (xs (i + 2)) (xs (i + 3)))
  have hF := hI.1.1.1
  have hP12 := hI.1.1.2
  have hP : va_P D vwCl (w0 ci cz q0 (sF (k_setToll F P g (xs (i + 1)) (xs (i + 2)) (xs (i + 3))) F F) (sF (k_setToll F P g (xs (i + 1)) (xs (i + 2)) (xs (i + 3))) P P) (sF (k_setToll F P g (xs (i + 1)) (xs (i + 2)) (xs (i + 3))) (gTol g (ix (xs (i + 1))) (xs (i + 3))) g)) H := P_stay hP hkp la.n0
  have hO : va_P D vwCl (wo cj ob f) H := P_stay hO hkp la.no
  refine lv_istore (lv' := [(6, .int (rz (k_setToll F P g (xs (i + 1)) (xs (i + 2)) (xs (i + 3))) (g 0 (ix (xs (i + 1)))))), (5, .int (nI (k_setToll F P g (xs (i + 1)) (xs (i + 2)) (xs (i + 3))))), (0, .ref b), (1, .ref (q0 0)), (2, .ref (q1 0)), (3, .ref ob), (4, .int (nI i))]) hx hb dL_law_775 hl (by decide) rfl (fun ls hl => ?_)
  refine lv_aload_n hx hb dL_law_777 rfl (lv_at hl 4 rfl) ?_
  refine r_callR (rest := []) lf.F (m_X1_thrown l (D := D) (ci := ci) (cz := cz) (cj := cj) (q := q1) (F := (sF (k_setToll F P g (xs (i + 1)) (xs (i + 2)) (xs (i + 3))) F F)) (P := (sF (k_setToll F P g (xs (i + 1)) (xs (i + 2)) (xs (i + 3))) P P)) (g := (sF (k_setToll F P g (xs (i + 1)) (xs (i + 2)) (xs (i + 3))) (gTol g (ix (xs (i + 1))) (xs (i + 3))) g)) (th := nI (k_setToll F P g (xs (i + 1)) (xs (i + 2)) (xs (i + 3)))) (he := he) (hn := hn) hF hP12) (cwV 0 lf.F.2.2.2.2 gL_law_X1_thrown rfl rfl rfl (by decide +kernel) ⟨Nat.le_of_ble_eq_true rfl, Nat.le_of_ble_eq_true rfl⟩) BW.bl (va_recv lf.K hM (ci := 1) (q0 := 0) rfl rfl) (lf.b1 la hM hS) rfl hl.1 rfl (Nat.le_of_ble_eq_true rfl) dL_law_778 ⟨hc, hs⟩ ?_
  refine lv_iload hx hb dL_law_781 (lv_at hl 1 rfl) ?_
  refine lv_icmp_eq (tgt := 788) hx hb dL_law_783 (by decide) (fun _ => ?_) (fun h => absurd rfl h)
  refine lv_iload hx hb dL_law_788 (lv_at hl 1 rfl) ?_
  refine lv_if_ne (tgt := 805) hx hb dL_law_790 (by decide) (fun _ => ?_) (fun hk => ?_)
  · refine lv_goto (tgt := 2627) hx hb dL_law_805 (by decide) ?_
    exact kk _ _ _ _ _ _ ⟨hP, ⟨_, _, _, hM⟩, f, hO⟩ hI hS (lv_sub hl [2, 3, 4, 5, 6] rfl)
  · have hK0 : (k_setToll F P g (xs (i + 1)) (xs (i + 2)) (xs (i + 3))) = 0 := nK0 hk3 hk
    refine lv_aload_n hx hb dL_law_793 rfl (lv_at hl 5 rfl) ?_
    refine lv_iconst (v := nI 0) hx hb dL_law_794 (by decide) ?_
    refine r_lald hx hb lf.K rfl hO (hans hK0) dL_law_795 ?_
    refine lv_iload hx hb dL_law_796 (lv_at hl 0 rfl) ?_
    refine lv_i2l hx hb dL_law_798 rfl ?_
    refine r_lcmp hx hb (by rw [rz0 hK0]) dL_law_799 ?_
    refine lv_if_eq (tgt := 805) hx hb dL_law_800 (by decide) (fun _ => ?_) (fun h => absurd rfl h)
    refine lv_goto (tgt := 2627) hx hb dL_law_805 (by decide) ?_
    exact kk _ _ _ _ _ _ ⟨hP, ⟨_, _, _, hM⟩, f, hO⟩ hI hS (lv_sub hl [2, 3, 4, 5, 6] rfl)
theorem c_carry {p : Program} {l : Launch} {s : State} {m : MethodId} {below : List Frame} {meth : Method} {c : Code} {H : Heap} {locs : List Loc} {cells slots : Nat} {Q : State → Prop} {e : Env} {ls : Array Slot} {b L : Nat} {D : va_G} {ci cz cj : ClassId} {q0 q1 : Nat → Nat} {F P : Nat} {g : Nat → Nat → Int32} {ob : Nat} {xs : Nat → Int32} {i : Nat} (lf : LF p m c meth s b L xs D ci cz cj) (la : LA q0 q1 ob s.heap.size) (hl0 : l.stackTraces = false) (hL : L ≤ 3072) (hi : i + 6 ≤ L) (hw : LW D ci cz cj q0 q1 ob F P g H) (hI : Iw F P g) (hS : va_S (big s) s.heap H locs) (hl : lv_has ls 9 [(0, .ref b), (1, .ref (q0 0)), (2, .ref (q1 0)), (3, .ref ob), (4, .int (nI i))]) (hc : cells + 1 ≤ room_1.cells) (hs : slots + 6 ≤ room_1.slots) (kk : ∀ (F P : Nat) (g : Nat → Nat → Int32) (H : Heap) (locs : List Loc) (ls : Array Slot), LW D ci cz cj q0 q1 ob F P g H → Iw F P g → va_S (big s) s.heap H locs → lv_has ls 9 [(0, .ref b), (1, .ref (q0 0)), (2, .ref (q1 0)), (3, .ref ob), (4, .int (nI i))] → W p l e room_1 s m #[.ref b] below meth c H locs (cells + 1) (slots + 6) Q (F0 m 2627 ls [])) : W p l e room_1 s m #[.ref b] below meth c H locs cells slots Q (F0 m 808 ls []) := by
  obtain ⟨hP, ⟨th, he, hn, hM⟩, f, hO⟩ := hw
  have hx := lf.F.1
  have hb := lf.F.2.1
  have hF := hI.1.1.1
  have hP12 := hI.1.1.2
  refine lv_aload_n hx hb dL_law_808 rfl (lv_at hl 1 rfl) ?_
  refine r_arg lf hS (lv_at hl 0 rfl) (lv_at hl 4 rfl) (k := 1) rfl (by omega) hL rfl rfl rfl rfl rfl dL_law_809 dL_law_810 dL_law_812 dL_law_813 dL_law_814 ?_
  refine r_arg lf hS (lv_at hl 0 rfl) (lv_at hl 4 rfl) (k := 2) rfl (by omega) hL rfl rfl rfl rfl rfl dL_law_815 dL_law_816 dL_law_818 dL_law_819 dL_law_820 ?_
  refine r_arg lf hS (lv_at hl 0 rfl) (lv_at hl 4 rfl) (k := 3) rfl (by omega) hL rfl rfl rfl rfl rfl dL_law_821 dL_law_822 dL_law_824 dL_law_825 dL_law_826 ?_
  refine lv_aload_n hx hb dL_law_827 rfl (lv_at hl 3 rfl) ?_
  have hk3 : (k_carry F (xs (i + 1)) (xs (i + 2)) (xs (i + 3))) ≤ 3 := by unfold k_carry; (repeat' split) <;> decide
  refine r_callLW (As := [.ref (q0 0), .int (xs (i + 1)), .int (xs (i + 2)), .int (xs (i + 3)), .ref ob]) (rest := []) lf.F (m_L_carry l hl0 (D := D) (ci := ci) (cz := cz) (cj := cj) (q := q0) (F := F) (P := P) (g := g) (ob := ob) (f0 := f) la.h9 hF hP12 (xs (i + 1)) (xs (i + 2)) (xs (i + 3)) ) (vx_cwSW 5 lf.F.2.2.2.2 gL_law_L_carry rfl rfl rfl (by decide +kernel) ⟨Nat.le_of_ble_eq_true rfl, Nat.le_of_ble_eq_true rfl⟩) BL.bl (lf.b0 la hP hO hS) rfl hl.1 rfl (Nat.le_of_ble_eq_true rfl) dL_law_828 ⟨hc, hs⟩ hS la.o0 (fun H locs hQ hS hkp => ?_)
  obtain ⟨hP, f, hO, hans⟩ := hQ
  have hM : va_P D vwCl (w1 ci cz q1 th F P g he hn) H := P_stay hM hkp la.n1
  refine lv_istore (lv' := [(5, .int (nI (k_carry F (xs (i + 1)) (xs (i + 2)) (xs (i + 3))))), (0, .ref b), (1, .ref (q0 0)), (2, .ref (q1 0)), (3, .ref ob), (4, .int (nI i))]) hx hb dL_law_831 hl (by decide) rfl (fun ls hl => ?_)
  refine lv_aload_n hx hb dL_law_833 rfl (lv_at hl 3 rfl) ?_
  refine r_arg lf hS (lv_at hl 1 rfl) (lv_at hl 5 rfl) (k := 1) rfl (by omega) hL rfl rfl rfl rfl rfl dL_law_834 dL_law_835 dL_law_837 dL_law_838 dL_law_839 ?_
  refine r_arg lf hS (lv_at hl 1 rfl) (lv_at hl 5 rfl) (k := 2) rfl (by omega) hL rfl rfl rfl rfl rfl dL_law_840 dL_law_841 dL_law_843 dL_law_844 dL_law_845 ?_
  refine r_arg lf hS (lv_at hl 1 rfl) (lv_at hl 5 rfl) (k := 3) rfl (by omega) hL rfl rfl rfl rfl rfl dL_law_846 dL_law_847 dL_law_849 dL_law_850 dL_law_851 ?_
  refine r_callW (rest := []) lf.F (m_X1_carry l (D := D) (ci := ci) (cz := cz) (cj := cj) (q := q1) (F := F) (P := P) (g := g) (th := th) (he := he) (hn := hn) la.h1 hF hP12 (xs (i + 1)) (xs (i + 2)) (xs (i + 3)) hI.1) (cwV 3 lf.F.2.2.2.2 gL_law_X1_carry rfl rfl rfl (by decide +kernel) ⟨Nat.le_of_ble_eq_true rfl, Nat.le_of_ble_eq_true rfl⟩) BW.bl (va_recv lf.K hM (ci := 1) (q0 := 0) rfl rfl) (lf.b1 la hM hS) rfl hl.1 rfl (Nat.le_of_ble_eq_true rfl) dL_law_852 ⟨hc, hs⟩ hS la.o1 (fun H locs hM hS _ hkp => ?_)
  obtain ⟨he, hn, hM⟩ := hM
  have hI := sF_iw (K := (k_carry F (xs (i + 1)) (xs (i + 2)) (xs (i + 3)))) hI (st_carry hI (xs (i + 1)) (xs (i + 2)) (xs (i + 3)))
  have hF := hI.1.1.1
  have hP12 := hI.1.1.2
  have hP : va_P D vwCl (w0 ci cz q0 (sF (k_carry F (xs (i + 1)) (xs (i + 2)) (xs (i + 3))) F F) (sF (k_carry F (xs (i + 1)) (xs (i + 2)) (xs (i + 3))) P P) (sF (k_carry F (xs (i + 1)) (xs (i + 2)) (xs (i + 3))) (gCry g P (ix (xs (i + 1))) (ix (xs (i + 2)) / 6) (xs (i + 3))) g)) H := P_stay hP hkp la.n0
  have hO : va_P D vwCl (wo cj ob f) H := P_stay hO hkp la.no
  refine lv_istore (lv' := [(6, .int (rz (k_carry F (xs (i + 1)) (xs (i + 2)) (xs (i + 3))) (lCar g (ix (xs (i + 1))) (ix (xs (i + 2)) / 6) (xs (i + 3)) P))), (5, .int (nI (k_carry F (xs (i + 1)) (xs (i + 2)) (xs (i + 3))))), (0, .ref b), (1, .ref (q0 0)), (2, .ref (q1 0)), (3, .ref ob), (4, .int (nI i))]) hx hb dL_law_855 hl (by decide) rfl (fun ls hl => ?_)
  refine lv_aload_n hx hb dL_law_857 rfl (lv_at hl 4 rfl) ?_
  refine r_callR (rest := []) lf.F (m_X1_thrown l (D := D) (ci := ci) (cz := cz) (cj := cj) (q := q1) (F := (sF (k_carry F (xs (i + 1)) (xs (i + 2)) (xs (i + 3))) F F)) (P := (sF (k_carry F (xs (i + 1)) (xs (i + 2)) (xs (i + 3))) P P)) (g := (sF (k_carry F (xs (i + 1)) (xs (i + 2)) (xs (i + 3))) (gCry g P (ix (xs (i + 1))) (ix (xs (i + 2)) / 6) (xs (i + 3))) g)) (th := nI (k_carry F (xs (i + 1)) (xs (i + 2)) (xs (i + 3)))) (he := he) (hn := hn) hF hP12) (cwV 0 lf.F.2.2.2.2 gL_law_X1_thrown rfl rfl rfl (by decide +kernel) ⟨Nat.le_of_ble_eq_true rfl, Nat.le_of_ble_eq_true rfl⟩) BW.bl (va_recv lf.K hM (ci := 1) (q0 := 0) rfl rfl) (lf.b1 la hM hS) rfl hl.1 rfl (Nat.le_of_ble_eq_true rfl) dL_law_858 ⟨hc, hs⟩ ?_
  refine lv_iload hx hb dL_law_861 (lv_at hl 1 rfl) ?_
  refine lv_icmp_eq (tgt := 868) hx hb dL_law_863 (by decide) (fun _ => ?_) (fun h => absurd rfl h)
  refine lv_iload hx hb dL_law_868 (lv_at hl 1 rfl) ?_
  refine lv_if_ne (tgt := 885) hx hb dL_law_870 (by decide) (fun _ => ?_) (fun hk => ?_)
  · refine lv_goto (tgt := 2627) hx hb dL_law_885 (by decide) ?_
    exact kk _ _ _ _ _ _ ⟨hP, ⟨_, _, _, hM⟩, f, hO⟩ hI hS (lv_sub hl [2, 3, 4, 5, 6] rfl)
  · have hK0 : (k_carry F (xs (i + 1)) (xs (i + 2)) (xs (i + 3))) = 0 := nK0 hk3 hk
    refine lv_aload_n hx hb dL_law_873 rfl (lv_at hl 5 rfl) ?_
    refine lv_iconst (v := nI 0) hx hb dL_law_874 (by decide) ?_
    refine r_lald hx hb lf.K rfl hO (hans hK0) dL_law_875 ?_
    refine lv_iload hx hb dL_law_876 (lv_at hl 0 rfl) ?_
    refine lv_i2l hx hb dL_law_878 rfl ?_
    refine r_lcmp hx hb (by rw [rz0 hK0]) dL_law_879 ?_
    refine lv_if_eq (tgt := 885) hx hb dL_law_880 (by decide) (fun _ => ?_) (fun h => absurd rfl h)
    refine lv_goto (tgt := 2627) hx hb dL_law_885 (by decide) ?_
    exact kk _ _ _ _ _ _ ⟨hP, ⟨_, _, _, hM⟩, f, hO⟩ hI hS (lv_sub hl [2, 3, 4, 5, 6] rfl)
theorem c_die {p : Program} {l : Launch} {s : State} {m : MethodId} {below : List Frame} {meth : Method} {c : Code} {H : Heap} {locs : List Loc} {cells slots : Nat} {Q : State → Prop} {e : Env} {ls : Array Slot} {b L : Nat} {D : va_G} {ci cz cj : ClassId} {q0 q1 : Nat → Nat} {F P : Nat} {g : Nat → Nat → Int32} {ob : Nat} {xs : Nat → Int32} {i : Nat} (lf : LF p m c meth s b L xs D ci cz cj) (la : LA q0 q1 ob s.heap.size) (hl0 : l.stackTraces = false) (hL : L ≤ 3072) (hi : i + 6 ≤ L) (hw : LW D ci cz cj q0 q1 ob F P g H) (hI : Iw F P g) (hS : va_S (big s) s.heap H locs) (hl : lv_has ls 9 [(0, .ref b), (1, .ref (q0 0)), (2, .ref (q1 0)), (3, .ref ob), (4, .int (nI i))]) (hc : cells + 1 ≤ room_1.cells) (hs : slots + 6 ≤ room_1.slots) (kk : ∀ (F P : Nat) (g : Nat → Nat → Int32) (H : Heap) (locs : List Loc) (ls : Array Slot), LW D ci cz cj q0 q1 ob F P g H → Iw F P g → va_S (big s) s.heap H locs → lv_has ls 9 [(0, .ref b), (1, .ref (q0 0)), (2, .ref (q1 0)), (3, .ref ob), (4, .int (nI i))] → W p l e room_1 s m #[.ref b] below meth c H locs (cells + 1) (slots + 6) Q (F0 m 2627 ls [])) : W p l e room_1 s m #[.ref b] below meth c H locs cells slots Q (F0 m 888 ls []) := by
  obtain ⟨hP, ⟨th, he, hn, hM⟩, f, hO⟩ := hw
  have hx := lf.F.1
  have hb := lf.F.2.1
  have hF := hI.1.1.1
  have hP12 := hI.1.1.2
  refine lv_aload_n hx hb dL_law_888 rfl (lv_at hl 1 rfl) ?_
  refine r_arg lf hS (lv_at hl 0 rfl) (lv_at hl 4 rfl) (k := 1) rfl (by omega) hL rfl rfl rfl rfl rfl dL_law_889 dL_law_890 dL_law_892 dL_law_893 dL_law_894 ?_
  refine lv_aload_n hx hb dL_law_895 rfl (lv_at hl 3 rfl) ?_
  have hk3 : (k_die P g (xs (i + 1))) ≤ 3 := by unfold k_die; (repeat' split) <;> decide
  refine r_callLW (As := [.ref (q0 0), .int (xs (i + 1)), .ref ob]) (rest := []) lf.F (m_L_die l hl0 (D := D) (ci := ci) (cz := cz) (cj := cj) (q := q0) (F := F) (P := P) (g := g) (ob := ob) (f0 := f) la.h9 hF hP12 (xs (i + 1)) ) (vx_cwSW 3 lf.F.2.2.2.2 gL_law_L_die rfl rfl rfl (by decide +kernel) ⟨Nat.le_of_ble_eq_true rfl, Nat.le_of_ble_eq_true rfl⟩) BL.bl (lf.b0 la hP hO hS) rfl hl.1 rfl (Nat.le_of_ble_eq_true rfl) dL_law_896 ⟨hc, hs⟩ hS la.o0 (fun H locs hQ hS hkp => ?_)
  obtain ⟨hP, f, hO, hans⟩ := hQ
  have hM : va_P D vwCl (w1 ci cz q1 th F P g he hn) H := P_stay hM hkp la.n1
  refine lv_istore (lv' := [(5, .int (nI (k_die P g (xs (i + 1))))), (0, .ref b), (1, .ref (q0 0)), (2, .ref (q1 0)), (3, .ref ob), (4, .int (nI i))]) hx hb dL_law_899 hl (by decide) rfl (fun ls hl => ?_)
  refine lv_aload_n hx hb dL_law_901 rfl (lv_at hl 3 rfl) ?_
  refine r_arg lf hS (lv_at hl 1 rfl) (lv_at hl 5 rfl) (k := 1) rfl (by omega) hL rfl rfl rfl rfl rfl dL_law_902 dL_law_903 dL_law_905 dL_law_906 dL_law_907 ?_
  refine r_callW (rest := []) lf.F (m_X1_die l (D := D) (ci := ci) (cz := cz) (cj := cj) (q := q1) (F := F) (P := P) (g := g) (th := th) (he := he) (hn := hn) la.h1 hF hP12 (xs (i + 1)) hI.1) (cwV 1 lf.F.2.2.2.2 gL_law_X1_die rfl rfl rfl (by decide +kernel) ⟨Nat.le_of_ble_eq_true rfl, Nat.le_of_ble_eq_true rfl⟩) BW.bl (va_recv lf.K hM (ci := 1) (q0 := 0) rfl rfl) (lf.b1 la hM hS) rfl hl.1 rfl (Nat.le_of_ble_eq_true rfl) dL_law_908 ⟨hc, hs⟩ hS la.o1 (fun H locs hM hS _ hkp => ?_)
  obtain ⟨he, hn, hM⟩ := hM
  have hI := sF_iw (K := (k_die P g (xs (i + 1)))) hI (st_die hI (xs (i + 1)))
  have hF := hI.1.1.1
  have hP12 := hI.1.1.2
  have hP : va_P D vwCl (w0 ci cz q0 (sF (k_die P g (xs (i + 1))) F F) (sF (k_die P g (xs (i + 1))) P P) (sF (k_die P g (xs (i + 1))) (gDie g F P (ix (xs (i + 1)))) g)) H := P_stay hP hkp la.n0
  have hO : va_P D vwCl (wo cj ob f) H := P_stay hO hkp la.no
  refine lv_istore (lv' := [(6, .int (rz (k_die P g (xs (i + 1))) (nI (sCHe g P (ix (xs (i + 1))))))), (5, .int (nI (k_die P g (xs (i + 1))))), (0, .ref b), (1, .ref (q0 0)), (2, .ref (q1 0)), (3, .ref ob), (4, .int (nI i))]) hx hb dL_law_911 hl (by decide) rfl (fun ls hl => ?_)
  refine lv_aload_n hx hb dL_law_913 rfl (lv_at hl 4 rfl) ?_
  refine r_callR (rest := []) lf.F (m_X1_thrown l (D := D) (ci := ci) (cz := cz) (cj := cj) (q := q1) (F := (sF (k_die P g (xs (i + 1))) F F)) (P := (sF (k_die P g (xs (i + 1))) P P)) (g := (sF (k_die P g (xs (i + 1))) (gDie g F P (ix (xs (i + 1)))) g)) (th := nI (k_die P g (xs (i + 1)))) (he := he) (hn := hn) hF hP12) (cwV 0 lf.F.2.2.2.2 gL_law_X1_thrown rfl rfl rfl (by decide +kernel) ⟨Nat.le_of_ble_eq_true rfl, Nat.le_of_ble_eq_true rfl⟩) BW.bl (va_recv lf.K hM (ci := 1) (q0 := 0) rfl rfl) (lf.b1 la hM hS) rfl hl.1 rfl (Nat.le_of_ble_eq_true rfl) dL_law_914 ⟨hc, hs⟩ ?_
  refine lv_iload hx hb dL_law_917 (lv_at hl 1 rfl) ?_
  refine lv_icmp_eq (tgt := 924) hx hb dL_law_919 (by decide) (fun _ => ?_) (fun h => absurd rfl h)
  refine lv_iload hx hb dL_law_924 (lv_at hl 1 rfl) ?_
  refine lv_if_ne (tgt := 941) hx hb dL_law_926 (by decide) (fun _ => ?_) (fun hk => ?_)
  · refine lv_goto (tgt := 2627) hx hb dL_law_941 (by decide) ?_
    exact kk _ _ _ _ _ _ ⟨hP, ⟨_, _, _, hM⟩, f, hO⟩ hI hS (lv_sub hl [2, 3, 4, 5, 6] rfl)
  · have hK0 : (k_die P g (xs (i + 1))) = 0 := nK0 hk3 hk
    refine lv_aload_n hx hb dL_law_929 rfl (lv_at hl 5 rfl) ?_
    refine lv_iconst (v := nI 0) hx hb dL_law_930 (by decide) ?_
    refine r_lald hx hb lf.K rfl hO (hans hK0) dL_law_931 ?_
    refine lv_iload hx hb dL_law_932 (lv_at hl 0 rfl) ?_
    refine lv_i2l hx hb dL_law_934 rfl ?_
    refine r_lcmp hx hb (by rw [rz0 hK0]) dL_law_935 ?_
    refine lv_if_eq (tgt := 941) hx hb dL_law_936 (by decide) (fun _ => ?_) (fun h => absurd rfl h)
    refine lv_goto (tgt := 2627) hx hb dL_law_941 (by decide) ?_
    exact kk _ _ _ _ _ _ ⟨hP, ⟨_, _, _, hM⟩, f, hO⟩ hI hS (lv_sub hl [2, 3, 4, 5, 6] rfl)
end CASES0
