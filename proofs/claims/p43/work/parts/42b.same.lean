/-! PART 42b: isSame. -/
section SAME
variable {F P nn : Nat} {g : Nat → Nat → Int32}
theorem par_ne (hI : Ix nn F P g) {k : Nat} (hk : k < P) : decide (g 6 k ≠ -1) = decide (0 ≤ g 6 k) := by
  have hP := hI.b.2
  rcases hI.c6 k hk with h | ⟨r, hr, h⟩
  · rw [h]
    decide
  · rw [h, decide_eq_true (nI_pos' (show r < 2 ^ 31 by omega)), decide_eq_true]
    exact fun e => neg1_nI (p := r) (by omega) e.symm
/-- answers true, and may make cells -/
def DQi (Ad : Nat → Prop) : Array Value → State → Outcome → State → Prop := fun _ st o t => o = .returned (some (.int (bI true))) ∧ va_F Ad st t
theorem MetD.ofG {l : Launch} {y : MethodName} {ws ws' : List Cond} {rm : Room} {cc : ByteArray} {maxL mc ms : Nat} {ret : Option FieldType} {Pr : State → Prop} {av : List Value} {Qc : Array Value → State → Outcome → State → Prop} {Ad : Nat → Prop} (hy : plainName y.cls = true) (hw : ws = Cond.code y cc maxL ret :: ws') (hlen : (lg_sl av).length ≤ maxL)
    (body : ∀ (p : Program) (e : Env) (s : State) (m : MethodId) (below : List Frame) (meth : Method) (c : Code) (ls : Array Slot), CallFix p m c cc maxL s av.toArray ws y.cls → meth.sig.returnType = ret → meth.locks = false → Pr s → lv_has ls maxL (lv_args 0 av) →
      W p l e rm s m av.toArray below meth c s.heap [] 0 0 (MQD lw_cs below Qc av.toArray s mc ms Ad) (F0 m 0 ls [])) : MetD lw_cs l y ws rm (va_Pc av Pr) Qc mc ms Ad := by
  refine MetD.ofW (cc := cc) (maxL := maxL) (ret := ret) hy hw ?_
  intro p e s m args below meth c s₁ B hml hv hd0
  obtain ⟨rfl, hv⟩ := hv
  rw [lg_entry_eq]
  exact body p e s m below meth c _ ⟨B.exec, B.bytes, hml, findClass_of_methodNamed B.named, atoms_spec (ws := ws) B.pre⟩ B.returns B.notSynchronized hv (lv_entry av hlen)
theorem d_zret {p : Program} {l : Launch} {e : Env} {R : Room} {s : State} {m : MethodId} {args : Array Value} {below : List Frame} {meth : Method} {c : Code} {H : Heap} {locs : List Loc} {cells slots mc ms pc : Nat} {cc : ByteArray} {ls : Array Slot} {d1 : Drawn} {Ad : Nat → Prop} (hd1 : s.drawn.sameBut d1 lw_cs) (hexec : p.tables.exec = Jvm.exec) (hb : c.code = cc) (hr : meth.sig.returnType = some .boolean) (hlocks : meth.locks = false) (hS : va_S Ad s.heap H locs) (h1 : cells ≤ mc) (h2 : slots ≤ ms) (hdg : decode cc pc = .ok (.ireturn, 1)) :
    W p l e R (s.setDrawn d1) m args below meth c H locs cells slots (MQD lw_cs below (DQi Ad) args s mc ms Ad) (F0 m pc ls [.int (bI true)]) := by
  refine W.endD hd1 ?_
  exact W.widen h1 h2 (W.zret hexec hb hr (nar_bI true) (fun t ht _ => ⟨rfl, hS.F ht⟩) hS.2.2 hdg hlocks)
theorem Fx_dr {p : Program} {s : State} {m : MethodId} {args : Array Value} {c : Code} {cc : ByteArray} {nL : Nat} {Ts : List Cond} {own : String} (F : CallFix p m c cc nL s args Ts own) (d : Drawn) : CallFix p m c cc nL (s.setDrawn d) args Ts own := ⟨F.1, F.2.1, F.2.2.1, F.2.2.2.1, dr_words F.2.2.2.2 d⟩
set_option maxHeartbeats 8000000 in
theorem sEnd {pg : Program} {l : Launch} {en : Env} {s : State} {m : MethodId} {args : Array Value} {bl : List Frame} {mt : Method} {cd : Code} {ls : Array Slot} {H : Heap} {locs : List Loc} {c0 s0 : Nat} {D : va_G} {ci cz : ClassId} {cj : ClassId × ClassId} {q : Nat → Nat} {sz : Nat} {F P nn : Nat} {g : Nat → Nat → Int32} {a0 a1 : Nat} {x4 x6 : Int32} (Fx : CallFix pg m cd cX1_isSame 13 s args wsX1_isSame RX1) (hL : EL D ci cz cj sz s) (hq : DQ q 8) (hqs : ∀ k, k < 8 → sz ≤ q k) (hI : Ix nn F P g) (hr : mt.sig.returnType = some .boolean) (hlocks : mt.locks = false) (hP : va_P D vwCl (w0 ci cz q F P g) H) (hS : va_S (bg sz) s.heap H locs) (hcc : c0 ≤ 340) (hss : s0 ≤ 4100) (hl : lv_has ls 13 [(0, .ref a0), (1, .ref (q 0)), (2, .int (nI (cn (fun z => lv g z) P))), (3, .int (sm (fun z => g 4 z) P)), (4, .int x4), (5, .ref a1), (6, .int x6)]) :
    W pg l en ({ frames := 5, cells := 340, slots := 4100, locals := 113 } : Room) s m args bl mt cd H locs c0 s0 (MQD lw_cs bl (DQi (bg sz)) args s 340 4100 (bg sz)) (F0 m 690 ls []) := by
  have hx := Fx.1
  have hb := Fx.2.1
  have hP12 := hI.b.2
  have hlc : cn (fun z => lv g z) P ≤ P := cn_le _ _
  refine W.base ?_
  have hd0 := Drawn.sameBut.refl s.drawn lw_cs
  refine lv_aload_n hx hb dX1_isSame_690 rfl (lv_at hl 1 rfl) ?_
  refine r_callD (rest := []) hd0 (Fx_dr Fx s.drawn) (m_X0_meanCoins l (D := D) (ci := ci) (cz := cz) (cj := cj) (q := q) (F := F) (P := P) (g := g) hq hI.b.1 hP12) (cwV 0 (Fx_dr Fx s.drawn).2.2.2.2 gX1_isSame_X0_meanCoins rfl rfl rfl (by decide +kernel) ⟨Nat.le_of_ble_eq_true rfl, Nat.le_of_ble_eq_true rfl⟩) BW.bl (va_recv hL.1 hP (ci := 0) (q0 := 0) rfl rfl) (BWb hqs hP hL hS) rfl hl.1 rfl (Nat.le_of_ble_eq_true rfl) dX1_isSame_691 ⟨by show _ ≤ 340; omega, by show _ ≤ 4100; omega⟩ hS (fun a h => bg_aw hqs a h) (fun r d1 H locs hal hd1 hP hS _ _ => ?_)
  refine lv_iload_n hx hb dX1_isSame_694 rfl (lv_at hl 2 rfl) ?_
  refine n_if_ne (tgt := 702) hx hb (by omega) dX1_isSame_695 (by decide) (fun hn => ?_) (fun hn => ?_)
  · have hmC : mC g P = FP.ddiv (FP.i2d (sm (fun z => g 4 z) P)) (FP.i2d (nI (cn (fun z => lv g z) P))) := by
      unfold mC
      rw [if_neg (by exact hn), coins_all hI.iv]
      rfl
    have hnn := mean_nn (sm (fun z => g 4 z) P) (n := cn (fun z => lv g z) P) hn (by omega)
    refine lv_iload_n hx hb dX1_isSame_702 rfl (lv_at hl 3 rfl) ?_
    refine lv_i2d hx hb dX1_isSame_703 ?_
    refine lv_iload_n hx hb dX1_isSame_704 rfl (lv_at hl 2 rfl) ?_
    refine lv_i2d hx hb dX1_isSame_705 ?_
    refine lv_ddiv_any hd1 lw_bits hx hb dX1_isSame_706 (fun r2 d2 hal2 hd2 => ?_)
    have e1 := alike_is hal (by rw [hmC]; exact hnn)
    have e2 := alike_is hal2 hnn
    rw [e1, e2, hmC]
    refine lv_dcmp hx hb dX1_isSame_707 ?_
    refine lv_if_ne (tgt := 715) hx hb dX1_isSame_708 (by decide) (fun h => absurd (dcmp_is hnn) h) (fun _ => ?_)
    refine lv_iconst (v := nI 1) hx hb dX1_isSame_711 (by decide) ?_
    refine lv_goto (tgt := 716) hx hb dX1_isSame_712 (by decide) ?_
    exact d_zret hd2 hx hb hr hlocks hS hcc hss dX1_isSame_716
  · have hmC : mC g P = FP.dconst0 := if_pos (by exact hn)
    refine lv_dconst0 hx hb dX1_isSame_698 ?_
    refine lv_goto (tgt := 707) hx hb dX1_isSame_699 (by decide) ?_
    have e1 := alike_is hal (by rw [hmC]; exact dc_nn)
    rw [e1, hmC]
    refine lv_dcmp hx hb dX1_isSame_707 ?_
    refine lv_if_ne (tgt := 715) hx hb dX1_isSame_708 (by decide) (fun h => absurd (dcmp_is dc_nn) h) (fun _ => ?_)
    refine lv_iconst (v := nI 1) hx hb dX1_isSame_711 (by decide) ?_
    refine lv_goto (tgt := 716) hx hb dX1_isSame_712 (by decide) ?_
    exact d_zret hd1 hx hb hr hlocks hS hcc hss dX1_isSame_716
set_option maxHeartbeats 8000000 in
set_option maxRecDepth 100000 in
theorem sP {pg : Program} {l : Launch} {en : Env} {s : State} {m : MethodId} {args : Array Value} {bl : List Frame} {mt : Method} {cd : Code} {ls : Array Slot} {H : Heap} {locs : List Loc} {c0 s0 : Nat} {Q : State → Prop} {D : va_G} {ci cz : ClassId} {cj : ClassId × ClassId} {q : Nat → Nat} {sz : Nat} {A : Nat → Nat} {F P nn : Nat} {g : Nat → Nat → Int32} {a1 : Nat} {f w k : Nat} {v : Int32} (Fx : CallFix pg m cd cX1_isSame 13 s args wsX1_isSame RX1) (hL : EL D ci cz cj sz s) (hq : DQ q 8) (hqs : ∀ k, k < 8 → sz ≤ q k) (hsz : sz ≤ s.heap.size) (hcc : c0 + 0 ≤ 340) (hss : s0 + 0 ≤ 4100) (hAD : AD q sz A F P) (hI : Ix nn F P g) (hP : va_P D vwCl (w0 ci cz q F P g) H) (hQX : SS D ci cj A F P g H) (ha1 : isI D ci H a1 P (tF g f w (k + 1))) (lq : ∀ j, sV F P j → A j < a1) (lp1 : ∀ k, k < 8 → q k < a1) (hz1 : sz ≤ a1) (hS : va_S (bg sz) s.heap H locs) (hl : lv_has ls 13 [(0, .ref (A 0)), (1, .ref (q 0)), (2, .int (nI 0)), (3, .int (nI 0)), (4, .int (-1)), (5, .ref a1), (6, .int (nI f)), (7, .int (sMas g P f)), (8, .int (nI w)), (9, .int (nI (cn (fun z => decide (0 < own g f w z)) P - cn (fun z => decide (0 < own g f w z)) (k + 1)))), (10, .int v), (11, .int (nI k))]) (hf : f < F) (hw : w < 4) (hk : k < P) (hB : BST (fun z => own g f w z) (k + 1) P v)
    (kk : ∀ (H : Heap) (locs : List Loc) (ls : Array Slot) (v' : Int32), BST (fun z => own g f w z) k P v' → va_P D vwCl (w0 ci cz q F P g) H → SS D ci cj A F P g H → isI D ci H a1 P (tF g f w k) → va_S (bg sz) s.heap H locs → lv_has ls 13 [(0, .ref (A 0)), (1, .ref (q 0)), (2, .int (nI 0)), (3, .int (nI 0)), (4, .int (-1)), (5, .ref a1), (6, .int (nI f)), (7, .int (sMas g P f)), (8, .int (nI w)), (9, .int (nI (cn (fun z => decide (0 < own g f w z)) P - cn (fun z => decide (0 < own g f w z)) k))), (10, .int v'), (11, .int (dv k))] → W pg l en ({ frames := 5, cells := 340, slots := 4100, locals := 113 } : Room) s m args bl mt cd H locs c0 s0 Q (F0 m 167 ls [])) : W pg l en ({ frames := 5, cells := 340, slots := 4100, locals := 113 } : Room) s m args bl mt cd H locs c0 s0 Q (F0 m 167 ls []) := by
  have hx := Fx.1
  have hb := Fx.2.1
  obtain ⟨hK, hE, hNC⟩ := id hL
  have hO := hE.2.2.2.2
  have hFb := hI.b.1
  have hPb := hI.b.2
  have hin : ∀ w ∈ wsX10, w ∈ wsX1_isSame := by decide +kernel
  refine lv_iload hx hb dX1_isSame_167 (lv_at hl 11 rfl) ?_
  refine n_if_lt hx hb (by omega) dX1_isSame_169 ⟨285, by decide⟩ ?_
  refine lv_aload_n hx hb dX1_isSame_172 rfl (lv_at hl 0 rfl) ?_
  refine lv_iload hx hb dX1_isSame_173 (lv_at hl 6 rfl) ?_
  refine lv_iload hx hb dX1_isSame_175 (lv_at hl 8 rfl) ?_
  refine lv_iload hx hb dX1_isSame_177 (lv_at hl 11 rfl) ?_
  refine r_callR (rest := []) Fx (m_X1_has l (D := D) (ci := ci) (cz := cz) (cj := cj) (A := A) (F := F) (P := P) (g := g) (by omega) (by omega) f w k (by omega) (by omega) (by omega)) (cwV 3 Fx.2.2.2.2 gX1_isSame_X1_has rfl rfl rfl (by decide +kernel) ⟨Nat.le_of_ble_eq_true rfl, Nat.le_of_ble_eq_true rfl⟩) BX.bl (hQX.rc hK) (BX.at hQX hK hO) rfl hl.1 rfl (Nat.le_of_ble_eq_true rfl) dX1_isSame_179 ⟨by show _ ≤ 340; omega, by show _ ≤ 4100; omega⟩ ?_
  refine lv_istore (lv' := [(12, .int (own g f w k)), (0, .ref (A 0)), (1, .ref (q 0)), (2, .int (nI 0)), (3, .int (nI 0)), (4, .int (-1)), (5, .ref a1), (6, .int (nI f)), (7, .int (sMas g P f)), (8, .int (nI w)), (9, .int (nI (cn (fun z => decide (0 < own g f w z)) P - cn (fun z => decide (0 < own g f w z)) (k + 1)))), (10, .int v), (11, .int (nI k))]) hx hb dX1_isSame_182 hl (by decide) rfl (fun ls hl => ?_)
  refine lv_aload_n hx hb dX1_isSame_184 rfl (lv_at hl 2 rfl) ?_
  refine lv_iload hx hb dX1_isSame_185 (lv_at hl 7 rfl) ?_
  refine lv_iload hx hb dX1_isSame_187 (lv_at hl 9 rfl) ?_
  refine lv_iload hx hb dX1_isSame_189 (lv_at hl 12 rfl) ?_
  refine r_callR (rest := []) Fx (m_X0_shares_r l (D := D) (ci := ci) (cz := cz) (cj := cj) (q := q) (F := F) (P := P) (g := g) (by omega) (by omega) f w k (by omega) (by omega) (by omega)) (cwV 3 Fx.2.2.2.2 gX1_isSame_X0_shares rfl rfl rfl (by decide +kernel) ⟨Nat.le_of_ble_eq_true rfl, Nat.le_of_ble_eq_true rfl⟩) BW.bl (va_recv hK hP (ci := 0) (q0 := 0) rfl rfl) (BWb hqs hP hL hS) rfl hl.1 rfl (Nat.le_of_ble_eq_true rfl) dX1_isSame_191 ⟨by show _ ≤ 340; omega, by show _ ≤ 4100; omega⟩ ?_
  refine lv_iload hx hb dX1_isSame_194 (lv_at hl 0 rfl) ?_
  refine lv_icmp_ne (tgt := 223) hx hb dX1_isSame_196 (by decide) (fun h2 => absurd rfl h2) (fun h2 => ?_)
  refine lv_aload_n hx hb dX1_isSame_199 rfl (lv_at hl 2 rfl) ?_
  refine lv_iload hx hb dX1_isSame_200 (lv_at hl 12 rfl) ?_
  refine lv_iload hx hb dX1_isSame_202 (lv_at hl 7 rfl) ?_
  refine lv_iload hx hb dX1_isSame_204 (lv_at hl 9 rfl) ?_
  refine r_callR (rest := []) Fx (m_X0_price_r l (D := D) (ci := ci) (cz := cz) (cj := cj) (q := q) (F := F) (P := P) (g := g) (by omega) (by omega) k f w (by omega) (by omega) (by omega)) (cwV 3 Fx.2.2.2.2 gX1_isSame_X0_price rfl rfl rfl (by decide +kernel) ⟨Nat.le_of_ble_eq_true rfl, Nat.le_of_ble_eq_true rfl⟩) BW.bl (va_recv hK hP (ci := 0) (q0 := 0) rfl rfl) (BWb hqs hP hL hS) rfl hl.1 rfl (Nat.le_of_ble_eq_true rfl) dX1_isSame_206 ⟨by show _ ≤ 340; omega, by show _ ≤ 4100; omega⟩ ?_
  refine lv_iload hx hb dX1_isSame_209 (lv_at hl 0 rfl) ?_
  refine lv_aload_n hx hb dX1_isSame_211 rfl (lv_at hl 1 rfl) ?_
  refine lv_iload hx hb dX1_isSame_212 (lv_at hl 7 rfl) ?_
  refine lv_iload hx hb dX1_isSame_214 (lv_at hl 9 rfl) ?_
  refine r_callR (rest := [.int (own g f w k), .int (sPri g f w k)]) Fx (m_X1_value l (D := D) (ci := ci) (cz := cz) (cj := cj) (A := A) (F := F) (P := P) (g := g) (by omega) (by omega) f w (by omega) (by omega)) (cwV 2 Fx.2.2.2.2 gX1_isSame_X1_value rfl rfl rfl (by decide +kernel) ⟨Nat.le_of_ble_eq_true rfl, Nat.le_of_ble_eq_true rfl⟩) BX.bl (hQX.rc hK) (BX.at hQX hK hO) rfl hl.1 rfl (Nat.le_of_ble_eq_true rfl) dX1_isSame_216 ⟨by show _ ≤ 340; omega, by show _ ≤ 4100; omega⟩ ?_
  refine lv_imul hx hb dX1_isSame_219 ?_
  refine lv_icmp_eq (tgt := 225) hx hb dX1_isSame_220 (by decide) (fun h3 => ?_) (fun h3 => absurd rfl h3)
  refine lv_aload hx hb dX1_isSame_225 (lv_at hl 6 rfl) ?_
  refine lv_iload hx hb dX1_isSame_227 (lv_at hl 12 rfl) ?_
  refine lv_dup2_11 hx hb dX1_isSame_229 rfl rfl ?_
  refine g_iald Fx hK ha1 0 rfl (i := k) (by omega) (by omega) dX1_isSame_230 ?_
  refine lv_iload hx hb dX1_isSame_231 (lv_at hl 0 rfl) ?_
  refine lv_iadd hx hb dX1_isSame_233 ?_
  refine g_iast Fx hK ha1 0 rfl hz1 hS (i := k) (by omega) (by omega) dX1_isSame_234 (fun H locs ha1 kp hS => ?_)
  have hQX : SS D ci cj A F P g H := hQX.mv kp (fun j9 hj9 h9 => by have h9 : A j9 = a1 := h9; have := lq j9 hj9; omega)
  have hP : va_P D vwCl (w0 ci cz q F P g) H := kp.P hP (fun k9 r9 hr9 h9 => by have h9 : r9.1 = a1 := h9; obtain ⟨z1, z2⟩ := w0r_fst hr9; have := lp1 _ z1; omega)
  have ha1 : isI D ci H a1 P (tF g f w k) := ha1.cg (fun j _ => tF_s j)
  refine lv_iload hx hb dX1_isSame_235 (lv_at hl 10 rfl) ?_
  refine lv_iload hx hb dX1_isSame_237 (lv_at hl 0 rfl) ?_
  refine r_selP hx hb dX1_isSame_239 dX1_isSame_242 dX1_isSame_243 dX1_isSame_246 ?_
  refine lv_iadd hx hb dX1_isSame_247 ?_
  refine r_as (nI (cn (fun z => decide (0 < own g f w z)) P - cn (fun z => decide (0 < own g f w z)) k)) (by rw [n_bI]; exact congrArg nI (cd_s hk)) ?_
  refine lv_istore (lv' := [(9, .int (nI (cn (fun z => decide (0 < own g f w z)) P - cn (fun z => decide (0 < own g f w z)) k))), (12, .int (own g f w k)), (0, .ref (A 0)), (1, .ref (q 0)), (2, .int (nI 0)), (3, .int (nI 0)), (4, .int (-1)), (5, .ref a1), (6, .int (nI f)), (7, .int (sMas g P f)), (8, .int (nI w)), (10, .int v), (11, .int (nI k))]) hx hb dX1_isSame_248 hl (by decide) rfl (fun ls hl => ?_)
  refine lv_iload hx hb dX1_isSame_250 (lv_at hl 1 rfl) ?_
  refine lv_if_le (tgt := 279) hx hb dX1_isSame_252 (by decide) (fun h4 => ?_) (fun h4 => ?_)
  · refine lv_iinc (v := dv k) (lv' := [(11, .int (dv k)), (9, .int (nI (cn (fun z => decide (0 < own g f w z)) P - cn (fun z => decide (0 < own g f w z)) k))), (12, .int (own g f w k)), (0, .ref (A 0)), (1, .ref (q 0)), (2, .int (nI 0)), (3, .int (nI 0)), (4, .int (-1)), (5, .ref a1), (6, .int (nI f)), (7, .int (sMas g P f)), (8, .int (nI w)), (10, .int v)]) hx hb dX1_isSame_279 hl (k := 12) rfl (dv_dec _) (by decide) rfl (fun ls hl => ?_)
    refine lv_goto (tgt := 167) hx hb dX1_isSame_282 (by decide) ?_
    exact kk H locs ls _ (bst_no hB (Int32.not_lt.mpr h4)) hP hQX ha1 hS (lv_sub hl [3, 4, 5, 6, 7, 8, 9, 10, 11, 1, 12, 0] rfl)
  · have h4 := Int32.not_le.mp h4
    refine lv_iload hx hb dX1_isSame_255 (lv_at hl 11 rfl) ?_
    refine lv_if_lt (tgt := 275) hx hb dX1_isSame_257 (by decide) (fun h5 => ?_) (fun h5 => ?_)
    · refine lv_iload hx hb dX1_isSame_275 (lv_at hl 12 rfl) ?_
      refine lv_istore (lv' := [(10, .int (nI k)), (9, .int (nI (cn (fun z => decide (0 < own g f w z)) P - cn (fun z => decide (0 < own g f w z)) k))), (12, .int (own g f w k)), (0, .ref (A 0)), (1, .ref (q 0)), (2, .int (nI 0)), (3, .int (nI 0)), (4, .int (-1)), (5, .ref a1), (6, .int (nI f)), (7, .int (sMas g P f)), (8, .int (nI w)), (11, .int (nI k))]) hx hb dX1_isSame_277 hl (by decide) rfl (fun ls hl => ?_)
      refine lv_iinc (v := dv k) (lv' := [(11, .int (dv k)), (10, .int (nI k)), (9, .int (nI (cn (fun z => decide (0 < own g f w z)) P - cn (fun z => decide (0 < own g f w z)) k))), (12, .int (own g f w k)), (0, .ref (A 0)), (1, .ref (q 0)), (2, .int (nI 0)), (3, .int (nI 0)), (4, .int (-1)), (5, .ref a1), (6, .int (nI f)), (7, .int (sMas g P f)), (8, .int (nI w))]) hx hb dX1_isSame_279 hl (k := 12) rfl (dv_dec _) (by decide) rfl (fun ls hl => ?_)
      refine lv_goto (tgt := 167) hx hb dX1_isSame_282 (by decide) ?_
      exact kk H locs ls _ (bst_new hB hk h4 h5 (by omega)) hP hQX ha1 hS (lv_sub hl [4, 5, 6, 7, 8, 9, 10, 11, 12, 2, 1, 0] rfl)
    · have h5 := Int32.not_lt.mp h5
      obtain ⟨bb, hb1, hb2, rfl⟩ := bst_at hB (Int32.not_lt.mpr h5)
      refine lv_iload hx hb dX1_isSame_260 (lv_at hl 1 rfl) ?_
      refine lv_aload_n hx hb dX1_isSame_262 rfl (lv_at hl 2 rfl) ?_
      refine lv_iload hx hb dX1_isSame_263 (lv_at hl 8 rfl) ?_
      refine lv_iload hx hb dX1_isSame_265 (lv_at hl 10 rfl) ?_
      refine lv_iload hx hb dX1_isSame_267 (lv_at hl 11 rfl) ?_
      refine r_callR (rest := [.int (own g f w k)]) Fx (m_X1_has l (D := D) (ci := ci) (cz := cz) (cj := cj) (A := A) (F := F) (P := P) (g := g) (by omega) (by omega) f w bb (by omega) (by omega) (by omega)) (cwV 3 Fx.2.2.2.2 gX1_isSame_X1_has rfl rfl rfl (by decide +kernel) ⟨Nat.le_of_ble_eq_true rfl, Nat.le_of_ble_eq_true rfl⟩) BX.bl (hQX.rc hK) (BX.at hQX hK hO) rfl hl.1 rfl (Nat.le_of_ble_eq_true rfl) dX1_isSame_269 ⟨by show _ ≤ 340; omega, by show _ ≤ 4100; omega⟩ ?_
      refine lv_icmp_lt (tgt := 279) hx hb dX1_isSame_272 (by decide) (fun h6 => ?_) (fun h6 => ?_)
      · refine lv_iinc (v := dv k) (lv' := [(11, .int (dv k)), (9, .int (nI (cn (fun z => decide (0 < own g f w z)) P - cn (fun z => decide (0 < own g f w z)) k))), (12, .int (own g f w k)), (0, .ref (A 0)), (1, .ref (q 0)), (2, .int (nI 0)), (3, .int (nI 0)), (4, .int (-1)), (5, .ref a1), (6, .int (nI f)), (7, .int (sMas g P f)), (8, .int (nI w)), (10, .int (nI bb))]) hx hb dX1_isSame_279 hl (k := 12) rfl (dv_dec _) (by decide) rfl (fun ls hl => ?_)
        refine lv_goto (tgt := 167) hx hb dX1_isSame_282 (by decide) ?_
        exact kk H locs ls _ (bst_lt hB h6 hb2 (by omega)) hP hQX ha1 hS (lv_sub hl [3, 4, 5, 6, 7, 8, 9, 10, 11, 1, 12, 0] rfl)
      · have h6 := Int32.not_lt.mp h6
        refine lv_iload hx hb dX1_isSame_275 (lv_at hl 12 rfl) ?_
        refine lv_istore (lv' := [(10, .int (nI k)), (9, .int (nI (cn (fun z => decide (0 < own g f w z)) P - cn (fun z => decide (0 < own g f w z)) k))), (12, .int (own g f w k)), (0, .ref (A 0)), (1, .ref (q 0)), (2, .int (nI 0)), (3, .int (nI 0)), (4, .int (-1)), (5, .ref a1), (6, .int (nI f)), (7, .int (sMas g P f)), (8, .int (nI w)), (11, .int (nI k))]) hx hb dX1_isSame_277 hl (by decide) rfl (fun ls hl => ?_)
        refine lv_iinc (v := dv k) (lv' := [(11, .int (dv k)), (10, .int (nI k)), (9, .int (nI (cn (fun z => decide (0 < own g f w z)) P - cn (fun z => decide (0 < own g f w z)) k))), (12, .int (own g f w k)), (0, .ref (A 0)), (1, .ref (q 0)), (2, .int (nI 0)), (3, .int (nI 0)), (4, .int (-1)), (5, .ref a1), (6, .int (nI f)), (7, .int (sMas g P f)), (8, .int (nI w))]) hx hb dX1_isSame_279 hl (k := 12) rfl (dv_dec _) (by decide) rfl (fun ls hl => ?_)
        refine lv_goto (tgt := 167) hx hb dX1_isSame_282 (by decide) ?_
        exact kk H locs ls _ (bst_ge hB hk h4 h6 hb2 (by omega)) hP hQX ha1 hS (lv_sub hl [4, 5, 6, 7, 8, 9, 10, 11, 12, 2, 1, 0] rfl)
set_option maxHeartbeats 8000000 in
set_option maxRecDepth 100000 in
theorem sW {pg : Program} {l : Launch} {en : Env} {s : State} {m : MethodId} {args : Array Value} {bl : List Frame} {mt : Method} {cd : Code} {ls : Array Slot} {H : Heap} {locs : List Loc} {c0 s0 : Nat} {Q : State → Prop} {D : va_G} {ci cz : ClassId} {cj : ClassId × ClassId} {q : Nat → Nat} {sz : Nat} {A : Nat → Nat} {F P nn : Nat} {g : Nat → Nat → Int32} {a1 : Nat} {f w k : Nat} {v : Int32} (Fx : CallFix pg m cd cX1_isSame 13 s args wsX1_isSame RX1) (hL : EL D ci cz cj sz s) (hq : DQ q 8) (hqs : ∀ k, k < 8 → sz ≤ q k) (hsz : sz ≤ s.heap.size) (hcc : c0 + 0 ≤ 340) (hss : s0 + 0 ≤ 4100) (hAD : AD q sz A F P) (hI : Ix nn F P g) (hP : va_P D vwCl (w0 ci cz q F P g) H) (hQX : SS D ci cj A F P g H) (ha1 : isI D ci H a1 P (Tq g f w)) (lq : ∀ j, sV F P j → A j < a1) (lp1 : ∀ k, k < 8 → q k < a1) (hz1 : sz ≤ a1) (hS : va_S (bg sz) s.heap H locs) (hl : lv_has ls 13 [(0, .ref (A 0)), (1, .ref (q 0)), (2, .int (nI 0)), (3, .int (nI 0)), (4, .int (-1)), (5, .ref a1), (6, .int (nI f)), (7, .int (sMas g P f)), (8, .int (nI w))]) (hf : f < F) (hw : w < 4)
    (kk : ∀ (H : Heap) (locs : List Loc) (ls : Array Slot), va_P D vwCl (w0 ci cz q F P g) H → SS D ci cj A F P g H → isI D ci H a1 P (Tq g f (w + 1)) → va_S (bg sz) s.heap H locs → lv_has ls 13 [(0, .ref (A 0)), (1, .ref (q 0)), (2, .int (nI 0)), (3, .int (nI 0)), (4, .int (-1)), (5, .ref a1), (6, .int (nI f)), (7, .int (sMas g P f)), (8, .int (nI (w + 1)))] → W pg l en ({ frames := 5, cells := 340, slots := 4100, locals := 113 } : Room) s m args bl mt cd H locs (c0 + 0) (s0 + 0) Q (F0 m 146 ls [])) : W pg l en ({ frames := 5, cells := 340, slots := 4100, locals := 113 } : Room) s m args bl mt cd H locs c0 s0 Q (F0 m 146 ls []) := by
  have hx := Fx.1
  have hb := Fx.2.1
  obtain ⟨hK, hE, hNC⟩ := id hL
  have hO := hE.2.2.2.2
  have hFb := hI.b.1
  have hPb := hI.b.2
  have hin : ∀ w ∈ wsX10, w ∈ wsX1_isSame := by decide +kernel
  refine lv_iload hx hb dX1_isSame_146 (lv_at hl 8 rfl) ?_
  refine lv_iconst (v := nI 4) hx hb dX1_isSame_148 (by decide) ?_
  refine n_icmp_ge (tgt := 363) hx hb (by omega) (by omega) dX1_isSame_149 (by decide) (fun h1 => by omega) (fun h1 => ?_)
  refine lv_iconst (v := nI 0) hx hb dX1_isSame_152 (by decide) ?_
  refine lv_istore (lv' := [(9, .int (nI 0)), (0, .ref (A 0)), (1, .ref (q 0)), (2, .int (nI 0)), (3, .int (nI 0)), (4, .int (-1)), (5, .ref a1), (6, .int (nI f)), (7, .int (sMas g P f)), (8, .int (nI w))]) hx hb dX1_isSame_153 hl (by decide) rfl (fun ls hl => ?_)
  refine lv_iconst (v := -1) hx hb dX1_isSame_155 (by decide) ?_
  refine lv_istore (lv' := [(10, .int (-1)), (9, .int (nI 0)), (0, .ref (A 0)), (1, .ref (q 0)), (2, .int (nI 0)), (3, .int (nI 0)), (4, .int (-1)), (5, .ref a1), (6, .int (nI f)), (7, .int (sMas g P f)), (8, .int (nI w))]) hx hb dX1_isSame_156 hl (by decide) rfl (fun ls hl => ?_)
  refine lv_aload_n hx hb dX1_isSame_158 rfl (lv_at hl 2 rfl) ?_
  obtain ⟨T9, hR9, hQ⟩ := id hQX
  refine g_get Fx hin hK 1 hQ.o rfl 3 (by decide) (by decide +kernel) rfl dX1_isSame_159 ?_
  obtain ⟨T9, hR9, hQ⟩ := id hQX
  refine g_alenR Fx hK hQ.pe 2 rfl dX1_isSame_162 ?_
  refine lv_iconst (v := nI 1) hx hb dX1_isSame_163 (by decide) ?_
  refine lv_isub hx hb dX1_isSame_164 ?_
  rw [dv_sub]
  refine lv_istore (lv' := [(11, .int (dv P)), (10, .int (-1)), (9, .int (nI 0)), (0, .ref (A 0)), (1, .ref (q 0)), (2, .int (nI 0)), (3, .int (nI 0)), (4, .int (-1)), (5, .ref a1), (6, .int (nI f)), (7, .int (sMas g P f)), (8, .int (nI w))]) hx hb dX1_isSame_165 hl (by decide) rfl (fun ls hl => ?_)
  have e0 : nI (cn (fun z => decide (0 < own g f w z)) P - cn (fun z => decide (0 < own g f w z)) P) = nI 0 := by rw [Nat.sub_self]
  refine dloop (nL := 13) (N := P) (fun k H lv => ∃ v, lv = [(0, .ref (A 0)), (1, .ref (q 0)), (2, .int (nI 0)), (3, .int (nI 0)), (4, .int (-1)), (5, .ref a1), (6, .int (nI f)), (7, .int (sMas g P f)), (8, .int (nI w)), (9, .int (nI (cn (fun z => decide (0 < own g f w z)) P - cn (fun z => decide (0 < own g f w z)) k))), (10, .int v), (11, .int (dv k))] ∧ BST (fun z => own g f w z) k P v ∧ va_P D vwCl (w0 ci cz q F P g) H ∧ SS D ci cj A F P g H ∧ isI D ci H a1 P (tF g f w k)) hS (lv0 := [(0, .ref (A 0)), (1, .ref (q 0)), (2, .int (nI 0)), (3, .int (nI 0)), (4, .int (-1)), (5, .ref a1), (6, .int (nI f)), (7, .int (sMas g P f)), (8, .int (nI w)), (9, .int (nI (cn (fun z => decide (0 < own g f w z)) P - cn (fun z => decide (0 < own g f w z)) P))), (10, .int (-1)), (11, .int (dv P))]) ⟨-1, rfl, bst_P, hP, hQX, ha1.cg (fun j hj => tF_P j hj)⟩ (by rw [e0]; exact lv_sub hl [3, 4, 5, 6, 7, 8, 9, 10, 11, 2, 1, 0] rfl) ?_ ?_
  · intro H locs ls lv hS hLv hl
    obtain ⟨v, rfl, hB, hP, hQX, ha1⟩ := hLv
    have hl : lv_has ls 13 [(0, .ref (A 0)), (1, .ref (q 0)), (2, .int (nI 0)), (3, .int (nI 0)), (4, .int (-1)), (5, .ref a1), (6, .int (nI f)), (7, .int (sMas g P f)), (8, .int (nI w)), (9, .int (nI (cn (fun z => decide (0 < own g f w z)) P))), (10, .int v), (11, .int (-1))] := hl
    have hcB : cn (fun z => decide (0 < own g f w z)) P ≤ P := cn_le _ _
    refine lv_iload hx hb dX1_isSame_167 (lv_at hl 11 rfl) ?_
    refine lv_if_lt (tgt := 285) hx hb dX1_isSame_169 (by decide) (fun h2 => ?_) (fun h2 => absurd (by decide) h2)
    refine lv_aload_n hx hb dX1_isSame_285 rfl (lv_at hl 1 rfl) ?_
    refine lv_iload hx hb dX1_isSame_286 (lv_at hl 6 rfl) ?_
    refine lv_iload hx hb dX1_isSame_288 (lv_at hl 8 rfl) ?_
    refine r_callR (rest := []) Fx (m_X0_owners_r l (D := D) (ci := ci) (cz := cz) (cj := cj) (q := q) (F := F) (P := P) (g := g) (by omega) (by omega) f w (by omega) (by omega)) (cwV 2 Fx.2.2.2.2 gX1_isSame_X0_owners rfl rfl rfl (by decide +kernel) ⟨Nat.le_of_ble_eq_true rfl, Nat.le_of_ble_eq_true rfl⟩) BW.bl (va_recv hK hP (ci := 0) (q0 := 0) rfl rfl) (BWb hqs hP hL hS) rfl hl.1 rfl (Nat.le_of_ble_eq_true rfl) dX1_isSame_290 ⟨by show _ ≤ 340; omega, by show _ ≤ 4100; omega⟩ ?_
    have hv290 : sOwn g P f w ≤ P := cn_le _ _
    refine lv_iload hx hb dX1_isSame_293 (lv_at hl 9 rfl) ?_
    refine n_icmp_ne (tgt := 355) hx hb (by omega) (by omega) dX1_isSame_295 (by decide) (fun h3 => absurd rfl h3) (fun h3 => ?_)
    refine r_via (pc2 := 316) (fun kj316 => ?_) ?_
    · refine lv_iload hx hb dX1_isSame_298 (lv_at hl 9 rfl) ?_
      refine n_if_le (tgt := 316) hx hb (by omega) dX1_isSame_300 (by decide) (fun h4 => ?_) (fun h4 => ?_)
      · exact kj316
      · obtain ⟨e9, n9⟩ := (bst_hol hB (by omega)).resolve_right (by omega)
        refine lv_aload_n hx hb dX1_isSame_303 rfl (lv_at hl 1 rfl) ?_
        refine lv_iload hx hb dX1_isSame_304 (lv_at hl 6 rfl) ?_
        refine lv_iload hx hb dX1_isSame_306 (lv_at hl 8 rfl) ?_
        refine r_callR (rest := []) Fx (m_X0_holder_r l (D := D) (ci := ci) (cz := cz) (cj := cj) (q := q) (F := F) (P := P) (g := g) (by omega) (by omega) f w (by omega) (by omega) n9) (cwV 2 Fx.2.2.2.2 gX1_isSame_X0_holder rfl rfl rfl (by decide +kernel) ⟨Nat.le_of_ble_eq_true rfl, Nat.le_of_ble_eq_true rfl⟩) BW.bl (va_recv hK hP (ci := 0) (q0 := 0) rfl rfl) (BWb hqs hP hL hS) rfl hl.1 rfl (Nat.le_of_ble_eq_true rfl) dX1_isSame_308 ⟨by show _ ≤ 340; omega, by show _ ≤ 4100; omega⟩ ?_
        refine lv_iload hx hb dX1_isSame_311 (lv_at hl 10 rfl) ?_
        refine lv_icmp_ne (tgt := 355) hx hb dX1_isSame_313 (by decide) (fun h5 => absurd e9 h5) (fun h5 => ?_)
        exact kj316
    · refine lv_aload_n hx hb dX1_isSame_316 rfl (lv_at hl 1 rfl) ?_
      refine lv_iload hx hb dX1_isSame_317 (lv_at hl 6 rfl) ?_
      refine lv_iload hx hb dX1_isSame_319 (lv_at hl 8 rfl) ?_
      refine r_callR (rest := []) Fx (m_X0_crownShares_r l (D := D) (ci := ci) (cz := cz) (cj := cj) (q := q) (F := F) (P := P) (g := g) (by omega) (by omega) f w (by omega) (by omega)) (cwV 2 Fx.2.2.2.2 gX1_isSame_X0_crownShares rfl rfl rfl (by decide +kernel) ⟨Nat.le_of_ble_eq_true rfl, Nat.le_of_ble_eq_true rfl⟩) BW.bl (va_recv hK hP (ci := 0) (q0 := 0) rfl rfl) (BWb hqs hP hL hS) rfl hl.1 rfl (Nat.le_of_ble_eq_true rfl) dX1_isSame_321 ⟨by show _ ≤ 340; omega, by show _ ≤ 4100; omega⟩ ?_
      refine lv_aload_n hx hb dX1_isSame_324 rfl (lv_at hl 0 rfl) ?_
      refine lv_iload hx hb dX1_isSame_325 (lv_at hl 6 rfl) ?_
      refine lv_iload hx hb dX1_isSame_327 (lv_at hl 8 rfl) ?_
      refine lv_iconst (v := -1) hx hb dX1_isSame_329 (by decide) ?_
      refine r_callR (rest := [.int (sCro g P f w)]) Fx (m_X1_hasC l (D := D) (ci := ci) (cz := cz) (cj := cj) (A := A) (F := F) (P := P) (g := g) (by omega) (by omega) f w (by omega) (by omega)) (cwV 3 Fx.2.2.2.2 gX1_isSame_X1_has rfl rfl rfl (by decide +kernel) ⟨Nat.le_of_ble_eq_true rfl, Nat.le_of_ble_eq_true rfl⟩) BX.bl (hQX.rc hK) (BX.at hQX hK hO) rfl hl.1 rfl (Nat.le_of_ble_eq_true rfl) dX1_isSame_330 ⟨by show _ ≤ 340; omega, by show _ ≤ 4100; omega⟩ ?_
      refine lv_icmp_ne (tgt := 355) hx hb dX1_isSame_333 (by decide) (fun h6 => absurd rfl h6) (fun h6 => ?_)
      refine lv_aload_n hx hb dX1_isSame_336 rfl (lv_at hl 1 rfl) ?_
      refine lv_iload hx hb dX1_isSame_337 (lv_at hl 6 rfl) ?_
      refine lv_iload hx hb dX1_isSame_339 (lv_at hl 8 rfl) ?_
      refine r_callR (rest := []) Fx (m_X0_shareValue_r l (D := D) (ci := ci) (cz := cz) (cj := cj) (q := q) (F := F) (P := P) (g := g) (by omega) (by omega) f w (by omega) (by omega)) (cwV 2 Fx.2.2.2.2 gX1_isSame_X0_shareValue rfl rfl rfl (by decide +kernel) ⟨Nat.le_of_ble_eq_true rfl, Nat.le_of_ble_eq_true rfl⟩) BW.bl (va_recv hK hP (ci := 0) (q0 := 0) rfl rfl) (BWb hqs hP hL hS) rfl hl.1 rfl (Nat.le_of_ble_eq_true rfl) dX1_isSame_341 ⟨by show _ ≤ 340; omega, by show _ ≤ 4100; omega⟩ ?_
      refine lv_aload_n hx hb dX1_isSame_344 rfl (lv_at hl 0 rfl) ?_
      refine lv_iload hx hb dX1_isSame_345 (lv_at hl 6 rfl) ?_
      refine lv_iload hx hb dX1_isSame_347 (lv_at hl 8 rfl) ?_
      refine r_callR (rest := [.int (sWor g f w)]) Fx (m_X1_value l (D := D) (ci := ci) (cz := cz) (cj := cj) (A := A) (F := F) (P := P) (g := g) (by omega) (by omega) f w (by omega) (by omega)) (cwV 2 Fx.2.2.2.2 gX1_isSame_X1_value rfl rfl rfl (by decide +kernel) ⟨Nat.le_of_ble_eq_true rfl, Nat.le_of_ble_eq_true rfl⟩) BX.bl (hQX.rc hK) (BX.at hQX hK hO) rfl hl.1 rfl (Nat.le_of_ble_eq_true rfl) dX1_isSame_349 ⟨by show _ ≤ 340; omega, by show _ ≤ 4100; omega⟩ ?_
      refine lv_icmp_eq (tgt := 357) hx hb dX1_isSame_352 (by decide) (fun h7 => ?_) (fun h7 => absurd rfl h7)
      refine lv_iinc (v := nI (w + 1)) (lv' := [(8, .int (nI (w + 1))), (0, .ref (A 0)), (1, .ref (q 0)), (2, .int (nI 0)), (3, .int (nI 0)), (4, .int (-1)), (5, .ref a1), (6, .int (nI f)), (7, .int (sMas g P f)), (9, .int (nI (cn (fun z => decide (0 < own g f w z)) P))), (10, .int v), (11, .int (-1))]) hx hb dX1_isSame_357 hl (k := 8) rfl (nI_inc _ 1) (by decide) rfl (fun ls hl => ?_)
      refine lv_goto (tgt := 146) hx hb dX1_isSame_360 (by decide) ?_
      exact kk H locs ls hP hQX (ha1.cg (fun j _ => tF_0 j)) hS (lv_sub hl [1, 2, 3, 4, 5, 6, 7, 8, 0] rfl)
  · intro k hk ih H locs ls lv hS hLv hl
    obtain ⟨v, rfl, hB, hP, hQX, ha1⟩ := hLv
    exact sP Fx hL hq hqs hsz (by omega) (by omega) hAD hI hP hQX ha1 lq lp1 hz1 hS hl hf hw hk hB (fun H locs ls v' hB hP hQX ha1 hS hl => ih H locs ls _ hS ⟨v', rfl, hB, hP, hQX, ha1⟩ hl)
set_option maxHeartbeats 8000000 in
set_option maxRecDepth 100000 in
theorem sFr {pg : Program} {l : Launch} {en : Env} {s : State} {m : MethodId} {args : Array Value} {bl : List Frame} {mt : Method} {cd : Code} {ls : Array Slot} {H : Heap} {locs : List Loc} {c0 s0 : Nat} {Q : State → Prop} {D : va_G} {ci cz : ClassId} {cj : ClassId × ClassId} {q : Nat → Nat} {sz : Nat} {A : Nat → Nat} {F P nn : Nat} {g : Nat → Nat → Int32} {a1 : Nat} {f w k : Nat} {v : Int32} (Fx : CallFix pg m cd cX1_isSame 13 s args wsX1_isSame RX1) (hL : EL D ci cz cj sz s) (hq : DQ q 8) (hqs : ∀ k, k < 8 → sz ≤ q k) (hsz : sz ≤ s.heap.size) (hcc : c0 + 0 ≤ 340) (hss : s0 + 0 ≤ 4100) (hAD : AD q sz A F P) (hI : Ix nn F P g) (hP : va_P D vwCl (w0 ci cz q F P g) H) (hQX : SS D ci cj A F P g H) (ha1 : isI D ci H a1 P (sAll g f)) (lq : ∀ j, sV F P j → A j < a1) (lp1 : ∀ k, k < 8 → q k < a1) (hz1 : sz ≤ a1) (hS : va_S (bg sz) s.heap H locs) (hl : lv_has ls 13 [(0, .ref (A 0)), (1, .ref (q 0)), (2, .int (nI 0)), (3, .int (nI 0)), (4, .int (-1)), (5, .ref a1), (6, .int (nI f))]) (hf : f < F)
    (kk : ∀ (H : Heap) (locs : List Loc) (ls : Array Slot), va_P D vwCl (w0 ci cz q F P g) H → SS D ci cj A F P g H → isI D ci H a1 P (sAll g (f + 1)) → va_S (bg sz) s.heap H locs → lv_has ls 13 [(0, .ref (A 0)), (1, .ref (q 0)), (2, .int (nI 0)), (3, .int (nI 0)), (4, .int (-1)), (5, .ref a1), (6, .int (nI (f + 1)))] → W pg l en ({ frames := 5, cells := 340, slots := 4100, locals := 113 } : Room) s m args bl mt cd H locs (c0 + 0) (s0 + 0) Q (F0 m 56 ls [])) : W pg l en ({ frames := 5, cells := 340, slots := 4100, locals := 113 } : Room) s m args bl mt cd H locs c0 s0 Q (F0 m 56 ls []) := by
  have hx := Fx.1
  have hb := Fx.2.1
  obtain ⟨hK, hE, hNC⟩ := id hL
  have hO := hE.2.2.2.2
  have hFb := hI.b.1
  have hPb := hI.b.2
  have hin : ∀ w ∈ wsX10, w ∈ wsX1_isSame := by decide +kernel
  refine lv_iload hx hb dX1_isSame_56 (lv_at hl 6 rfl) ?_
  refine lv_aload_n hx hb dX1_isSame_58 rfl (lv_at hl 0 rfl) ?_
  obtain ⟨T9, hR9, hQ⟩ := id hQX
  refine g_get Fx hin hK 1 hQ.o rfl 0 (by decide) (by decide +kernel) rfl dX1_isSame_59 ?_
  obtain ⟨T9, hR9, hQ⟩ := id hQX
  refine g_alenI Fx hK hQ.to 0 rfl dX1_isSame_62 ?_
  refine n_icmp_ge (tgt := 369) hx hb (by omega) (by omega) dX1_isSame_63 (by decide) (fun h1 => by omega) (fun h1 => ?_)
  refine lv_aload_n hx hb dX1_isSame_66 rfl (lv_at hl 0 rfl) ?_
  refine lv_iload hx hb dX1_isSame_67 (lv_at hl 6 rfl) ?_
  refine r_callR (rest := []) Fx (m_X1_master l (D := D) (ci := ci) (cz := cz) (cj := cj) (A := A) (F := F) (P := P) (g := g) (by omega) (by omega) f (by omega) hI.iv) (cwV 1 Fx.2.2.2.2 gX1_isSame_X1_master rfl rfl rfl (by decide +kernel) ⟨Nat.le_of_ble_eq_true rfl, Nat.le_of_ble_eq_true rfl⟩) BX.bl (hQX.rc hK) (BX.at hQX hK hO) rfl hl.1 rfl (Nat.le_of_ble_eq_true rfl) dX1_isSame_69 ⟨by show _ ≤ 340; omega, by show _ ≤ 4100; omega⟩ ?_
  refine lv_istore (lv' := [(7, .int (sMas g P f)), (0, .ref (A 0)), (1, .ref (q 0)), (2, .int (nI 0)), (3, .int (nI 0)), (4, .int (-1)), (5, .ref a1), (6, .int (nI f))]) hx hb dX1_isSame_72 hl (by decide) rfl (fun ls hl => ?_)
  refine lv_aload_n hx hb dX1_isSame_74 rfl (lv_at hl 2 rfl) ?_
  refine lv_iload hx hb dX1_isSame_75 (lv_at hl 7 rfl) ?_
  refine r_callR (rest := []) Fx (m_X0_toll_r l (D := D) (ci := ci) (cz := cz) (cj := cj) (q := q) (F := F) (P := P) (g := g) (by omega) (by omega) f (by omega)) (cwV 1 Fx.2.2.2.2 gX1_isSame_X0_toll rfl rfl rfl (by decide +kernel) ⟨Nat.le_of_ble_eq_true rfl, Nat.le_of_ble_eq_true rfl⟩) BW.bl (va_recv hK hP (ci := 0) (q0 := 0) rfl rfl) (BWb hqs hP hL hS) rfl hl.1 rfl (Nat.le_of_ble_eq_true rfl) dX1_isSame_77 ⟨by show _ ≤ 340; omega, by show _ ≤ 4100; omega⟩ ?_
  refine lv_aload_n hx hb dX1_isSame_80 rfl (lv_at hl 1 rfl) ?_
  obtain ⟨T9, hR9, hQ⟩ := id hQX
  refine g_get Fx hin hK 1 hQ.o rfl 0 (by decide) (by decide +kernel) rfl dX1_isSame_81 ?_
  refine lv_iload hx hb dX1_isSame_84 (lv_at hl 7 rfl) ?_
  obtain ⟨T9, hR9, hQ⟩ := id hQX
  refine g_iald Fx hK hQ.to 0 rfl (i := f) (by omega) (by omega) dX1_isSame_86 ?_
  refine lv_icmp_ne (tgt := 141) hx hb dX1_isSame_87 (by decide) (fun h2 => absurd rfl h2) (fun h2 => ?_)
  refine lv_aload_n hx hb dX1_isSame_90 rfl (lv_at hl 2 rfl) ?_
  refine lv_iload hx hb dX1_isSame_91 (lv_at hl 7 rfl) ?_
  refine r_callR (rest := []) Fx (m_X0_carried_r l (D := D) (ci := ci) (cz := cz) (cj := cj) (q := q) (F := F) (P := P) (g := g) (by omega) (by omega) f (by omega)) (cwV 1 Fx.2.2.2.2 gX1_isSame_X0_carried rfl rfl rfl (by decide +kernel) ⟨Nat.le_of_ble_eq_true rfl, Nat.le_of_ble_eq_true rfl⟩) BW.bl (va_recv hK hP (ci := 0) (q0 := 0) rfl rfl) (BWb hqs hP hL hS) rfl hl.1 rfl (Nat.le_of_ble_eq_true rfl) dX1_isSame_93 ⟨by show _ ≤ 340; omega, by show _ ≤ 4100; omega⟩ ?_
  refine lv_aload_n hx hb dX1_isSame_96 rfl (lv_at hl 1 rfl) ?_
  obtain ⟨T9, hR9, hQ⟩ := id hQX
  refine g_get Fx hin hK 1 hQ.o rfl 1 (by decide) (by decide +kernel) rfl dX1_isSame_97 ?_
  refine lv_iload hx hb dX1_isSame_100 (lv_at hl 7 rfl) ?_
  obtain ⟨T9, hR9, hQ⟩ := id hQX
  refine g_iald Fx hK hQ.ca 0 rfl (i := f) (by omega) (by omega) dX1_isSame_102 ?_
  refine lv_icmp_ne (tgt := 141) hx hb dX1_isSame_103 (by decide) (fun h3 => absurd rfl h3) (fun h3 => ?_)
  refine lv_aload_n hx hb dX1_isSame_106 rfl (lv_at hl 2 rfl) ?_
  refine lv_iload hx hb dX1_isSame_107 (lv_at hl 7 rfl) ?_
  refine r_callR (rest := []) Fx (m_X0_hasMaster_r l (D := D) (ci := ci) (cz := cz) (cj := cj) (q := q) (F := F) (P := P) (g := g) (by omega) (by omega) f (by omega)) (cwV 1 Fx.2.2.2.2 gX1_isSame_X0_hasMaster rfl rfl rfl (by decide +kernel) ⟨Nat.le_of_ble_eq_true rfl, Nat.le_of_ble_eq_true rfl⟩) BW.bl (va_recv hK hP (ci := 0) (q0 := 0) rfl rfl) (BWb hqs hP hL hS) rfl hl.1 rfl (Nat.le_of_ble_eq_true rfl) dX1_isSame_109 ⟨by show _ ≤ 340; omega, by show _ ≤ 4100; omega⟩ ?_
  refine lv_iload hx hb dX1_isSame_112 (lv_at hl 0 rfl) ?_
  refine r_selN hx hb dX1_isSame_114 dX1_isSame_117 dX1_isSame_118 dX1_isSame_121 ?_
  refine lv_icmp_ne (tgt := 141) hx hb dX1_isSame_122 (by decide) (fun h4 => absurd (by rw [mas_ne (by omega)]) h4) (fun h4 => ?_)
  refine r_via (pc2 := 143) (fun kj143 => ?_) ?_
  · refine lv_iload hx hb dX1_isSame_125 (lv_at hl 0 rfl) ?_
    refine lv_if_lt (tgt := 143) hx hb dX1_isSame_127 (by decide) (fun h5 => ?_) (fun h5 => ?_)
    · exact kj143
    · have h5 := Int32.not_lt.mp h5
      refine lv_aload_n hx hb dX1_isSame_130 rfl (lv_at hl 2 rfl) ?_
      refine lv_iload hx hb dX1_isSame_131 (lv_at hl 7 rfl) ?_
      refine r_callR (rest := []) Fx (m_X0_master_r l (D := D) (ci := ci) (cz := cz) (cj := cj) (q := q) (F := F) (P := P) (g := g) (by omega) (by omega) f (by omega) (mas_no (Int32.not_lt.mpr h5))) (cwV 1 Fx.2.2.2.2 gX1_isSame_X0_master rfl rfl rfl (by decide +kernel) ⟨Nat.le_of_ble_eq_true rfl, Nat.le_of_ble_eq_true rfl⟩) BW.bl (va_recv hK hP (ci := 0) (q0 := 0) rfl rfl) (BWb hqs hP hL hS) rfl hl.1 rfl (Nat.le_of_ble_eq_true rfl) dX1_isSame_133 ⟨by show _ ≤ 340; omega, by show _ ≤ 4100; omega⟩ ?_
      refine lv_iload hx hb dX1_isSame_136 (lv_at hl 0 rfl) ?_
      refine lv_icmp_eq (tgt := 143) hx hb dX1_isSame_138 (by decide) (fun h6 => ?_) (fun h6 => absurd rfl h6)
      exact kj143
  · refine lv_iconst (v := nI 0) hx hb dX1_isSame_143 (by decide) ?_
    refine lv_istore (lv' := [(8, .int (nI 0)), (7, .int (sMas g P f)), (0, .ref (A 0)), (1, .ref (q 0)), (2, .int (nI 0)), (3, .int (nI 0)), (4, .int (-1)), (5, .ref a1), (6, .int (nI f))]) hx hb dX1_isSame_144 hl (by decide) rfl (fun ls hl => ?_)
    refine wloop (nL := 13) (N := 4) (fun _ => True) (fun w => [(0, .ref (A 0)), (1, .ref (q 0)), (2, .int (nI 0)), (3, .int (nI 0)), (4, .int (-1)), (5, .ref a1), (6, .int (nI f)), (7, .int (sMas g P f)), (8, .int (nI w))]) (fun w H => va_P D vwCl (w0 ci cz q F P g) H ∧ SS D ci cj A F P g H ∧ isI D ci H a1 P (Tq g f w)) trivial ⟨hP, hQX, ha1.cg (fun j _ => (Tq_0 f j).symm)⟩ hS (lv_sub hl [2, 3, 4, 5, 6, 7, 8, 1, 0] rfl) ?_ ?_
    · intro _ H locs ls hW hS hl
      obtain ⟨hP, hQX, ha1⟩ := hW
      have hl : lv_has ls 13 [(0, .ref (A 0)), (1, .ref (q 0)), (2, .int (nI 0)), (3, .int (nI 0)), (4, .int (-1)), (5, .ref a1), (6, .int (nI f)), (7, .int (sMas g P f)), (8, .int (nI 4))] := hl
      refine lv_iload hx hb dX1_isSame_146 (lv_at hl 8 rfl) ?_
      refine lv_iconst (v := nI 4) hx hb dX1_isSame_148 (by decide) ?_
      refine n_icmp_ge (tgt := 363) hx hb (by omega) (by omega) dX1_isSame_149 (by decide) (fun h7 => ?_) (fun h7 => by omega)
      refine lv_iinc (v := nI (f + 1)) (lv' := [(6, .int (nI (f + 1))), (0, .ref (A 0)), (1, .ref (q 0)), (2, .int (nI 0)), (3, .int (nI 0)), (4, .int (-1)), (5, .ref a1), (7, .int (sMas g P f)), (8, .int (nI 4))]) hx hb dX1_isSame_363 hl (k := 6) rfl (nI_inc _ 1) (by decide) rfl (fun ls hl => ?_)
      refine lv_goto (tgt := 56) hx hb dX1_isSame_366 (by decide) ?_
      exact kk H locs ls hP hQX (ha1.cg (fun _ _ => rfl)) hS (lv_sub hl [1, 2, 3, 4, 5, 6, 0] rfl)
    · intro w hw _ ih H locs ls hW hS hl
      obtain ⟨hP, hQX, ha1⟩ := hW
      exact sW (k := 0) (v := 0) Fx hL hq hqs hsz (by omega) (by omega) hAD hI hP hQX ha1 lq lp1 hz1 hS hl hf hw (fun H locs ls hP hQX ha1 hS hl => ih trivial H locs ls ⟨hP, hQX, ha1⟩ hS hl)
set_option maxHeartbeats 8000000 in
set_option maxRecDepth 100000 in
theorem sK {pg : Program} {l : Launch} {en : Env} {s : State} {m : MethodId} {args : Array Value} {bl : List Frame} {mt : Method} {cd : Code} {ls : Array Slot} {H : Heap} {locs : List Loc} {c0 s0 : Nat} {Q : State → Prop} {D : va_G} {ci cz : ClassId} {cj : ClassId × ClassId} {q : Nat → Nat} {sz : Nat} {A : Nat → Nat} {F P nn : Nat} {g : Nat → Nat → Int32} {a1 : Nat} {f w k : Nat} {v : Int32} (Fx : CallFix pg m cd cX1_isSame 13 s args wsX1_isSame RX1) (hL : EL D ci cz cj sz s) (hq : DQ q 8) (hqs : ∀ k, k < 8 → sz ≤ q k) (hsz : sz ≤ s.heap.size) (hcc : c0 + 26 ≤ 340) (hss : s0 + 320 ≤ 4100) (hAD : AD q sz A F P) (hI : Ix nn F P g) (hP : va_P D vwCl (w0 ci cz q F P g) H) (hQX : SS D ci cj A F P g H) (ha1 : isI D ci H a1 P (sAll g F)) (lq : ∀ j, sV F P j → A j < a1) (lp1 : ∀ k, k < 8 → q k < a1) (hz1 : sz ≤ a1) (hS : va_S (bg sz) s.heap H locs) (hl : lv_has ls 13 [(0, .ref (A 0)), (1, .ref (q 0)), (2, .int (nI (cn (fun z => lv g z) k))), (3, .int (sm (fun z => g 4 z) k)), (4, .int (rI1 g k)), (5, .ref a1), (6, .int (nI k))]) (hk : k < P)
    (kk : ∀ (H : Heap) (locs : List Loc) (ls : Array Slot), va_P D vwCl (w0 ci cz q F P g) H → SS D ci cj A F P g H → isI D ci H a1 P (sAll g F) → va_S (bg sz) s.heap H locs → lv_has ls 13 [(0, .ref (A 0)), (1, .ref (q 0)), (2, .int (nI (cn (fun z => lv g z) (k + 1)))), (3, .int (sm (fun z => g 4 z) (k + 1))), (4, .int (rI1 g (k + 1))), (5, .ref a1), (6, .int (nI (k + 1)))] → W pg l en ({ frames := 5, cells := 340, slots := 4100, locals := 113 } : Room) s m args bl mt cd H locs (c0 + 26) (s0 + 320) Q (F0 m 372 ls [])) : W pg l en ({ frames := 5, cells := 340, slots := 4100, locals := 113 } : Room) s m args bl mt cd H locs c0 s0 Q (F0 m 372 ls []) := by
  have hx := Fx.1
  have hb := Fx.2.1
  obtain ⟨hK, hE, hNC⟩ := id hL
  have hO := hE.2.2.2.2
  have hFb := hI.b.1
  have hPb := hI.b.2
  have hin : ∀ w ∈ wsX10, w ∈ wsX1_isSame := by decide +kernel
  refine lv_iload hx hb dX1_isSame_372 (lv_at hl 6 rfl) ?_
  refine lv_aload_n hx hb dX1_isSame_374 rfl (lv_at hl 0 rfl) ?_
  obtain ⟨T9, hR9, hQ⟩ := id hQX
  refine g_get Fx hin hK 1 hQ.o rfl 3 (by decide) (by decide +kernel) rfl dX1_isSame_375 ?_
  obtain ⟨T9, hR9, hQ⟩ := id hQX
  refine g_alenR Fx hK hQ.pe 2 rfl dX1_isSame_378 ?_
  refine n_icmp_ge (tgt := 669) hx hb (by omega) (by omega) dX1_isSame_379 (by decide) (fun h1 => by omega) (fun h1 => ?_)
  refine lv_aload_n hx hb dX1_isSame_382 rfl (lv_at hl 0 rfl) ?_
  obtain ⟨T9, hR9, hQ⟩ := id hQX
  refine g_get Fx hin hK 1 hQ.o rfl 3 (by decide) (by decide +kernel) rfl dX1_isSame_383 ?_
  refine lv_iload hx hb dX1_isSame_386 (lv_at hl 6 rfl) ?_
  obtain ⟨T9, hR9, hQ⟩ := id hQX
  refine g_aald Fx hK hQ.pe 2 rfl rfl (i := k) (by omega) (by omega) rfl dX1_isSame_388 ?_
  refine lv_astore (lv' := [(7, .ref (A (35 + k))), (0, .ref (A 0)), (1, .ref (q 0)), (2, .int (nI (cn (fun z => lv g z) k))), (3, .int (sm (fun z => g 4 z) k)), (4, .int (rI1 g k)), (5, .ref a1), (6, .int (nI k))]) hx hb dX1_isSame_389 hl (by decide) rfl (fun ls hl => ?_)
  refine lv_iconst (v := nI 0) hx hb dX1_isSame_391 (by decide) ?_
  refine lv_istore (lv' := [(8, .int (nI 0)), (7, .ref (A (35 + k))), (0, .ref (A 0)), (1, .ref (q 0)), (2, .int (nI (cn (fun z => lv g z) k))), (3, .int (sm (fun z => g 4 z) k)), (4, .int (rI1 g k)), (5, .ref a1), (6, .int (nI k))]) hx hb dX1_isSame_392 hl (by decide) rfl (fun ls hl => ?_)
  refine lv_aload_n hx hb dX1_isSame_394 rfl (lv_at hl 2 rfl) ?_
  obtain ⟨T9, hR9, hQ⟩ := id hQX
  refine g_get Fx hin hK 1 hQ.o rfl 3 (by decide) (by decide +kernel) rfl dX1_isSame_395 ?_
  refine lv_astore (lv' := [(9, .ref (A 4)), (8, .int (nI 0)), (7, .ref (A (35 + k))), (0, .ref (A 0)), (1, .ref (q 0)), (2, .int (nI (cn (fun z => lv g z) k))), (3, .int (sm (fun z => g 4 z) k)), (4, .int (rI1 g k)), (5, .ref a1), (6, .int (nI k))]) hx hb dX1_isSame_398 hl (by decide) rfl (fun ls hl => ?_)
  refine lv_aload hx hb dX1_isSame_400 (lv_at hl 0 rfl) ?_
  obtain ⟨T9, hR9, hQ⟩ := id hQX
  refine g_alenR Fx hK hQ.pe 2 rfl dX1_isSame_402 ?_
  refine lv_istore (lv' := [(10, .int (nI P)), (9, .ref (A 4)), (8, .int (nI 0)), (7, .ref (A (35 + k))), (0, .ref (A 0)), (1, .ref (q 0)), (2, .int (nI (cn (fun z => lv g z) k))), (3, .int (sm (fun z => g 4 z) k)), (4, .int (rI1 g k)), (5, .ref a1), (6, .int (nI k))]) hx hb dX1_isSame_403 hl (by decide) rfl (fun ls hl => ?_)
  refine lv_iconst (v := nI 0) hx hb dX1_isSame_405 (by decide) ?_
  refine lv_istore (lv' := [(11, .int (nI 0)), (10, .int (nI P)), (9, .ref (A 4)), (8, .int (nI 0)), (7, .ref (A (35 + k))), (0, .ref (A 0)), (1, .ref (q 0)), (2, .int (nI (cn (fun z => lv g z) k))), (3, .int (sm (fun z => g 4 z) k)), (4, .int (rI1 g k)), (5, .ref a1), (6, .int (nI k))]) hx hb dX1_isSame_406 hl (by decide) rfl (fun ls hl => ?_)
  refine rloop (nL := 13) (N := P) (fun _ => True) (fun i => [(0, .ref (A 0)), (1, .ref (q 0)), (2, .int (nI (cn (fun z => lv g z) k))), (3, .int (sm (fun z => g 4 z) k)), (4, .int (rI1 g k)), (5, .ref a1), (6, .int (nI k)), (7, .ref (A (35 + k))), (8, .int (nI (cn (fun z => decide (g 6 z = nI k)) i))), (9, .ref (A 4)), (10, .int (nI P)), (11, .int (nI i))]) trivial (lv_sub hl [5, 6, 7, 8, 9, 10, 11, 4, 3, 2, 1, 0] rfl) ?_ ?_
  · intro _ ls hl
    have hl : lv_has ls 13 [(0, .ref (A 0)), (1, .ref (q 0)), (2, .int (nI (cn (fun z => lv g z) k))), (3, .int (sm (fun z => g 4 z) k)), (4, .int (rI1 g k)), (5, .ref a1), (6, .int (nI k)), (7, .ref (A (35 + k))), (8, .int (nI (cn (fun z => decide (g 6 z = nI k)) P))), (9, .ref (A 4)), (10, .int (nI P)), (11, .int (nI P))] := hl
    have hcB : cn (fun z => decide (g 6 z = nI k)) P ≤ P := cn_le _ _
    refine lv_iload hx hb dX1_isSame_408 (lv_at hl 11 rfl) ?_
    refine lv_iload hx hb dX1_isSame_410 (lv_at hl 10 rfl) ?_
    refine n_icmp_ge (tgt := 447) hx hb (by omega) (by omega) dX1_isSame_412 (by decide) (fun h2 => ?_) (fun h2 => by omega)
    refine lv_aload_n hx hb dX1_isSame_447 rfl (lv_at hl 0 rfl) ?_
    refine lv_iload hx hb dX1_isSame_448 (lv_at hl 6 rfl) ?_
    have hz8 := Nat.le_trans hsz hS.1
    have hql := q_lt hP
    refine r_callM (rest := []) Fx (m_X1_heirs l (D := D) (ci := ci) (cz := cz) (cj := cj) (A := A) (F := F) (P := P) (g := g) _ (by omega) (by omega) k (by omega) hI.iv hI.c6) (cwV 1 Fx.2.2.2.2 gX1_isSame_X1_heirs rfl rfl rfl (by decide +kernel) ⟨Nat.le_of_ble_eq_true rfl, Nat.le_of_ble_eq_true rfl⟩) (fun U fr mk a h9 => ⟨h9.1, BX.bl U fr mk a h9.2⟩) (hQX.rc hK) (fun U hU hW => ⟨by rw [hU], BX.at hQX hK hO U hU hW⟩) rfl hl.1 rfl (Nat.le_of_ble_eq_true rfl) dX1_isSame_450 ⟨by show _ ≤ 340; omega, by show _ ≤ 4100; omega⟩ hS (fun q9 h9 => Nat.le_trans hz8 h9) (fun v H locs hv kp hS => ?_)
    obtain ⟨b1, he, rfl, lb1, hHe, hm1⟩ := hv
    have hQX : SS D ci cj A F P g H := hQX.new kp
    have ha1 : isI D ci H a1 P (sAll g F) := kp.new_at ha1
    have hP : va_P D vwCl (w0 ci cz q F P g) H := w0_n' hP (Nat.le_refl _) kp
    have hcc9 : sCHe g P k ≤ P := cn_le _ _
    refine lv_astore (lv' := [(9, .ref b1), (0, .ref (A 0)), (1, .ref (q 0)), (2, .int (nI (cn (fun z => lv g z) k))), (3, .int (sm (fun z => g 4 z) k)), (4, .int (rI1 g k)), (5, .ref a1), (6, .int (nI k)), (7, .ref (A (35 + k))), (8, .int (nI (cn (fun z => decide (g 6 z = nI k)) P))), (10, .int (nI P)), (11, .int (nI P))]) hx hb dX1_isSame_453 hl (by decide) rfl (fun ls hl => ?_)
    refine lv_aload_n hx hb dX1_isSame_455 rfl (lv_at hl 2 rfl) ?_
    refine lv_iload hx hb dX1_isSame_456 (lv_at hl 7 rfl) ?_
    refine r_callR (rest := []) Fx (m_X0_isAlive_r l (D := D) (ci := ci) (cz := cz) (cj := cj) (q := q) (F := F) (P := P) (g := g) (by omega) (by omega) k (by omega)) (cwV 1 Fx.2.2.2.2 gX1_isSame_X0_isAlive rfl rfl rfl (by decide +kernel) ⟨Nat.le_of_ble_eq_true rfl, Nat.le_of_ble_eq_true rfl⟩) BW.bl (va_recv hK hP (ci := 0) (q0 := 0) rfl rfl) (BWb hqs hP hL hS) rfl hl.1 rfl (Nat.le_of_ble_eq_true rfl) dX1_isSame_458 ⟨by show _ ≤ 340; omega, by show _ ≤ 4100; omega⟩ ?_
    refine lv_aload hx hb dX1_isSame_461 (lv_at hl 8 rfl) ?_
    refine lv_iconst (v := nI 3) hx hb dX1_isSame_463 (by decide) ?_
    obtain ⟨T9, hR9, hQ⟩ := id hQX
    refine g_iald Fx hK (hQ.pp (k := k) (by omega)) 0 rfl (i := 3) (by decide) (by decide) dX1_isSame_464 ?_
    refine r_as (g 3 k) rfl ?_
    refine r_sel hx hb dX1_isSame_465 dX1_isSame_468 dX1_isSame_469 dX1_isSame_472 ?_
    refine lv_icmp_ne (tgt := 580) hx hb dX1_isSame_473 (by decide) (fun h3 => absurd rfl h3) (fun h3 => ?_)
    refine lv_aload_n hx hb dX1_isSame_476 rfl (lv_at hl 2 rfl) ?_
    refine lv_iload hx hb dX1_isSame_477 (lv_at hl 7 rfl) ?_
    refine r_callR (rest := []) Fx (m_X0_coins_r l (D := D) (ci := ci) (cz := cz) (cj := cj) (q := q) (F := F) (P := P) (g := g) (by omega) (by omega) k (by omega)) (cwV 1 Fx.2.2.2.2 gX1_isSame_X0_coins rfl rfl rfl (by decide +kernel) ⟨Nat.le_of_ble_eq_true rfl, Nat.le_of_ble_eq_true rfl⟩) BW.bl (va_recv hK hP (ci := 0) (q0 := 0) rfl rfl) (BWb hqs hP hL hS) rfl hl.1 rfl (Nat.le_of_ble_eq_true rfl) dX1_isSame_479 ⟨by show _ ≤ 340; omega, by show _ ≤ 4100; omega⟩ ?_
    refine lv_aload hx hb dX1_isSame_482 (lv_at hl 8 rfl) ?_
    refine lv_iconst (v := nI 0) hx hb dX1_isSame_484 (by decide) ?_
    obtain ⟨T9, hR9, hQ⟩ := id hQX
    refine g_iald Fx hK (hQ.pp (k := k) (by omega)) 0 rfl (i := 0) (by decide) (by decide) dX1_isSame_485 ?_
    refine r_as (g 4 k) rfl ?_
    refine lv_icmp_ne (tgt := 580) hx hb dX1_isSame_486 (by decide) (fun h4 => absurd rfl h4) (fun h4 => ?_)
    refine lv_aload_n hx hb dX1_isSame_489 rfl (lv_at hl 2 rfl) ?_
    refine lv_iload hx hb dX1_isSame_490 (lv_at hl 7 rfl) ?_
    refine r_callR (rest := []) Fx (m_X0_earned_r l (D := D) (ci := ci) (cz := cz) (cj := cj) (q := q) (F := F) (P := P) (g := g) (by omega) (by omega) k (by omega)) (cwV 1 Fx.2.2.2.2 gX1_isSame_X0_earned rfl rfl rfl (by decide +kernel) ⟨Nat.le_of_ble_eq_true rfl, Nat.le_of_ble_eq_true rfl⟩) BW.bl (va_recv hK hP (ci := 0) (q0 := 0) rfl rfl) (BWb hqs hP hL hS) rfl hl.1 rfl (Nat.le_of_ble_eq_true rfl) dX1_isSame_492 ⟨by show _ ≤ 340; omega, by show _ ≤ 4100; omega⟩ ?_
    refine lv_aload hx hb dX1_isSame_495 (lv_at hl 8 rfl) ?_
    refine lv_iconst (v := nI 1) hx hb dX1_isSame_497 (by decide) ?_
    obtain ⟨T9, hR9, hQ⟩ := id hQX
    refine g_iald Fx hK (hQ.pp (k := k) (by omega)) 0 rfl (i := 1) (by decide) (by decide) dX1_isSame_498 ?_
    refine r_as (g 5 k) rfl ?_
    refine lv_icmp_ne (tgt := 580) hx hb dX1_isSame_499 (by decide) (fun h5 => absurd rfl h5) (fun h5 => ?_)
    refine lv_aload_n hx hb dX1_isSame_502 rfl (lv_at hl 2 rfl) ?_
    refine lv_iload hx hb dX1_isSame_503 (lv_at hl 7 rfl) ?_
    refine r_callR (rest := []) Fx (m_X0_hasParent_r l (D := D) (ci := ci) (cz := cz) (cj := cj) (q := q) (F := F) (P := P) (g := g) (by omega) (by omega) k (by omega)) (cwV 1 Fx.2.2.2.2 gX1_isSame_X0_hasParent rfl rfl rfl (by decide +kernel) ⟨Nat.le_of_ble_eq_true rfl, Nat.le_of_ble_eq_true rfl⟩) BW.bl (va_recv hK hP (ci := 0) (q0 := 0) rfl rfl) (BWb hqs hP hL hS) rfl hl.1 rfl (Nat.le_of_ble_eq_true rfl) dX1_isSame_505 ⟨by show _ ≤ 340; omega, by show _ ≤ 4100; omega⟩ ?_
    refine lv_aload hx hb dX1_isSame_508 (lv_at hl 8 rfl) ?_
    refine lv_iconst (v := nI 2) hx hb dX1_isSame_510 (by decide) ?_
    obtain ⟨T9, hR9, hQ⟩ := id hQX
    refine g_iald Fx hK (hQ.pp (k := k) (by omega)) 0 rfl (i := 2) (by decide) (by decide) dX1_isSame_511 ?_
    refine r_as (g 6 k) rfl ?_
    refine r_selN hx hb dX1_isSame_512 dX1_isSame_515 dX1_isSame_516 dX1_isSame_519 ?_
    refine lv_icmp_ne (tgt := 580) hx hb dX1_isSame_520 (by decide) (fun h6 => absurd (by rw [par_ne hI hk]) h6) (fun h6 => ?_)
    refine r_via (pc2 := 543) (fun kj543 => ?_) ?_
    · refine lv_aload hx hb dX1_isSame_523 (lv_at hl 8 rfl) ?_
      refine lv_iconst (v := nI 2) hx hb dX1_isSame_525 (by decide) ?_
      obtain ⟨T9, hR9, hQ⟩ := id hQX
      refine g_iald Fx hK (hQ.pp (k := k) (by omega)) 0 rfl (i := 2) (by decide) (by decide) dX1_isSame_526 ?_
      refine r_as (g 6 k) rfl ?_
      refine lv_if_lt (tgt := 543) hx hb dX1_isSame_527 (by decide) (fun h7 => ?_) (fun h7 => ?_)
      · exact kj543
      · have h7 := Int32.not_lt.mp h7
        refine lv_aload_n hx hb dX1_isSame_530 rfl (lv_at hl 2 rfl) ?_
        refine lv_iload hx hb dX1_isSame_531 (lv_at hl 7 rfl) ?_
        refine r_callR (rest := []) Fx (m_X0_parent_r l (D := D) (ci := ci) (cz := cz) (cj := cj) (q := q) (F := F) (P := P) (g := g) (by omega) (by omega) k (by omega) (fun e9 => absurd h7 (by rw [e9]; decide))) (cwV 1 Fx.2.2.2.2 gX1_isSame_X0_parent rfl rfl rfl (by decide +kernel) ⟨Nat.le_of_ble_eq_true rfl, Nat.le_of_ble_eq_true rfl⟩) BW.bl (va_recv hK hP (ci := 0) (q0 := 0) rfl rfl) (BWb hqs hP hL hS) rfl hl.1 rfl (Nat.le_of_ble_eq_true rfl) dX1_isSame_533 ⟨by show _ ≤ 340; omega, by show _ ≤ 4100; omega⟩ ?_
        refine lv_aload hx hb dX1_isSame_536 (lv_at hl 8 rfl) ?_
        refine lv_iconst (v := nI 2) hx hb dX1_isSame_538 (by decide) ?_
        obtain ⟨T9, hR9, hQ⟩ := id hQX
        refine g_iald Fx hK (hQ.pp (k := k) (by omega)) 0 rfl (i := 2) (by decide) (by decide) dX1_isSame_539 ?_
        refine r_as (g 6 k) rfl ?_
        refine lv_icmp_ne (tgt := 580) hx hb dX1_isSame_540 (by decide) (fun h8 => absurd rfl h8) (fun h8 => ?_)
        exact kj543
    · refine lv_aload_n hx hb dX1_isSame_543 rfl (lv_at hl 2 rfl) ?_
      refine lv_iload hx hb dX1_isSame_544 (lv_at hl 7 rfl) ?_
      refine r_callR (rest := []) Fx (m_X0_children_r l (D := D) (ci := ci) (cz := cz) (cj := cj) (q := q) (F := F) (P := P) (g := g) (by omega) (by omega) k (by omega)) (cwV 1 Fx.2.2.2.2 gX1_isSame_X0_children rfl rfl rfl (by decide +kernel) ⟨Nat.le_of_ble_eq_true rfl, Nat.le_of_ble_eq_true rfl⟩) BW.bl (va_recv hK hP (ci := 0) (q0 := 0) rfl rfl) (BWb hqs hP hL hS) rfl hl.1 rfl (Nat.le_of_ble_eq_true rfl) dX1_isSame_546 ⟨by show _ ≤ 340; omega, by show _ ≤ 4100; omega⟩ ?_
      have hv546 : sChi g P k ≤ P := cn_le _ _
      refine lv_iload hx hb dX1_isSame_549 (lv_at hl 9 rfl) ?_
      refine n_icmp_ne (tgt := 580) hx hb (by omega) (by omega) dX1_isSame_551 (by decide) (fun h9 => absurd rfl h9) (fun h9 => ?_)
      refine lv_aload_n hx hb dX1_isSame_554 rfl (lv_at hl 2 rfl) ?_
      refine lv_iload hx hb dX1_isSame_555 (lv_at hl 7 rfl) ?_
      refine r_callR (rest := []) Fx (m_X0_allShares_r l (D := D) (ci := ci) (cz := cz) (cj := cj) (q := q) (F := F) (P := P) (g := g) (by omega) (by omega) k (by omega)) (cwV 1 Fx.2.2.2.2 gX1_isSame_X0_allShares rfl rfl rfl (by decide +kernel) ⟨Nat.le_of_ble_eq_true rfl, Nat.le_of_ble_eq_true rfl⟩) BW.bl (va_recv hK hP (ci := 0) (q0 := 0) rfl rfl) (BWb hqs hP hL hS) rfl hl.1 rfl (Nat.le_of_ble_eq_true rfl) dX1_isSame_557 ⟨by show _ ≤ 340; omega, by show _ ≤ 4100; omega⟩ ?_
      refine lv_aload hx hb dX1_isSame_560 (lv_at hl 6 rfl) ?_
      refine lv_iload hx hb dX1_isSame_562 (lv_at hl 7 rfl) ?_
      refine g_iald Fx hK ha1 0 rfl (i := k) (by omega) (by omega) dX1_isSame_564 ?_
      refine lv_icmp_ne (tgt := 580) hx hb dX1_isSame_565 (by decide) (fun h10 => absurd rfl h10) (fun h10 => ?_)
      refine lv_aload_n hx hb dX1_isSame_568 rfl (lv_at hl 2 rfl) ?_
      refine lv_iload hx hb dX1_isSame_569 (lv_at hl 7 rfl) ?_
      refine r_callR (rest := []) Fx (m_X0_heirs_r l (D := D) (ci := ci) (cz := cz) (cj := cj) (q := q) (F := F) (P := P) (g := g) (by omega) (by omega) k (by omega)) (cwV 1 Fx.2.2.2.2 gX1_isSame_X0_heirs rfl rfl rfl (by decide +kernel) ⟨Nat.le_of_ble_eq_true rfl, Nat.le_of_ble_eq_true rfl⟩) BW.bl (va_recv hK hP (ci := 0) (q0 := 0) rfl rfl) (BWb hqs hP hL hS) rfl hl.1 rfl (Nat.le_of_ble_eq_true rfl) dX1_isSame_571 ⟨by show _ ≤ 340; omega, by show _ ≤ 4100; omega⟩ ?_
      have hv571 : sCHe g P k ≤ P := cn_le _ _
      refine lv_aload hx hb dX1_isSame_574 (lv_at hl 0 rfl) ?_
      refine g_alenI Fx hK hm1 0 rfl dX1_isSame_576 ?_
      refine n_icmp_eq (tgt := 582) hx hb (by omega) (by omega) dX1_isSame_577 (by decide) (fun h11 => ?_) (fun h11 => absurd rfl h11)
      refine lv_iconst (v := nI 0) hx hb dX1_isSame_582 (by decide) ?_
      refine lv_istore (lv' := [(10, .int (nI 0)), (9, .ref b1), (0, .ref (A 0)), (1, .ref (q 0)), (2, .int (nI (cn (fun z => lv g z) k))), (3, .int (sm (fun z => g 4 z) k)), (4, .int (rI1 g k)), (5, .ref a1), (6, .int (nI k)), (7, .ref (A (35 + k))), (8, .int (nI (cn (fun z => decide (g 6 z = nI k)) P))), (11, .int (nI P))]) hx hb dX1_isSame_583 hl (by decide) rfl (fun ls hl => ?_)
      refine rloop (nL := 13) (N := sCHe g P k) (fun _ => True) (fun i => [(0, .ref (A 0)), (1, .ref (q 0)), (2, .int (nI (cn (fun z => lv g z) k))), (3, .int (sm (fun z => g 4 z) k)), (4, .int (rI1 g k)), (5, .ref a1), (6, .int (nI k)), (7, .ref (A (35 + k))), (9, .ref b1), (10, .int (nI i))]) trivial (lv_sub hl [2, 3, 4, 5, 6, 7, 8, 9, 1, 0] rfl) ?_ ?_
      · intro _ ls hl
        have hl : lv_has ls 13 [(0, .ref (A 0)), (1, .ref (q 0)), (2, .int (nI (cn (fun z => lv g z) k))), (3, .int (sm (fun z => g 4 z) k)), (4, .int (rI1 g k)), (5, .ref a1), (6, .int (nI k)), (7, .ref (A (35 + k))), (9, .ref b1), (10, .int (nI (sCHe g P k)))] := hl
        refine lv_iload hx hb dX1_isSame_585 (lv_at hl 9 rfl) ?_
        refine lv_aload hx hb dX1_isSame_587 (lv_at hl 8 rfl) ?_
        refine g_alenI Fx hK hm1 0 rfl dX1_isSame_589 ?_
        refine n_icmp_ge (tgt := 617) hx hb (by omega) (by omega) dX1_isSame_590 (by decide) (fun h12 => ?_) (fun h12 => by omega)
        refine lv_iload_n hx hb dX1_isSame_617 rfl (lv_at hl 3 rfl) ?_
        refine lv_aload hx hb dX1_isSame_618 (lv_at hl 7 rfl) ?_
        refine lv_iconst (v := nI 0) hx hb dX1_isSame_620 (by decide) ?_
        obtain ⟨T9, hR9, hQ⟩ := id hQX
        refine g_iald Fx hK (hQ.pp (k := k) (by omega)) 0 rfl (i := 0) (by decide) (by decide) dX1_isSame_621 ?_
        refine r_as (g 4 k) rfl ?_
        refine lv_iadd hx hb dX1_isSame_622 ?_
        refine lv_istore_n (lv' := [(3, .int ((sm (fun z => g 4 z) k) + (g 4 k))), (0, .ref (A 0)), (1, .ref (q 0)), (2, .int (nI (cn (fun z => lv g z) k))), (4, .int (rI1 g k)), (5, .ref a1), (6, .int (nI k)), (7, .ref (A (35 + k))), (9, .ref b1), (10, .int (nI (sCHe g P k)))]) hx hb dX1_isSame_623 rfl hl (by decide) rfl (fun ls hl => ?_)
        refine lv_aload hx hb dX1_isSame_624 (lv_at hl 7 rfl) ?_
        refine lv_iconst (v := nI 3) hx hb dX1_isSame_626 (by decide) ?_
        obtain ⟨T9, hR9, hQ⟩ := id hQX
        refine g_iald Fx hK (hQ.pp (k := k) (by omega)) 0 rfl (i := 3) (by decide) (by decide) dX1_isSame_627 ?_
        refine r_as (g 3 k) rfl ?_
        refine lv_iconst (v := nI 1) hx hb dX1_isSame_628 (by decide) ?_
        refine lv_icmp_ne (tgt := 635) hx hb dX1_isSame_629 (by decide) (fun h13 => ?_) (fun h13 => ?_)
        · have hlv : lv g k = true := decide_eq_true ((hI.c3 k).resolve_right h13)
          refine lv_iinc (v := nI (cn (fun z => lv g z) k + 1)) (lv' := [(2, .int (nI (cn (fun z => lv g z) k + 1))), (3, .int ((sm (fun z => g 4 z) k) + (g 4 k))), (0, .ref (A 0)), (1, .ref (q 0)), (4, .int (rI1 g k)), (5, .ref a1), (6, .int (nI k)), (7, .ref (A (35 + k))), (9, .ref b1), (10, .int (nI (sCHe g P k)))]) hx hb dX1_isSame_635 hl (k := 3) rfl (nI_inc _ 1) (by decide) rfl (fun ls hl => ?_)
          refine lv_iload hx hb dX1_isSame_638 (lv_at hl 4 rfl) ?_
          refine lv_if_lt (tgt := 659) hx hb dX1_isSame_640 (by decide) (fun h14 => ?_) (fun h14 => ?_)
          · refine lv_iload hx hb dX1_isSame_659 (lv_at hl 6 rfl) ?_
            refine lv_istore (lv' := [(4, .int (nI k)), (2, .int (nI (cn (fun z => lv g z) k + 1))), (3, .int ((sm (fun z => g 4 z) k) + (g 4 k))), (0, .ref (A 0)), (1, .ref (q 0)), (5, .ref a1), (6, .int (nI k)), (7, .ref (A (35 + k))), (9, .ref b1), (10, .int (nI (sCHe g P k)))]) hx hb dX1_isSame_661 hl (by decide) rfl (fun ls hl => ?_)
            refine lv_iinc (v := nI (k + 1)) (lv' := [(6, .int (nI (k + 1))), (4, .int (nI k)), (2, .int (nI (cn (fun z => lv g z) k + 1))), (3, .int ((sm (fun z => g 4 z) k) + (g 4 k))), (0, .ref (A 0)), (1, .ref (q 0)), (5, .ref a1), (7, .ref (A (35 + k))), (9, .ref b1), (10, .int (nI (sCHe g P k)))]) hx hb dX1_isSame_663 hl (k := 6) rfl (nI_inc _ 1) (by decide) rfl (fun ls hl => ?_)
            refine lv_goto (tgt := 372) hx hb dX1_isSame_666 (by decide) ?_
            have e2_ : cn (fun z => lv g z) (k + 1) = cn (fun z => lv g z) k + 1 := cn_y hlv
            have e4_ : rI1 g (k + 1) = nI k := (rI1_new hI.iv hlv h14 (by omega))
            refine W.widen (k := c0 + 26) (n := s0 + 320) (by omega) (by omega) ?_
            exact kk H locs ls hP hQX ha1 hS (by rw [e2_, e4_]; exact lv_sub hl [4, 5, 2, 3, 1, 6, 0] rfl)
          · have h14 := Int32.not_lt.mp h14
            obtain ⟨j, hj, ej, e2⟩ := rI1_at hI.iv (Int32.not_lt.mpr h14)
            rw [ej] at hl
            have hl : lv_has ls 13 [(2, .int (nI (cn (fun z => lv g z) k + 1))), (3, .int ((sm (fun z => g 4 z) k) + (g 4 k))), (0, .ref (A 0)), (1, .ref (q 0)), (4, .int (nI j)), (5, .ref a1), (6, .int (nI k)), (7, .ref (A (35 + k))), (9, .ref b1), (10, .int (nI (sCHe g P k)))] := hl
            refine lv_aload hx hb dX1_isSame_643 (lv_at hl 7 rfl) ?_
            refine lv_iconst (v := nI 0) hx hb dX1_isSame_645 (by decide) ?_
            obtain ⟨T9, hR9, hQ⟩ := id hQX
            refine g_iald Fx hK (hQ.pp (k := k) (by omega)) 0 rfl (i := 0) (by decide) (by decide) dX1_isSame_646 ?_
            refine r_as (g 4 k) rfl ?_
            refine lv_aload_n hx hb dX1_isSame_647 rfl (lv_at hl 2 rfl) ?_
            obtain ⟨T9, hR9, hQ⟩ := id hQX
            refine g_get Fx hin hK 1 hQ.o rfl 3 (by decide) (by decide +kernel) rfl dX1_isSame_648 ?_
            refine lv_iload hx hb dX1_isSame_651 (lv_at hl 4 rfl) ?_
            obtain ⟨T9, hR9, hQ⟩ := id hQX
            refine g_aald Fx hK hQ.pe 2 rfl rfl (i := j) (by omega) (by omega) rfl dX1_isSame_653 ?_
            refine lv_iconst (v := nI 0) hx hb dX1_isSame_654 (by decide) ?_
            obtain ⟨T9, hR9, hQ⟩ := id hQX
            refine g_iald Fx hK (hQ.pp (k := j) (by omega)) 0 rfl (i := 0) (by decide) (by decide) dX1_isSame_655 ?_
            refine r_as (g 4 j) rfl ?_
            refine lv_icmp_le (tgt := 663) hx hb dX1_isSame_656 (by decide) (fun h15 => ?_) (fun h15 => ?_)
            · refine lv_iinc (v := nI (k + 1)) (lv' := [(6, .int (nI (k + 1))), (2, .int (nI (cn (fun z => lv g z) k + 1))), (3, .int ((sm (fun z => g 4 z) k) + (g 4 k))), (0, .ref (A 0)), (1, .ref (q 0)), (4, .int (nI j)), (5, .ref a1), (7, .ref (A (35 + k))), (9, .ref b1), (10, .int (nI (sCHe g P k)))]) hx hb dX1_isSame_663 hl (k := 6) rfl (nI_inc _ 1) (by decide) rfl (fun ls hl => ?_)
              refine lv_goto (tgt := 372) hx hb dX1_isSame_666 (by decide) ?_
              have e2_ : cn (fun z => lv g z) (k + 1) = cn (fun z => lv g z) k + 1 := cn_y hlv
              have e4_ : rI1 g (k + 1) = nI j := ((rI1_le e2 h15).trans ej)
              refine W.widen (k := c0 + 26) (n := s0 + 320) (by omega) (by omega) ?_
              exact kk H locs ls hP hQX ha1 hS (by rw [e2_, e4_]; exact lv_sub hl [3, 4, 1, 2, 5, 6, 0] rfl)
            · have h15 := Int32.not_le.mp h15
              refine lv_iload hx hb dX1_isSame_659 (lv_at hl 6 rfl) ?_
              refine lv_istore (lv' := [(4, .int (nI k)), (2, .int (nI (cn (fun z => lv g z) k + 1))), (3, .int ((sm (fun z => g 4 z) k) + (g 4 k))), (0, .ref (A 0)), (1, .ref (q 0)), (5, .ref a1), (6, .int (nI k)), (7, .ref (A (35 + k))), (9, .ref b1), (10, .int (nI (sCHe g P k)))]) hx hb dX1_isSame_661 hl (by decide) rfl (fun ls hl => ?_)
              refine lv_iinc (v := nI (k + 1)) (lv' := [(6, .int (nI (k + 1))), (4, .int (nI k)), (2, .int (nI (cn (fun z => lv g z) k + 1))), (3, .int ((sm (fun z => g 4 z) k) + (g 4 k))), (0, .ref (A 0)), (1, .ref (q 0)), (5, .ref a1), (7, .ref (A (35 + k))), (9, .ref b1), (10, .int (nI (sCHe g P k)))]) hx hb dX1_isSame_663 hl (k := 6) rfl (nI_inc _ 1) (by decide) rfl (fun ls hl => ?_)
              refine lv_goto (tgt := 372) hx hb dX1_isSame_666 (by decide) ?_
              have e2_ : cn (fun z => lv g z) (k + 1) = cn (fun z => lv g z) k + 1 := cn_y hlv
              have e4_ : rI1 g (k + 1) = nI k := (rI1_gt hlv e2 h15)
              refine W.widen (k := c0 + 26) (n := s0 + 320) (by omega) (by omega) ?_
              exact kk H locs ls hP hQX ha1 hS (by rw [e2_, e4_]; exact lv_sub hl [4, 5, 2, 3, 1, 6, 0] rfl)
        · have hlv : lv g k = false := decide_eq_false (by rw [h13]; decide)
          refine lv_goto (tgt := 663) hx hb dX1_isSame_632 (by decide) ?_
          refine lv_iinc (v := nI (k + 1)) (lv' := [(6, .int (nI (k + 1))), (3, .int ((sm (fun z => g 4 z) k) + (g 4 k))), (0, .ref (A 0)), (1, .ref (q 0)), (2, .int (nI (cn (fun z => lv g z) k))), (4, .int (rI1 g k)), (5, .ref a1), (7, .ref (A (35 + k))), (9, .ref b1), (10, .int (nI (sCHe g P k)))]) hx hb dX1_isSame_663 hl (k := 6) rfl (nI_inc _ 1) (by decide) rfl (fun ls hl => ?_)
          refine lv_goto (tgt := 372) hx hb dX1_isSame_666 (by decide) ?_
          have e2_ : cn (fun z => lv g z) (k + 1) = cn (fun z => lv g z) k := cn_n hlv
          have e4_ : rI1 g (k + 1) = rI1 g k := (rI1_dead hlv)
          refine W.widen (k := c0 + 26) (n := s0 + 320) (by omega) (by omega) ?_
          exact kk H locs ls hP hQX ha1 hS (by rw [e2_, e4_]; exact lv_sub hl [2, 3, 4, 1, 5, 6, 0] rfl)
      · intro i hi _ ih ls hl
        have hl : lv_has ls 13 [(0, .ref (A 0)), (1, .ref (q 0)), (2, .int (nI (cn (fun z => lv g z) k))), (3, .int (sm (fun z => g 4 z) k)), (4, .int (rI1 g k)), (5, .ref a1), (6, .int (nI k)), (7, .ref (A (35 + k))), (9, .ref b1), (10, .int (nI i))] := hl
        refine lv_iload hx hb dX1_isSame_585 (lv_at hl 9 rfl) ?_
        refine lv_aload hx hb dX1_isSame_587 (lv_at hl 8 rfl) ?_
        refine g_alenI Fx hK hm1 0 rfl dX1_isSame_589 ?_
        refine n_icmp_ge (tgt := 617) hx hb (by omega) (by omega) dX1_isSame_590 (by decide) (fun h16 => by omega) (fun h16 => ?_)
        refine lv_aload_n hx hb dX1_isSame_593 rfl (lv_at hl 1 rfl) ?_
        refine lv_iload hx hb dX1_isSame_594 (lv_at hl 6 rfl) ?_
        refine lv_iload hx hb dX1_isSame_596 (lv_at hl 9 rfl) ?_
        refine r_callR (rest := []) Fx (m_X0_heir_r l (D := D) (ci := ci) (cz := cz) (cj := cj) (q := q) (F := F) (P := P) (g := g) (by omega) (by omega) k (nI i) (by omega) (fh_in (by omega) hHe hi).2) (cwV 2 Fx.2.2.2.2 gX1_isSame_X0_heir rfl rfl rfl (by decide +kernel) ⟨Nat.le_of_ble_eq_true rfl, Nat.le_of_ble_eq_true rfl⟩) BW.bl (va_recv hK hP (ci := 0) (q0 := 0) rfl rfl) (BWb hqs hP hL hS) rfl hl.1 rfl (Nat.le_of_ble_eq_true rfl) dX1_isSame_598 ⟨by show _ ≤ 340; omega, by show _ ≤ 4100; omega⟩ ?_
        refine lv_aload hx hb dX1_isSame_601 (lv_at hl 8 rfl) ?_
        refine lv_iload hx hb dX1_isSame_603 (lv_at hl 9 rfl) ?_
        refine g_iald Fx hK hm1 0 rfl (i := i) (by omega) (by omega) dX1_isSame_605 ?_
        refine lv_icmp_eq (tgt := 611) hx hb dX1_isSame_606 (by decide) (fun h17 => ?_) (fun h17 => absurd (fh_in (by omega) hHe hi).1.symm h17)
        refine lv_iinc (v := nI (i + 1)) (lv' := [(10, .int (nI (i + 1))), (0, .ref (A 0)), (1, .ref (q 0)), (2, .int (nI (cn (fun z => lv g z) k))), (3, .int (sm (fun z => g 4 z) k)), (4, .int (rI1 g k)), (5, .ref a1), (6, .int (nI k)), (7, .ref (A (35 + k))), (9, .ref b1)]) hx hb dX1_isSame_611 hl (k := 9) rfl (nI_inc _ 1) (by decide) rfl (fun ls hl => ?_)
        refine lv_goto (tgt := 585) hx hb dX1_isSame_614 (by decide) ?_
        exact ih trivial ls (lv_sub hl [1, 2, 3, 4, 5, 6, 7, 8, 9, 0] rfl)
  · intro i hi _ ih ls hl
    have hl : lv_has ls 13 [(0, .ref (A 0)), (1, .ref (q 0)), (2, .int (nI (cn (fun z => lv g z) k))), (3, .int (sm (fun z => g 4 z) k)), (4, .int (rI1 g k)), (5, .ref a1), (6, .int (nI k)), (7, .ref (A (35 + k))), (8, .int (nI (cn (fun z => decide (g 6 z = nI k)) i))), (9, .ref (A 4)), (10, .int (nI P)), (11, .int (nI i))] := hl
    refine lv_iload hx hb dX1_isSame_408 (lv_at hl 11 rfl) ?_
    refine lv_iload hx hb dX1_isSame_410 (lv_at hl 10 rfl) ?_
    refine n_icmp_ge (tgt := 447) hx hb (by omega) (by omega) dX1_isSame_412 (by decide) (fun h18 => by omega) (fun h18 => ?_)
    refine lv_aload hx hb dX1_isSame_415 (lv_at hl 9 rfl) ?_
    refine lv_iload hx hb dX1_isSame_417 (lv_at hl 11 rfl) ?_
    obtain ⟨T9, hR9, hQ⟩ := id hQX
    refine g_aald Fx hK hQ.pe 2 rfl rfl (i := i) (by omega) (by omega) rfl dX1_isSame_419 ?_
    refine lv_astore (lv' := [(12, .ref (A (35 + i))), (0, .ref (A 0)), (1, .ref (q 0)), (2, .int (nI (cn (fun z => lv g z) k))), (3, .int (sm (fun z => g 4 z) k)), (4, .int (rI1 g k)), (5, .ref a1), (6, .int (nI k)), (7, .ref (A (35 + k))), (8, .int (nI (cn (fun z => decide (g 6 z = nI k)) i))), (9, .ref (A 4)), (10, .int (nI P)), (11, .int (nI i))]) hx hb dX1_isSame_420 hl (by decide) rfl (fun ls hl => ?_)
    refine lv_iload hx hb dX1_isSame_422 (lv_at hl 9 rfl) ?_
    refine lv_aload hx hb dX1_isSame_424 (lv_at hl 0 rfl) ?_
    refine lv_iconst (v := nI 2) hx hb dX1_isSame_426 (by decide) ?_
    obtain ⟨T9, hR9, hQ⟩ := id hQX
    refine g_iald Fx hK (hQ.pp (k := i) (by omega)) 0 rfl (i := 2) (by decide) (by decide) dX1_isSame_427 ?_
    refine r_as (g 6 i) rfl ?_
    refine lv_iload hx hb dX1_isSame_428 (lv_at hl 7 rfl) ?_
    refine r_selE hx hb dX1_isSame_430 dX1_isSame_433 dX1_isSame_434 dX1_isSame_437 ?_
    refine lv_iadd hx hb dX1_isSame_438 ?_
    refine r_as (nI (cn (fun z => decide (g 6 z = nI k)) (i + 1))) (by rw [n_bI, cn_s]) ?_
    refine lv_istore (lv' := [(8, .int (nI (cn (fun z => decide (g 6 z = nI k)) (i + 1)))), (12, .ref (A (35 + i))), (0, .ref (A 0)), (1, .ref (q 0)), (2, .int (nI (cn (fun z => lv g z) k))), (3, .int (sm (fun z => g 4 z) k)), (4, .int (rI1 g k)), (5, .ref a1), (6, .int (nI k)), (7, .ref (A (35 + k))), (9, .ref (A 4)), (10, .int (nI P)), (11, .int (nI i))]) hx hb dX1_isSame_439 hl (by decide) rfl (fun ls hl => ?_)
    refine lv_iinc (v := nI (i + 1)) (lv' := [(11, .int (nI (i + 1))), (8, .int (nI (cn (fun z => decide (g 6 z = nI k)) (i + 1)))), (12, .ref (A (35 + i))), (0, .ref (A 0)), (1, .ref (q 0)), (2, .int (nI (cn (fun z => lv g z) k))), (3, .int (sm (fun z => g 4 z) k)), (4, .int (rI1 g k)), (5, .ref a1), (6, .int (nI k)), (7, .ref (A (35 + k))), (9, .ref (A 4)), (10, .int (nI P))]) hx hb dX1_isSame_441 hl (k := 12) rfl (nI_inc _ 1) (by decide) rfl (fun ls hl => ?_)
    refine lv_goto (tgt := 408) hx hb dX1_isSame_444 (by decide) ?_
    exact ih trivial ls (lv_sub hl [3, 4, 5, 6, 7, 8, 9, 10, 1, 11, 12, 0] rfl)
set_option maxHeartbeats 8000000 in
set_option maxRecDepth 100000 in
theorem m_X1_isSame (l : Launch) {D : va_G} {ci cz : ClassId} {cj : ClassId × ClassId} {q : Nat → Nat} {sz : Nat} {A : Nat → Nat} {F P nn : Nat} {g : Nat → Nat → Int32} (hq : DQ q 8) (hqs : ∀ k, k < 8 → sz ≤ q k) (hAD : AD q sz A F P) (hI : Ix nn F P g) : MetD lw_cs l yX1_isSame wsX1_isSame ({ frames := 5, cells := 340, slots := 4100, locals := 113 } : Room) (va_Pc [.ref (A 0), .ref (q 0)] (fun U => sz ≤ U.heap.size ∧ LH D ci cz cj q A F P g U.heap ∧ EL D ci cz cj sz U)) (DQi (bg sz)) 340 4100 (bg sz) := by
  refine MetD.ofG (cc := cX1_isSame) (maxL := 13) (ret := some .boolean) (by decide) rfl (Nat.le_of_ble_eq_true rfl) ?_
  intro pg en s m bl mt cd ls Fx hr hlocks hB hl
  obtain ⟨hsz, ⟨hP, hQX⟩, hL⟩ := hB
  have hl : lv_has ls 13 [(0, .ref (A 0)), (1, .ref (q 0))] := hl
  have Fx : CallFix pg m cd cX1_isSame 13 s _ wsX1_isSame RX1 := Fx
  have hx := Fx.1
  have hb := Fx.2.1
  obtain ⟨hK, hE, hNC⟩ := id hL
  have hO := hE.2.2.2.2
  have hFb := hI.b.1
  have hPb := hI.b.2
  have hin : ∀ w ∈ wsX10, w ∈ wsX1_isSame := by decide +kernel
  have hsz0 := hsz
  have hS : va_S (bg sz) s.heap s.heap [] := va_S.rf
  refine lv_iconst (v := nI 0) hx hb dX1_isSame_0 (by decide) ?_
  refine lv_istore_n (lv' := [(2, .int (nI 0)), (0, .ref (A 0)), (1, .ref (q 0))]) hx hb dX1_isSame_1 rfl hl (by decide) rfl (fun ls hl => ?_)
  refine lv_iconst (v := nI 0) hx hb dX1_isSame_2 (by decide) ?_
  refine lv_istore_n (lv' := [(3, .int (nI 0)), (2, .int (nI 0)), (0, .ref (A 0)), (1, .ref (q 0))]) hx hb dX1_isSame_3 rfl hl (by decide) rfl (fun ls hl => ?_)
  refine lv_iconst (v := -1) hx hb dX1_isSame_4 (by decide) ?_
  refine lv_istore (lv' := [(4, .int (-1)), (3, .int (nI 0)), (2, .int (nI 0)), (0, .ref (A 0)), (1, .ref (q 0))]) hx hb dX1_isSame_5 hl (by decide) rfl (fun ls hl => ?_)
  refine lv_aload_n hx hb dX1_isSame_7 rfl (lv_at hl 3 rfl) ?_
  obtain ⟨T9, hR9, hQ⟩ := id hQX
  refine g_get Fx hin hK 1 hQ.o rfl 3 (by decide) (by decide +kernel) rfl dX1_isSame_8 ?_
  obtain ⟨T9, hR9, hQ⟩ := id hQX
  refine g_alenR Fx hK hQ.pe 2 rfl dX1_isSame_11 ?_
  refine g_newa Fx hK 0 rfl (by decide +kernel) hS (by omega) (by show _ ≤ 340; omega) (by show _ ≤ 4100; omega) dX1_isSame_12 (fun a1 H ea hia1 kp hsz hS => ?_)
  have lq : ∀ j, sV F P j → A j < a1 := fun j hj => by
    rw [ea]; obtain ⟨T9, hR9, hQ9⟩ := hQX; exact (hQ9 j hj).lt
  have lp1 : ∀ k, k < 8 → q k < a1 := fun k hk => by
    rw [ea]; exact q_lt hP k hk
  have hz1 : sz ≤ a1 := by rw [ea]; exact hsz0
  have hQX : SS D ci cj A F P g H := hQX.mv kp (fun _ _ h9 => h9.elim)
  have hP : va_P D vwCl (w0 ci cz q F P g) H := P_all hP kp.hk
  refine lv_astore (lv' := [(5, .ref a1), (4, .int (-1)), (3, .int (nI 0)), (2, .int (nI 0)), (0, .ref (A 0)), (1, .ref (q 0))]) hx hb dX1_isSame_14 hl (by decide) rfl (fun ls hl => ?_)
  refine lv_aload_n hx hb dX1_isSame_16 rfl (lv_at hl 5 rfl) ?_
  refine r_callR (rest := []) Fx (m_X0_ferries l (D := D) (ci := ci) (cz := cz) (cj := cj) (q := q) (F := F) (P := P) (g := g) (by omega) (by omega)  ) (cwV 0 Fx.2.2.2.2 gX1_isSame_X0_ferries rfl rfl rfl (by decide +kernel) ⟨Nat.le_of_ble_eq_true rfl, Nat.le_of_ble_eq_true rfl⟩) BW.bl (va_recv hK hP (ci := 0) (q0 := 0) rfl rfl) (BWb hqs hP hL hS) rfl hl.1 rfl (Nat.le_of_ble_eq_true rfl) dX1_isSame_17 ⟨by show _ ≤ 340; omega, by show _ ≤ 4100; omega⟩ ?_
  refine lv_aload_n hx hb dX1_isSame_20 rfl (lv_at hl 4 rfl) ?_
  obtain ⟨T9, hR9, hQ⟩ := id hQX
  refine g_get Fx hin hK 1 hQ.o rfl 0 (by decide) (by decide +kernel) rfl dX1_isSame_21 ?_
  obtain ⟨T9, hR9, hQ⟩ := id hQX
  refine g_alenI Fx hK hQ.to 0 rfl dX1_isSame_24 ?_
  refine n_icmp_ne (tgt := 51) hx hb (by omega) (by omega) dX1_isSame_25 (by decide) (fun h1 => absurd rfl h1) (fun h1 => ?_)
  refine lv_aload_n hx hb dX1_isSame_28 rfl (lv_at hl 5 rfl) ?_
  refine r_callR (rest := []) Fx (m_X0_people l (D := D) (ci := ci) (cz := cz) (cj := cj) (q := q) (F := F) (P := P) (g := g) (by omega) (by omega)  ) (cwV 0 Fx.2.2.2.2 gX1_isSame_X0_people rfl rfl rfl (by decide +kernel) ⟨Nat.le_of_ble_eq_true rfl, Nat.le_of_ble_eq_true rfl⟩) BW.bl (va_recv hK hP (ci := 0) (q0 := 0) rfl rfl) (BWb hqs hP hL hS) rfl hl.1 rfl (Nat.le_of_ble_eq_true rfl) dX1_isSame_29 ⟨by show _ ≤ 340; omega, by show _ ≤ 4100; omega⟩ ?_
  refine lv_aload_n hx hb dX1_isSame_32 rfl (lv_at hl 4 rfl) ?_
  obtain ⟨T9, hR9, hQ⟩ := id hQX
  refine g_get Fx hin hK 1 hQ.o rfl 3 (by decide) (by decide +kernel) rfl dX1_isSame_33 ?_
  obtain ⟨T9, hR9, hQ⟩ := id hQX
  refine g_alenR Fx hK hQ.pe 2 rfl dX1_isSame_36 ?_
  refine n_icmp_ne (tgt := 51) hx hb (by omega) (by omega) dX1_isSame_37 (by decide) (fun h2 => absurd rfl h2) (fun h2 => ?_)
  refine lv_aload_n hx hb dX1_isSame_40 rfl (lv_at hl 5 rfl) ?_
  refine r_callR (rest := []) Fx (m_X0_crownCoins l (D := D) (ci := ci) (cz := cz) (cj := cj) (q := q) (F := F) (P := P) (g := g) (by omega) (by omega)  ) (cwV 0 Fx.2.2.2.2 gX1_isSame_X0_crownCoins rfl rfl rfl (by decide +kernel) ⟨Nat.le_of_ble_eq_true rfl, Nat.le_of_ble_eq_true rfl⟩) BW.bl (va_recv hK hP (ci := 0) (q0 := 0) rfl rfl) (BWb hqs hP hL hS) rfl hl.1 rfl (Nat.le_of_ble_eq_true rfl) dX1_isSame_41 ⟨by show _ ≤ 340; omega, by show _ ≤ 4100; omega⟩ ?_
  refine lv_aload_n hx hb dX1_isSame_44 rfl (lv_at hl 4 rfl) ?_
  obtain ⟨T9, hR9, hQ⟩ := id hQX
  refine g_get Fx hin hK 1 hQ.o rfl 4 (by decide) (by decide +kernel) rfl dX1_isSame_45 ?_
  refine lv_icmp_eq (tgt := 53) hx hb dX1_isSame_48 (by decide) (fun h3 => ?_) (fun h3 => absurd rfl h3)
  refine lv_iconst (v := nI 0) hx hb dX1_isSame_53 (by decide) ?_
  refine lv_istore (lv' := [(6, .int (nI 0)), (5, .ref a1), (4, .int (-1)), (3, .int (nI 0)), (2, .int (nI 0)), (0, .ref (A 0)), (1, .ref (q 0))]) hx hb dX1_isSame_54 hl (by decide) rfl (fun ls hl => ?_)
  refine wloop (nL := 13) (N := F) (fun _ => True) (fun f => [(0, .ref (A 0)), (1, .ref (q 0)), (2, .int (nI 0)), (3, .int (nI 0)), (4, .int (-1)), (5, .ref a1), (6, .int (nI f))]) (fun f H => va_P D vwCl (w0 ci cz q F P g) H ∧ SS D ci cj A F P g H ∧ isI D ci H a1 P (sAll g f)) trivial ⟨hP, hQX, hia1.cg (fun _ _ => nI_0.symm)⟩ hS (lv_sub hl [5, 6, 4, 3, 2, 1, 0] rfl) ?_ ?_
  · intro _ H locs ls hW hS hl
    obtain ⟨hP, hQX, ha1⟩ := hW
    have hl : lv_has ls 13 [(0, .ref (A 0)), (1, .ref (q 0)), (2, .int (nI 0)), (3, .int (nI 0)), (4, .int (-1)), (5, .ref a1), (6, .int (nI F))] := hl
    refine lv_iload hx hb dX1_isSame_56 (lv_at hl 6 rfl) ?_
    refine lv_aload_n hx hb dX1_isSame_58 rfl (lv_at hl 0 rfl) ?_
    obtain ⟨T9, hR9, hQ⟩ := id hQX
    refine g_get Fx hin hK 1 hQ.o rfl 0 (by decide) (by decide +kernel) rfl dX1_isSame_59 ?_
    obtain ⟨T9, hR9, hQ⟩ := id hQX
    refine g_alenI Fx hK hQ.to 0 rfl dX1_isSame_62 ?_
    refine n_icmp_ge (tgt := 369) hx hb (by omega) (by omega) dX1_isSame_63 (by decide) (fun h4 => ?_) (fun h4 => by omega)
    refine lv_iconst (v := nI 0) hx hb dX1_isSame_369 (by decide) ?_
    refine lv_istore (lv' := [(6, .int (nI 0)), (0, .ref (A 0)), (1, .ref (q 0)), (2, .int (nI 0)), (3, .int (nI 0)), (4, .int (-1)), (5, .ref a1)]) hx hb dX1_isSame_370 hl (by decide) rfl (fun ls hl => ?_)
    refine mloop (nL := 13) (N := P) 26 320 (fun _ => True) (fun k H lv9 => lv9 = [(0, .ref (A 0)), (1, .ref (q 0)), (2, .int (nI (cn (fun z => lv g z) k))), (3, .int (sm (fun z => g 4 z) k)), (4, .int (rI1 g k)), (5, .ref a1), (6, .int (nI k))] ∧ va_P D vwCl (w0 ci cz q F P g) H ∧ SS D ci cj A F P g H ∧ isI D ci H a1 P (sAll g F)) (fun _ _ => True) trivial trivial hS (lv0 := [(0, .ref (A 0)), (1, .ref (q 0)), (2, .int (nI (cn (fun z => lv g z) 0))), (3, .int (sm (fun z => g 4 z) 0)), (4, .int (rI1 g 0)), (5, .ref a1), (6, .int (nI 0))]) ⟨rfl, hP, hQX, ha1⟩ (lv_sub hl [1, 2, 3, 4, 5, 6, 0] rfl) ?_ ?_
    · intro _ H locs ls lv _ hS hLv hl
      obtain ⟨rfl, hP, hQX, ha1⟩ := hLv
      have hl : lv_has ls 13 [(0, .ref (A 0)), (1, .ref (q 0)), (2, .int (nI (cn (fun z => lv g z) P))), (3, .int (sm (fun z => g 4 z) P)), (4, .int (rI1 g P)), (5, .ref a1), (6, .int (nI P))] := hl
      have hcL : cn (fun z => lv g z) P ≤ P := cn_le _ _
      refine lv_iload hx hb dX1_isSame_372 (lv_at hl 6 rfl) ?_
      refine lv_aload_n hx hb dX1_isSame_374 rfl (lv_at hl 0 rfl) ?_
      obtain ⟨T9, hR9, hQ⟩ := id hQX
      refine g_get Fx hin hK 1 hQ.o rfl 3 (by decide) (by decide +kernel) rfl dX1_isSame_375 ?_
      obtain ⟨T9, hR9, hQ⟩ := id hQX
      refine g_alenR Fx hK hQ.pe 2 rfl dX1_isSame_378 ?_
      refine n_icmp_ge (tgt := 669) hx hb (by omega) (by omega) dX1_isSame_379 (by decide) (fun h5 => ?_) (fun h5 => by omega)
      refine lv_aload_n hx hb dX1_isSame_669 rfl (lv_at hl 1 rfl) ?_
      refine r_callR (rest := []) Fx (m_X0_living l (D := D) (ci := ci) (cz := cz) (cj := cj) (q := q) (F := F) (P := P) (g := g) (by omega) (by omega)  ) (cwV 0 Fx.2.2.2.2 gX1_isSame_X0_living rfl rfl rfl (by decide +kernel) ⟨Nat.le_of_ble_eq_true rfl, Nat.le_of_ble_eq_true rfl⟩) BW.bl (va_recv hK hP (ci := 0) (q0 := 0) rfl rfl) (BWb hqs hP hL hS) rfl hl.1 rfl (Nat.le_of_ble_eq_true rfl) dX1_isSame_670 ⟨by show _ ≤ 340; omega, by show _ ≤ 4100; omega⟩ ?_
      have hv670 : sLiv g P ≤ P := cn_le _ _
      refine lv_iload_n hx hb dX1_isSame_673 rfl (lv_at hl 2 rfl) ?_
      refine n_icmp_ne (tgt := 715) hx hb (by omega) (by omega) dX1_isSame_674 (by decide) (fun h6 => absurd rfl h6) (fun h6 => ?_)
      refine r_via (pc2 := 690) (fun kj690 => ?_) ?_
      · refine lv_iload_n hx hb dX1_isSame_677 rfl (lv_at hl 2 rfl) ?_
        refine n_if_eq (tgt := 690) hx hb (by omega) dX1_isSame_678 (by decide) (fun h7 => ?_) (fun h7 => ?_)
        · exact kj690
        · refine lv_aload_n hx hb dX1_isSame_681 rfl (lv_at hl 1 rfl) ?_
          refine r_callR (rest := []) Fx (m_X0_richest_r l (D := D) (ci := ci) (cz := cz) (cj := cj) (q := q) (F := F) (P := P) (g := g) (by omega) (by omega)  (ric_ne hI.iv (by omega))) (cwV 0 Fx.2.2.2.2 gX1_isSame_X0_richest rfl rfl rfl (by decide +kernel) ⟨Nat.le_of_ble_eq_true rfl, Nat.le_of_ble_eq_true rfl⟩) BW.bl (va_recv hK hP (ci := 0) (q0 := 0) rfl rfl) (BWb hqs hP hL hS) rfl hl.1 rfl (Nat.le_of_ble_eq_true rfl) dX1_isSame_682 ⟨by show _ ≤ 340; omega, by show _ ≤ 4100; omega⟩ ?_
          refine lv_iload hx hb dX1_isSame_685 (lv_at hl 4 rfl) ?_
          refine lv_icmp_ne (tgt := 715) hx hb dX1_isSame_687 (by decide) (fun h8 => absurd rfl h8) (fun h8 => ?_)
          exact kj690
      · exact sEnd (c0 := 0 + 1 + P * 26) (s0 := 0 + P + P * 320) Fx hL hq hqs hI hr hlocks hP hS (by omega) (by omega) (lv_sub hl [0, 1, 2, 3, 4, 5, 6] rfl)
    · intro k hk _ ih H locs ls lv _ hS hLv hl
      obtain ⟨rfl, hP, hQX, ha1⟩ := hLv
      exact sK (f := 0) (w := 0) (v := 0) Fx hL hq hqs hsz0 (by omega) (by omega) hAD hI hP hQX ha1 lq lp1 hz1 hS hl hk (fun H locs ls hP hQX ha1 hS hl => ih trivial H locs ls _ trivial hS ⟨rfl, hP, hQX, ha1⟩ hl)
  · intro f hf _ ih H locs ls hW hS hl
    obtain ⟨hP, hQX, ha1⟩ := hW
    exact sFr (w := 0) (k := 0) (v := 0) Fx hL hq hqs hsz0 (by omega) (by omega) hAD hI hP hQX ha1 lq lp1 hz1 hS hl hf (fun H locs ls hP hQX ha1 hS hl => ih trivial H locs ls ⟨hP, hQX, ha1⟩ hS hl)
end SAME
