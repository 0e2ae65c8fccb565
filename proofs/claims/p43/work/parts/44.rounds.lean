/-! PART 44: the law's rounds. -/
section RNDS
theorem r_callMSW {p : Program} {l : Launch} {e : Env} {R : Room} {s : State} {m : MethodId} {args : Array Value} {below : List Frame} {meth : Method} {c : Code} {H : Heap} {locs : List Loc} {cells slots : Nat} {Q : State → Prop}
    {y : MethodName} {bytes cc : ByteArray} {maxL nL mc ms n index pc : Nat} {rt : Option FieldType} {ws : List Cond} {rm : Room} {Ts : List Cond} {own : String} {As rest st0 : List Value} {ls : Array Slot} {Pr : State → Prop} {hh : List (Nat × Nat × Nat × Nat)} {P1 : Option Value → Heap → Prop} {Ad A0 : Nat → Prop} {H0 : Heap} (F : CallFix p m c cc nL s args Ts own) (hM : Met l y ws rm (va_Pc As Pr) (MQv P1 Ad) mc ms Ad) (cw : vx_CSW R s args own index y bytes maxL rt hh ws rm mc ms n) (hbl : ∀ U g mk a, Pr U → Pr (U.calling g mk a))
    (hpre : ∀ U : State, U.heap = H → s.WarmedH U.vm → Pr U) (hn : As.length = n) (hsize : ls.size = nL) (hst : st0 = As.reverse ++ rest) (hW : (rest.map fun v => v.category).sum ≤ 8)
    (hdg : decode cc pc = .ok (.invokestatic index, 3)) (hf : cells + mc ≤ R.cells ∧ slots + ms ≤ R.slots) (hS : va_S A0 H0 H locs) (hA : ∀ q, Ad q → A0 q)
    (kk : ∀ (v : Option Value) (H1 : Heap) (locs1 : List Loc), P1 v H1 → KP Ad H H1 → va_S A0 H0 H1 locs1 → W p l e R s m args below meth c H1 locs1 (cells + mc) (slots + ms) Q (F0 m (pc + 3) ls (v.toList ++ rest))) : W p l e R s m args below meth c H locs cells slots Q (F0 m pc ls st0) := by
  intro T hT X
  obtain ⟨v', st₀, t, T', L, h0, X', hL, e1, e2, ⟨v, hv, hp, hF⟩, st⟩ := vx_runSW F hM cw ⟨fun a U g mk hq => ⟨hq.1, hbl U g mk a hq.2⟩, fun U hU hW => ⟨rfl, hpre U hU hW⟩⟩ (g := F0 m pc ls st0) rfl hn hsize hst (lv_room hW) hdg hf T hT X
  cases hv
  obtain ⟨k1, k2, k3⟩ := vx_keep h0 e1 hS (fun q _ h => hA q h) hA hL hF
  obtain ⟨t2, a1, b1⟩ := kk v' T'.heap (locs ++ L) (by rw [e1]; exact hp) ⟨k1, k2⟩ k3 T' rfl X'
  exact ⟨t2, st t2 a1, b1⟩
/-- a call of isSame -/
theorem r_callDi {p : Program} {l : Launch} {e : Env} {R : Room} {s : State} {m : MethodId} {args : Array Value} {below : List Frame} {meth : Method} {c : Code} {H : Heap} {locs : List Loc} {cells slots : Nat} {Q : State → Prop}
    {y : MethodName} {bytes cc : ByteArray} {maxL nL mc ms n index pc b : Nat} {rt : Option FieldType} {ws : List Cond} {rm : Room} {Ts : List Cond} {own C : String} {As rest st0 : List Value} {ls : Array Slot} {Pr : State → Prop} {Ad A0 : Nat → Prop} {H0 : Heap} {d0 : Drawn} (hd0 : s.drawn.sameBut d0 lw_cs) (F : CallFix p m c cc nL (s.setDrawn d0) args Ts own) (hM : MetD lw_cs l y ws rm (va_Pc (.ref b :: As) Pr) (DQi Ad) mc ms Ad) (cw : CallW R (s.setDrawn d0) args own C index y bytes maxL rt ws rm mc ms n) (hbl : ∀ U g mk a, Pr U → Pr (U.calling g mk a))
    (hrec : ∃ cellB : Cell, H[b]? = some cellB ∧ cellB.vm.isStatics = false ∧ s.vm.findClass C = some cellB.cls) (hpre : ∀ U : State, U.heap = H → s.WarmedH U.vm → Pr U) (hn : As.length = n) (hsize : ls.size = nL) (hst : st0 = As.reverse ++ .ref b :: rest) (hW : (rest.map fun v => v.category).sum ≤ 8)
    (hdg : decode cc pc = .ok (.invokevirtual index, 3)) (hf : cells + mc ≤ R.cells ∧ slots + ms ≤ R.slots) (hS : va_S A0 H0 H locs) (hA : ∀ q, Ad q → A0 q)
    (kk : ∀ (d1 : Drawn) (H1 : Heap) (locs1 : List Loc), s.drawn.sameBut d1 lw_cs → va_S A0 H0 H1 locs1 → W p l e R (s.setDrawn d1) m args below meth c H1 locs1 (cells + mc) (slots + ms) Q (F0 m (pc + 3) ls (.int (bI true) :: rest))) : W p l e R (s.setDrawn d0) m args below meth c H locs cells slots Q (F0 m pc ls st0) := by
  intro T hT X
  obtain ⟨v', st₀, t, T', L, d', hd', h0, X', hL, e1, e2, ⟨hv, hF⟩, st⟩ := va_runV_D F hM cw ⟨fun a U g mk hq => ⟨hq.1, hbl U g mk a hq.2⟩, hrec, fun U hU hW => ⟨rfl, hpre U hU hW⟩⟩ (g := F0 m pc ls st0) rfl hn hsize hst (lv_room hW) hdg hf T hT X
  cases hv
  obtain ⟨k1, k2, k3⟩ := vx_keep h0 e1 hS (fun q _ h => hA q h) hA hL hF
  obtain ⟨t2, a1, b1⟩ := kk d' T'.heap (locs ++ L) (hd0.trans hd') k3 T' rfl X'
  exact ⟨t2, st t2 a1, b1⟩
def cut (f : Nat → Int32) (i : Nat) : Nat → Int32 := fun p => if p < i then f p else 0
theorem cut_0 {f : Nat → Int32} (j : Nat) : cut f 0 j = 0 := if_neg (Nat.not_lt_zero _)
theorem cut_P {f : Nat → Int32} {P i : Nat} (h : i < P) : cut f P i = f i := if_pos h
theorem cut_s {f : Nat → Int32} {i : Nat} (j : Nat) : upd (cut f i) i (f i) j = cut f (i + 1) j := by
  unfold upd cut
  by_cases e : j = i
  · subst e
    rw [if_pos rfl, if_pos (by omega)]
  · rw [if_neg e]
    by_cases h : j < i
    · rw [if_pos h, if_pos (by omega)]
    · rw [if_neg h, if_neg (by omega)]
set_option maxHeartbeats 8000000 in
set_option maxRecDepth 100000 in
theorem lA {pg : Program} {l : Launch} {en : Env} {s : State} {m : MethodId} {args : Array Value} {bl : List Frame} {mt : Method} {cd : Code} {ls : Array Slot} {H : Heap} {locs : List Loc} {c0 s0 : Nat} {Q : State → Prop} {D : va_G} {ci cz : ClassId} {cj : ClassId × ClassId} {q : Nat → Nat} {sz b L : Nat} {xs : Nat → Int32} {A : Nat → Nat} {F P nn : Nat} {g : Nat → Nat → Int32} {x : Int32} {r f w n hr k j : Nat} (hl0 : l.stackTraces = false) (Fx : CallFix pg m cd cL_law 23 s args wsL_law RL) (hL : EL D ci cz cj sz s) (hX : XB b L xs s) (hbz : b < sz) (hLL : L < 1000) (hq : DQ q 8) (hqs : ∀ k, k < 8 → sz ≤ q k) (hsz : sz ≤ s.heap.size) (hcc : c0 + 0 ≤ 600086) (hss : s0 + 0 ≤ 7301442) (hAD : AD q sz A F P) (hI : Ix nn F P g) (hF1 : 1 ≤ F) (hP1 : 1 ≤ P) (hP : va_P D vwCl (w0 ci cz q F P g) H) (hQX : SS D ci cj A F P g H) (hS : va_S (bg sz) s.heap H locs) (hl : lv_has ls 23 [(0, .ref b), (1, .ref (q 0)), (2, .ref (A 0)), (3, .int (nI r)), (4, .int x), (5, .long (sDig g F P)), (7, .int (nI P)), (8, .int (nI (cn (fun z => lv g z) k))), (9, .int (rI2 g k)), (10, .int (nI k))]) (hk : k < P)
    (kk : ∀ (ls : Array Slot), lv_has ls 23 [(0, .ref b), (1, .ref (q 0)), (2, .ref (A 0)), (3, .int (nI r)), (4, .int x), (5, .long (sDig g F P)), (7, .int (nI P)), (8, .int (nI (cn (fun z => lv g z) (k + 1)))), (9, .int (rI2 g (k + 1))), (10, .int (nI (k + 1)))] → W pg l en room_1 s m args bl mt cd H locs c0 s0 Q (F0 m 101 ls [])) : W pg l en room_1 s m args bl mt cd H locs c0 s0 Q (F0 m 101 ls []) := by
  have hx := Fx.1
  have hb := Fx.2.1
  obtain ⟨hK, hE, hNC⟩ := id hL
  have hO := hE.2.2.2.2
  have hFb := hI.b.1
  have hPb := hI.b.2
  have hin : ∀ w ∈ wsX10, w ∈ wsL_law := inlX1
  have sabg : ∀ q9, SA A F P q9 → bg sz q9 := by
    rintro q9 ⟨j, hj, rfl⟩
    exact (hAD.2 j hj).1
  refine lv_iload hx hb dL_law_101 (lv_at hl 9 rfl) ?_
  refine lv_iload hx hb dL_law_103 (lv_at hl 6 rfl) ?_
  refine n_icmp_ge (tgt := 310) hx hb (by omega) (by omega) dL_law_105 (by decide) (fun h1 => by omega) (fun h1 => ?_)
  refine lv_iload hx hb dL_law_108 (lv_at hl 7 rfl) ?_
  refine lv_aload_n hx hb dL_law_110 rfl (lv_at hl 1 rfl) ?_
  refine lv_iload hx hb dL_law_111 (lv_at hl 9 rfl) ?_
  refine r_callR (rest := [.int (nI (cn (fun z => lv g z) k))]) Fx (m_X0_isAlive_r l (D := D) (ci := ci) (cz := cz) (cj := cj) (q := q) (F := F) (P := P) (g := g) (by omega) (by omega) k (by omega)) (cwV 1 Fx.2.2.2.2 gL_law_X0_isAlive rfl rfl rfl (by decide +kernel) ⟨Nat.le_of_ble_eq_true rfl, Nat.le_of_ble_eq_true rfl⟩) BW.bl (va_recv hK hP (ci := 0) (q0 := 0) rfl rfl) (BWb hqs hP hL hS) rfl hl.1 rfl (Nat.le_of_ble_eq_true rfl) dL_law_113 ⟨by show _ ≤ 600086; omega, by show _ ≤ 7301442; omega⟩ ?_
  refine r_selY hx hb dL_law_116 dL_law_119 dL_law_120 dL_law_123 ?_
  refine lv_iadd hx hb dL_law_124 ?_
  refine r_as (nI (cn (fun z => lv g z) (k + 1))) (by rw [n_bI, cn_s]) ?_
  refine lv_istore (lv' := [(8, .int (nI (cn (fun z => lv g z) (k + 1)))), (0, .ref b), (1, .ref (q 0)), (2, .ref (A 0)), (3, .int (nI r)), (4, .int x), (5, .long (sDig g F P)), (7, .int (nI P)), (9, .int (rI2 g k)), (10, .int (nI k))]) hx hb dL_law_125 hl (by decide) rfl (fun ls hl => ?_)
  refine lv_aload_n hx hb dL_law_127 rfl (lv_at hl 2 rfl) ?_
  refine lv_iload hx hb dL_law_128 (lv_at hl 9 rfl) ?_
  refine r_callR (rest := []) Fx (m_X0_coins_r l (D := D) (ci := ci) (cz := cz) (cj := cj) (q := q) (F := F) (P := P) (g := g) (by omega) (by omega) k (by omega)) (cwV 1 Fx.2.2.2.2 gL_law_X0_coins rfl rfl rfl (by decide +kernel) ⟨Nat.le_of_ble_eq_true rfl, Nat.le_of_ble_eq_true rfl⟩) BW.bl (va_recv hK hP (ci := 0) (q0 := 0) rfl rfl) (BWb hqs hP hL hS) rfl hl.1 rfl (Nat.le_of_ble_eq_true rfl) dL_law_130 ⟨by show _ ≤ 600086; omega, by show _ ≤ 7301442; omega⟩ ?_
  refine lv_if_lt (tgt := 204) hx hb dL_law_133 (by decide) (fun h2 => absurd h2 (coin_n hI.iv _)) (fun h2 => ?_)
  refine lv_aload_n hx hb dL_law_136 rfl (lv_at hl 2 rfl) ?_
  refine lv_iload hx hb dL_law_137 (lv_at hl 9 rfl) ?_
  refine r_callR (rest := []) Fx (m_X0_coins_r l (D := D) (ci := ci) (cz := cz) (cj := cj) (q := q) (F := F) (P := P) (g := g) (by omega) (by omega) k (by omega)) (cwV 1 Fx.2.2.2.2 gL_law_X0_coins rfl rfl rfl (by decide +kernel) ⟨Nat.le_of_ble_eq_true rfl, Nat.le_of_ble_eq_true rfl⟩) BW.bl (va_recv hK hP (ci := 0) (q0 := 0) rfl rfl) (BWb hqs hP hL hS) rfl hl.1 rfl (Nat.le_of_ble_eq_true rfl) dL_law_139 ⟨by show _ ≤ 600086; omega, by show _ ≤ 7301442; omega⟩ ?_
  refine lv_sipush (v := nI 9999) hx hb dL_law_142 (by decide) ?_
  refine lv_icmp_gt (tgt := 204) hx hb dL_law_145 (by decide) (fun h3 => absurd (coin_9 hI.iv _) (Int32.not_le.mpr h3)) (fun h3 => ?_)
  refine lv_aload_n hx hb dL_law_148 rfl (lv_at hl 2 rfl) ?_
  refine lv_iload hx hb dL_law_149 (lv_at hl 9 rfl) ?_
  refine r_callR (rest := []) Fx (m_X0_earned_r l (D := D) (ci := ci) (cz := cz) (cj := cj) (q := q) (F := F) (P := P) (g := g) (by omega) (by omega) k (by omega)) (cwV 1 Fx.2.2.2.2 gL_law_X0_earned rfl rfl rfl (by decide +kernel) ⟨Nat.le_of_ble_eq_true rfl, Nat.le_of_ble_eq_true rfl⟩) BW.bl (va_recv hK hP (ci := 0) (q0 := 0) rfl rfl) (BWb hqs hP hL hS) rfl hl.1 rfl (Nat.le_of_ble_eq_true rfl) dL_law_151 ⟨by show _ ≤ 600086; omega, by show _ ≤ 7301442; omega⟩ ?_
  refine lv_if_lt (tgt := 204) hx hb dL_law_154 (by decide) (fun h4 => absurd h4 (ear_n hI _)) (fun h4 => ?_)
  refine r_via (pc2 := 184) (fun kj184 => ?_) ?_
  · refine lv_aload_n hx hb dL_law_157 rfl (lv_at hl 2 rfl) ?_
    refine lv_iload hx hb dL_law_158 (lv_at hl 9 rfl) ?_
    refine r_callR (rest := []) Fx (m_X0_isAlive_r l (D := D) (ci := ci) (cz := cz) (cj := cj) (q := q) (F := F) (P := P) (g := g) (by omega) (by omega) k (by omega)) (cwV 1 Fx.2.2.2.2 gL_law_X0_isAlive rfl rfl rfl (by decide +kernel) ⟨Nat.le_of_ble_eq_true rfl, Nat.le_of_ble_eq_true rfl⟩) BW.bl (va_recv hK hP (ci := 0) (q0 := 0) rfl rfl) (BWb hqs hP hL hS) rfl hl.1 rfl (Nat.le_of_ble_eq_true rfl) dL_law_160 ⟨by show _ ≤ 600086; omega, by show _ ≤ 7301442; omega⟩ ?_
    refine b_if_ne (tgt := 184) hx hb dL_law_163 (by decide) (fun h5 => ?_) (fun h5 => ?_)
    · exact kj184
    · refine lv_aload_n hx hb dL_law_166 rfl (lv_at hl 2 rfl) ?_
      refine lv_iload hx hb dL_law_167 (lv_at hl 9 rfl) ?_
      refine r_callR (rest := []) Fx (m_X0_coins_r l (D := D) (ci := ci) (cz := cz) (cj := cj) (q := q) (F := F) (P := P) (g := g) (by omega) (by omega) k (by omega)) (cwV 1 Fx.2.2.2.2 gL_law_X0_coins rfl rfl rfl (by decide +kernel) ⟨Nat.le_of_ble_eq_true rfl, Nat.le_of_ble_eq_true rfl⟩) BW.bl (va_recv hK hP (ci := 0) (q0 := 0) rfl rfl) (BWb hqs hP hL hS) rfl hl.1 rfl (Nat.le_of_ble_eq_true rfl) dL_law_169 ⟨by show _ ≤ 600086; omega, by show _ ≤ 7301442; omega⟩ ?_
      refine lv_if_ne (tgt := 204) hx hb dL_law_172 (by decide) (fun h6 => absurd (dead_coin hI.iv h5) h6) (fun h6 => ?_)
      refine lv_aload_n hx hb dL_law_175 rfl (lv_at hl 2 rfl) ?_
      refine lv_iload hx hb dL_law_176 (lv_at hl 9 rfl) ?_
      refine r_callR (rest := []) Fx (m_X0_allShares_r l (D := D) (ci := ci) (cz := cz) (cj := cj) (q := q) (F := F) (P := P) (g := g) (by omega) (by omega) k (by omega)) (cwV 1 Fx.2.2.2.2 gL_law_X0_allShares rfl rfl rfl (by decide +kernel) ⟨Nat.le_of_ble_eq_true rfl, Nat.le_of_ble_eq_true rfl⟩) BW.bl (va_recv hK hP (ci := 0) (q0 := 0) rfl rfl) (BWb hqs hP hL hS) rfl hl.1 rfl (Nat.le_of_ble_eq_true rfl) dL_law_178 ⟨by show _ ≤ 600086; omega, by show _ ≤ 7301442; omega⟩ ?_
      refine lv_if_ne (tgt := 204) hx hb dL_law_181 (by decide) (fun h7 => absurd (dead_all hI.iw (by omega) h5) h7) (fun h7 => ?_)
      exact kj184
  · refine r_via (pc2 := 206) (fun kj206 => ?_) ?_
    · refine lv_aload_n hx hb dL_law_184 rfl (lv_at hl 2 rfl) ?_
      refine lv_iload hx hb dL_law_185 (lv_at hl 9 rfl) ?_
      refine r_callR (rest := []) Fx (m_X0_hasParent_r l (D := D) (ci := ci) (cz := cz) (cj := cj) (q := q) (F := F) (P := P) (g := g) (by omega) (by omega) k (by omega)) (cwV 1 Fx.2.2.2.2 gL_law_X0_hasParent rfl rfl rfl (by decide +kernel) ⟨Nat.le_of_ble_eq_true rfl, Nat.le_of_ble_eq_true rfl⟩) BW.bl (va_recv hK hP (ci := 0) (q0 := 0) rfl rfl) (BWb hqs hP hL hS) rfl hl.1 rfl (Nat.le_of_ble_eq_true rfl) dL_law_187 ⟨by show _ ≤ 600086; omega, by show _ ≤ 7301442; omega⟩ ?_
      refine b_if_eq (tgt := 206) hx hb dL_law_190 (by decide) (fun h8 => ?_) (fun h8 => ?_)
      · have h8 := of_decide_eq_false h8
        exact kj206
      · have h8 := of_decide_eq_true h8
        refine lv_aload_n hx hb dL_law_193 rfl (lv_at hl 2 rfl) ?_
        refine lv_iload hx hb dL_law_194 (lv_at hl 9 rfl) ?_
        refine r_callR (rest := []) Fx (m_X0_parent_r l (D := D) (ci := ci) (cz := cz) (cj := cj) (q := q) (F := F) (P := P) (g := g) (by omega) (by omega) k (by omega) h8) (cwV 1 Fx.2.2.2.2 gL_law_X0_parent rfl rfl rfl (by decide +kernel) ⟨Nat.le_of_ble_eq_true rfl, Nat.le_of_ble_eq_true rfl⟩) BW.bl (va_recv hK hP (ci := 0) (q0 := 0) rfl rfl) (BWb hqs hP hL hS) rfl hl.1 rfl (Nat.le_of_ble_eq_true rfl) dL_law_196 ⟨by show _ ≤ 600086; omega, by show _ ≤ 7301442; omega⟩ ?_
        refine lv_iload hx hb dL_law_199 (lv_at hl 9 rfl) ?_
        refine lv_icmp_lt (tgt := 206) hx hb dL_law_201 (by decide) (fun h9 => ?_) (fun h9 => absurd (par_lt hI hk h8) h9)
        exact kj206
    · refine r_viaL (nL := 23) (pc2 := 228) [(0, .ref b), (1, .ref (q 0)), (2, .ref (A 0)), (3, .int (nI r)), (4, .int x), (5, .long (sDig g F P)), (7, .int (nI P)), (8, .int (nI (cn (fun z => lv g z) (k + 1)))), (9, .int (rI2 g (k + 1))), (10, .int (nI k))] (fun kj228 => ?_) ?_
      · refine lv_aload_n hx hb dL_law_206 rfl (lv_at hl 2 rfl) ?_
        refine lv_iload hx hb dL_law_207 (lv_at hl 9 rfl) ?_
        refine r_callR (rest := []) Fx (m_X0_isAlive_r l (D := D) (ci := ci) (cz := cz) (cj := cj) (q := q) (F := F) (P := P) (g := g) (by omega) (by omega) k (by omega)) (cwV 1 Fx.2.2.2.2 gL_law_X0_isAlive rfl rfl rfl (by decide +kernel) ⟨Nat.le_of_ble_eq_true rfl, Nat.le_of_ble_eq_true rfl⟩) BW.bl (va_recv hK hP (ci := 0) (q0 := 0) rfl rfl) (BWb hqs hP hL hS) rfl hl.1 rfl (Nat.le_of_ble_eq_true rfl) dL_law_209 ⟨by show _ ≤ 600086; omega, by show _ ≤ 7301442; omega⟩ ?_
        refine b_if_eq (tgt := 228) hx hb dL_law_212 (by decide) (fun h10 => ?_) (fun h10 => ?_)
        · have e9_ : (rI2 g k) = rI2 g (k + 1) := (rI2_dead h10)
          rw [e9_] at hl
          exact kj228 ls (lv_sub hl [1, 2, 3, 4, 5, 6, 7, 0, 8, 9] rfl)
        · refine lv_iload hx hb dL_law_215 (lv_at hl 8 rfl) ?_
          refine lv_aload_n hx hb dL_law_217 rfl (lv_at hl 2 rfl) ?_
          refine lv_iload hx hb dL_law_218 (lv_at hl 9 rfl) ?_
          refine r_callR (rest := [.int (rI2 g k)]) Fx (m_X0_coins_r l (D := D) (ci := ci) (cz := cz) (cj := cj) (q := q) (F := F) (P := P) (g := g) (by omega) (by omega) k (by omega)) (cwV 1 Fx.2.2.2.2 gL_law_X0_coins rfl rfl rfl (by decide +kernel) ⟨Nat.le_of_ble_eq_true rfl, Nat.le_of_ble_eq_true rfl⟩) BW.bl (va_recv hK hP (ci := 0) (q0 := 0) rfl rfl) (BWb hqs hP hL hS) rfl hl.1 rfl (Nat.le_of_ble_eq_true rfl) dL_law_220 ⟨by show _ ≤ 600086; omega, by show _ ≤ 7301442; omega⟩ ?_
          refine va_mmax hx hb (Fx.2.2.1.trans hl.1.symm) Fx.2.2.2.1 (Fx.2.2.2.2 (.methodLink RL 136 Lib.Math.max.name) (by decide +kernel)) (Fx.2.2.2.2 (.static Lib.Math.max.name) (by decide +kernel)) (Fx.2.2.2.2 (.initialized "java/lang/Math") (by decide +kernel)) (Fx.2.2.2.2 (.code Lib.Math.max.name Lib.Math.max.code 2 (some .int)) (by decide +kernel)) (Nat.le_of_ble_eq_true rfl) (Nat.le_of_ble_eq_true rfl) (by show _ ≤ 600086; omega) (by show _ ≤ 7301442; omega) dL_law_223 ?_
          refine lv_istore (lv' := [(9, .int (if rI2 g k < g 4 k then g 4 k else rI2 g k)), (8, .int (nI (cn (fun z => lv g z) (k + 1)))), (0, .ref b), (1, .ref (q 0)), (2, .ref (A 0)), (3, .int (nI r)), (4, .int x), (5, .long (sDig g F P)), (7, .int (nI P)), (10, .int (nI k))]) hx hb dL_law_226 hl (by decide) rfl (fun ls hl => ?_)
          have e9_ : (if rI2 g k < g 4 k then g 4 k else rI2 g k) = rI2 g (k + 1) := (rI2_live h10)
          rw [e9_] at hl
          exact kj228 ls (lv_sub hl [2, 3, 4, 5, 6, 7, 8, 1, 0, 9] rfl)
      · intro ls hl
        refine lv_iconst (v := nI 0) hx hb dL_law_228 (by decide) ?_
        refine lv_istore (lv' := [(11, .int (nI 0)), (0, .ref b), (1, .ref (q 0)), (2, .ref (A 0)), (3, .int (nI r)), (4, .int x), (5, .long (sDig g F P)), (7, .int (nI P)), (8, .int (nI (cn (fun z => lv g z) (k + 1)))), (9, .int (rI2 g (k + 1))), (10, .int (nI k))]) hx hb dL_law_229 hl (by decide) rfl (fun ls hl => ?_)
        refine rloop (nL := 23) (N := sCHe g P k) (fun _ => True) (fun i9 => [(0, .ref b), (1, .ref (q 0)), (2, .ref (A 0)), (3, .int (nI r)), (4, .int x), (5, .long (sDig g F P)), (7, .int (nI P)), (8, .int (nI (cn (fun z => lv g z) (k + 1)))), (9, .int (rI2 g (k + 1))), (10, .int (nI k)), (11, .int (nI i9))]) trivial (lv_sub hl [1, 2, 3, 4, 5, 6, 7, 8, 9, 10, 0] rfl) ?_ ?_
        · intro _ ls hl
          have hl : lv_has ls 23 [(0, .ref b), (1, .ref (q 0)), (2, .ref (A 0)), (3, .int (nI r)), (4, .int x), (5, .long (sDig g F P)), (7, .int (nI P)), (8, .int (nI (cn (fun z => lv g z) (k + 1)))), (9, .int (rI2 g (k + 1))), (10, .int (nI k)), (11, .int (nI (sCHe g P k)))] := hl
          have hcP : sCHe g P k ≤ P := cn_le _ _
          refine lv_iload hx hb dL_law_231 (lv_at hl 10 rfl) ?_
          refine lv_aload_n hx hb dL_law_233 rfl (lv_at hl 1 rfl) ?_
          refine lv_iload hx hb dL_law_234 (lv_at hl 9 rfl) ?_
          refine r_callR (rest := [.int (nI (sCHe g P k))]) Fx (m_X0_heirs_r l (D := D) (ci := ci) (cz := cz) (cj := cj) (q := q) (F := F) (P := P) (g := g) (by omega) (by omega) k (by omega)) (cwV 1 Fx.2.2.2.2 gL_law_X0_heirs rfl rfl rfl (by decide +kernel) ⟨Nat.le_of_ble_eq_true rfl, Nat.le_of_ble_eq_true rfl⟩) BW.bl (va_recv hK hP (ci := 0) (q0 := 0) rfl rfl) (BWb hqs hP hL hS) rfl hl.1 rfl (Nat.le_of_ble_eq_true rfl) dL_law_236 ⟨by show _ ≤ 600086; omega, by show _ ≤ 7301442; omega⟩ ?_
          have hv236 : sCHe g P k ≤ P := cn_le _ _
          refine n_icmp_ge (tgt := 304) hx hb (by omega) (by omega) dL_law_239 (by decide) (fun h11 => ?_) (fun h11 => by omega)
          refine lv_iinc (v := nI (k + 1)) (lv' := [(10, .int (nI (k + 1))), (0, .ref b), (1, .ref (q 0)), (2, .ref (A 0)), (3, .int (nI r)), (4, .int x), (5, .long (sDig g F P)), (7, .int (nI P)), (8, .int (nI (cn (fun z => lv g z) (k + 1)))), (9, .int (rI2 g (k + 1))), (11, .int (nI (sCHe g P k)))]) hx hb dL_law_304 hl (k := 9) rfl (nI_inc _ 1) (by decide) rfl (fun ls hl => ?_)
          refine lv_goto (tgt := 101) hx hb dL_law_307 (by decide) ?_
          exact kk ls (lv_sub hl [1, 2, 3, 4, 5, 6, 7, 8, 9, 0] rfl)
        · intro i hi _ ih ls hl
          have hl : lv_has ls 23 [(0, .ref b), (1, .ref (q 0)), (2, .ref (A 0)), (3, .int (nI r)), (4, .int x), (5, .long (sDig g F P)), (7, .int (nI P)), (8, .int (nI (cn (fun z => lv g z) (k + 1)))), (9, .int (rI2 g (k + 1))), (10, .int (nI k)), (11, .int (nI i))] := hl
          obtain ⟨z, hz, hz1, hz2, ez⟩ := fh_at hPb hi
          have hcP : sCHe g P k ≤ P := cn_le _ _
          refine lv_iload hx hb dL_law_231 (lv_at hl 10 rfl) ?_
          refine lv_aload_n hx hb dL_law_233 rfl (lv_at hl 1 rfl) ?_
          refine lv_iload hx hb dL_law_234 (lv_at hl 9 rfl) ?_
          refine r_callR (rest := [.int (nI i)]) Fx (m_X0_heirs_r l (D := D) (ci := ci) (cz := cz) (cj := cj) (q := q) (F := F) (P := P) (g := g) (by omega) (by omega) k (by omega)) (cwV 1 Fx.2.2.2.2 gL_law_X0_heirs rfl rfl rfl (by decide +kernel) ⟨Nat.le_of_ble_eq_true rfl, Nat.le_of_ble_eq_true rfl⟩) BW.bl (va_recv hK hP (ci := 0) (q0 := 0) rfl rfl) (BWb hqs hP hL hS) rfl hl.1 rfl (Nat.le_of_ble_eq_true rfl) dL_law_236 ⟨by show _ ≤ 600086; omega, by show _ ≤ 7301442; omega⟩ ?_
          have hv236 : sCHe g P k ≤ P := cn_le _ _
          refine n_icmp_ge (tgt := 304) hx hb (by omega) (by omega) dL_law_239 (by decide) (fun h12 => by omega) (fun h12 => ?_)
          refine lv_aload_n hx hb dL_law_242 rfl (lv_at hl 1 rfl) ?_
          refine lv_aload_n hx hb dL_law_243 rfl (lv_at hl 1 rfl) ?_
          refine lv_iload hx hb dL_law_244 (lv_at hl 9 rfl) ?_
          refine lv_iload hx hb dL_law_246 (lv_at hl 10 rfl) ?_
          refine r_callR (rest := [.ref (q 0)]) Fx (m_X0_heir_r l (D := D) (ci := ci) (cz := cz) (cj := cj) (q := q) (F := F) (P := P) (g := g) (by omega) (by omega) k (nI i) (by omega) (by rw [ez]; exact fun e => neg1_nI (by omega) e.symm)) (cwV 2 Fx.2.2.2.2 gL_law_X0_heir rfl rfl rfl (by decide +kernel) ⟨Nat.le_of_ble_eq_true rfl, Nat.le_of_ble_eq_true rfl⟩) BW.bl (va_recv hK hP (ci := 0) (q0 := 0) rfl rfl) (BWb hqs hP hL hS) rfl hl.1 rfl (Nat.le_of_ble_eq_true rfl) dL_law_248 ⟨by show _ ≤ 600086; omega, by show _ ≤ 7301442; omega⟩ ?_
          refine r_as (nI z) (ez) ?_
          refine r_callR (rest := []) Fx (m_X0_isAlive_r l (D := D) (ci := ci) (cz := cz) (cj := cj) (q := q) (F := F) (P := P) (g := g) (by omega) (by omega) z (by omega)) (cwV 1 Fx.2.2.2.2 gL_law_X0_isAlive rfl rfl rfl (by decide +kernel) ⟨Nat.le_of_ble_eq_true rfl, Nat.le_of_ble_eq_true rfl⟩) BW.bl (va_recv hK hP (ci := 0) (q0 := 0) rfl rfl) (BWb hqs hP hL hS) rfl hl.1 rfl (Nat.le_of_ble_eq_true rfl) dL_law_251 ⟨by show _ ≤ 600086; omega, by show _ ≤ 7301442; omega⟩ ?_
          refine b_if_eq (tgt := 296) hx hb dL_law_254 (by decide) (fun h13 => absurd (isH_1 hz1).1 (by rw [h13]; decide)) (fun h13 => ?_)
          refine lv_aload_n hx hb dL_law_257 rfl (lv_at hl 1 rfl) ?_
          refine lv_iload hx hb dL_law_258 (lv_at hl 9 rfl) ?_
          refine lv_iload hx hb dL_law_260 (lv_at hl 10 rfl) ?_
          refine r_callR (rest := []) Fx (m_X0_heir_r l (D := D) (ci := ci) (cz := cz) (cj := cj) (q := q) (F := F) (P := P) (g := g) (by omega) (by omega) k (nI i) (by omega) (by rw [ez]; exact fun e => neg1_nI (by omega) e.symm)) (cwV 2 Fx.2.2.2.2 gL_law_X0_heir rfl rfl rfl (by decide +kernel) ⟨Nat.le_of_ble_eq_true rfl, Nat.le_of_ble_eq_true rfl⟩) BW.bl (va_recv hK hP (ci := 0) (q0 := 0) rfl rfl) (BWb hqs hP hL hS) rfl hl.1 rfl (Nat.le_of_ble_eq_true rfl) dL_law_262 ⟨by show _ ≤ 600086; omega, by show _ ≤ 7301442; omega⟩ ?_
          refine r_as (nI z) (ez) ?_
          refine lv_iload hx hb dL_law_265 (lv_at hl 9 rfl) ?_
          refine n_icmp_eq (tgt := 296) hx hb (by omega) (by omega) dL_law_267 (by decide) (fun h14 => absurd h14 (isH_1 hz1).2) (fun h14 => ?_)
          refine lv_iload hx hb dL_law_270 (lv_at hl 10 rfl) ?_
          refine n_if_le (tgt := 298) hx hb (by omega) dL_law_272 (by decide) (fun h15 => ?_) (fun h15 => ?_)
          · refine lv_iinc (v := nI (i + 1)) (lv' := [(11, .int (nI (i + 1))), (0, .ref b), (1, .ref (q 0)), (2, .ref (A 0)), (3, .int (nI r)), (4, .int x), (5, .long (sDig g F P)), (7, .int (nI P)), (8, .int (nI (cn (fun z => lv g z) (k + 1)))), (9, .int (rI2 g (k + 1))), (10, .int (nI k))]) hx hb dL_law_298 hl (k := 10) rfl (nI_inc _ 1) (by decide) rfl (fun ls hl => ?_)
            refine lv_goto (tgt := 231) hx hb dL_law_301 (by decide) ?_
            exact ih trivial ls (lv_sub hl [1, 2, 3, 4, 5, 6, 7, 8, 9, 10, 0] rfl)
          · obtain ⟨y, hy9, hy1, hy2, ey⟩ := fh_at hPb (show i - 1 < sCHe g P k by omega)
            refine lv_aload_n hx hb dL_law_275 rfl (lv_at hl 1 rfl) ?_
            refine lv_iload hx hb dL_law_276 (lv_at hl 9 rfl) ?_
            refine lv_iload hx hb dL_law_278 (lv_at hl 10 rfl) ?_
            refine r_callR (rest := []) Fx (m_X0_heir_r l (D := D) (ci := ci) (cz := cz) (cj := cj) (q := q) (F := F) (P := P) (g := g) (by omega) (by omega) k (nI i) (by omega) (by rw [ez]; exact fun e => neg1_nI (by omega) e.symm)) (cwV 2 Fx.2.2.2.2 gL_law_X0_heir rfl rfl rfl (by decide +kernel) ⟨Nat.le_of_ble_eq_true rfl, Nat.le_of_ble_eq_true rfl⟩) BW.bl (va_recv hK hP (ci := 0) (q0 := 0) rfl rfl) (BWb hqs hP hL hS) rfl hl.1 rfl (Nat.le_of_ble_eq_true rfl) dL_law_280 ⟨by show _ ≤ 600086; omega, by show _ ≤ 7301442; omega⟩ ?_
            refine r_as (nI z) (ez) ?_
            refine lv_aload_n hx hb dL_law_283 rfl (lv_at hl 1 rfl) ?_
            refine lv_iload hx hb dL_law_284 (lv_at hl 9 rfl) ?_
            refine lv_iload hx hb dL_law_286 (lv_at hl 10 rfl) ?_
            refine lv_iconst (v := nI 1) hx hb dL_law_288 (by decide) ?_
            refine r_isub_n hx hb (by omega) dL_law_289 ?_
            refine r_callR (rest := [.int (nI z)]) Fx (m_X0_heir_r l (D := D) (ci := ci) (cz := cz) (cj := cj) (q := q) (F := F) (P := P) (g := g) (by omega) (by omega) k (nI (i - 1)) (by omega) (by rw [ey]; exact fun e => neg1_nI (by omega) e.symm)) (cwV 2 Fx.2.2.2.2 gL_law_X0_heir rfl rfl rfl (by decide +kernel) ⟨Nat.le_of_ble_eq_true rfl, Nat.le_of_ble_eq_true rfl⟩) BW.bl (va_recv hK hP (ci := 0) (q0 := 0) rfl rfl) (BWb hqs hP hL hS) rfl hl.1 rfl (Nat.le_of_ble_eq_true rfl) dL_law_290 ⟨by show _ ≤ 600086; omega, by show _ ≤ 7301442; omega⟩ ?_
            refine r_as (nI y) (ey) ?_
            refine n_icmp_gt (tgt := 298) hx hb (by omega) (by omega) dL_law_293 (by decide) (fun h16 => ?_) (fun h16 => absurd h16 (isH_lt hz2 hy2 (by omega)))
            refine lv_iinc (v := nI (i + 1)) (lv' := [(11, .int (nI (i + 1))), (0, .ref b), (1, .ref (q 0)), (2, .ref (A 0)), (3, .int (nI r)), (4, .int x), (5, .long (sDig g F P)), (7, .int (nI P)), (8, .int (nI (cn (fun z => lv g z) (k + 1)))), (9, .int (rI2 g (k + 1))), (10, .int (nI k))]) hx hb dL_law_298 hl (k := 10) rfl (nI_inc _ 1) (by decide) rfl (fun ls hl => ?_)
            refine lv_goto (tgt := 231) hx hb dL_law_301 (by decide) ?_
            exact ih trivial ls (lv_sub hl [1, 2, 3, 4, 5, 6, 7, 8, 9, 10, 0] rfl)
set_option maxHeartbeats 8000000 in
set_option maxRecDepth 100000 in
theorem lR1 {pg : Program} {l : Launch} {en : Env} {s : State} {m : MethodId} {args : Array Value} {bl : List Frame} {mt : Method} {cd : Code} {ls : Array Slot} {H : Heap} {locs : List Loc} {c0 s0 : Nat} {Q : State → Prop} {D : va_G} {ci cz : ClassId} {cj : ClassId × ClassId} {q : Nat → Nat} {sz b L : Nat} {xs : Nat → Int32} {A : Nat → Nat} {F P nn : Nat} {g : Nat → Nat → Int32} {x : Int32} {r f w n hr k j : Nat} (hl0 : l.stackTraces = false) (Fx : CallFix pg m cd cL_law 23 s args wsL_law RL) (hL : EL D ci cz cj sz s) (hX : XB b L xs s) (hbz : b < sz) (hLL : L < 1000) (hq : DQ q 8) (hqs : ∀ k, k < 8 → sz ≤ q k) (hsz : sz ≤ s.heap.size) (hcc : c0 + 0 ≤ 600086) (hss : s0 + 0 ≤ 7301442) (hAD : AD q sz A F P) (hI : Ix nn F P g) (hF1 : 1 ≤ F) (hP1 : 1 ≤ P) (hP : va_P D vwCl (w0 ci cz q F P g) H) (hQX : SS D ci cj A F P g H) (hS : va_S (bg sz) s.heap H locs) (hl : lv_has ls 23 [(0, .ref b), (1, .ref (q 0)), (2, .ref (A 0)), (3, .int (nI r)), (4, .int x)]) 
    (kk : ∀ (ls : Array Slot), lv_has ls 23 [(0, .ref b), (1, .ref (q 0)), (2, .ref (A 0)), (3, .int (nI r)), (4, .int x), (5, .long (sDig g F P)), (7, .int (nI P))] → W pg l en room_1 s m args bl mt cd H locs c0 s0 Q (F0 m 350 ls [])) : W pg l en room_1 s m args bl mt cd H locs c0 s0 Q (F0 m 80 ls []) := by
  have hx := Fx.1
  have hb := Fx.2.1
  obtain ⟨hK, hE, hNC⟩ := id hL
  have hO := hE.2.2.2.2
  have hFb := hI.b.1
  have hPb := hI.b.2
  have hin : ∀ w ∈ wsX10, w ∈ wsL_law := inlX1
  have sabg : ∀ q9, SA A F P q9 → bg sz q9 := by
    rintro q9 ⟨j, hj, rfl⟩
    exact (hAD.2 j hj).1
  refine lv_aload_n hx hb dL_law_80 rfl (lv_at hl 1 rfl) ?_
  refine r_callR (rest := []) Fx (m_X0_digest l (D := D) (ci := ci) (cz := cz) (cj := cj) (q := q) (F := F) (P := P) (g := g) (by omega) (by omega)  ) (cwV 0 Fx.2.2.2.2 gL_law_X0_digest rfl rfl rfl (by decide +kernel) ⟨Nat.le_of_ble_eq_true rfl, Nat.le_of_ble_eq_true rfl⟩) BW.bl (va_recv hK hP (ci := 0) (q0 := 0) rfl rfl) (BWb hqs hP hL hS) rfl hl.1 rfl (Nat.le_of_ble_eq_true rfl) dL_law_81 ⟨by show _ ≤ 600086; omega, by show _ ≤ 7301442; omega⟩ ?_
  refine lv_lstore (lv' := [(5, .long (sDig g F P)), (0, .ref b), (1, .ref (q 0)), (2, .ref (A 0)), (3, .int (nI r)), (4, .int x)]) hx hb dL_law_84 hl (by decide) rfl (fun ls hl => ?_)
  refine lv_aload_n hx hb dL_law_86 rfl (lv_at hl 2 rfl) ?_
  refine r_callR (rest := []) Fx (m_X0_people l (D := D) (ci := ci) (cz := cz) (cj := cj) (q := q) (F := F) (P := P) (g := g) (by omega) (by omega)  ) (cwV 0 Fx.2.2.2.2 gL_law_X0_people rfl rfl rfl (by decide +kernel) ⟨Nat.le_of_ble_eq_true rfl, Nat.le_of_ble_eq_true rfl⟩) BW.bl (va_recv hK hP (ci := 0) (q0 := 0) rfl rfl) (BWb hqs hP hL hS) rfl hl.1 rfl (Nat.le_of_ble_eq_true rfl) dL_law_87 ⟨by show _ ≤ 600086; omega, by show _ ≤ 7301442; omega⟩ ?_
  refine lv_istore (lv' := [(7, .int (nI P)), (5, .long (sDig g F P)), (0, .ref b), (1, .ref (q 0)), (2, .ref (A 0)), (3, .int (nI r)), (4, .int x)]) hx hb dL_law_90 hl (by decide) rfl (fun ls hl => ?_)
  refine lv_iconst (v := nI 0) hx hb dL_law_92 (by decide) ?_
  refine lv_istore (lv' := [(8, .int (nI 0)), (7, .int (nI P)), (5, .long (sDig g F P)), (0, .ref b), (1, .ref (q 0)), (2, .ref (A 0)), (3, .int (nI r)), (4, .int x)]) hx hb dL_law_93 hl (by decide) rfl (fun ls hl => ?_)
  refine lv_iconst (v := -1) hx hb dL_law_95 (by decide) ?_
  refine lv_istore (lv' := [(9, .int (-1)), (8, .int (nI 0)), (7, .int (nI P)), (5, .long (sDig g F P)), (0, .ref b), (1, .ref (q 0)), (2, .ref (A 0)), (3, .int (nI r)), (4, .int x)]) hx hb dL_law_96 hl (by decide) rfl (fun ls hl => ?_)
  refine lv_iconst (v := nI 0) hx hb dL_law_98 (by decide) ?_
  refine lv_istore (lv' := [(10, .int (nI 0)), (9, .int (-1)), (8, .int (nI 0)), (7, .int (nI P)), (5, .long (sDig g F P)), (0, .ref b), (1, .ref (q 0)), (2, .ref (A 0)), (3, .int (nI r)), (4, .int x)]) hx hb dL_law_99 hl (by decide) rfl (fun ls hl => ?_)
  refine rloop (nL := 23) (N := P) (fun _ => True) (fun i9 => [(0, .ref b), (1, .ref (q 0)), (2, .ref (A 0)), (3, .int (nI r)), (4, .int x), (5, .long (sDig g F P)), (7, .int (nI P)), (8, .int (nI (cn (fun z => lv g z) i9))), (9, .int (rI2 g i9)), (10, .int (nI i9))]) trivial (lv_sub hl [5, 6, 7, 8, 9, 4, 3, 2, 1, 0] rfl) ?_ ?_
  · intro _ ls hl
    have hl : lv_has ls 23 [(0, .ref b), (1, .ref (q 0)), (2, .ref (A 0)), (3, .int (nI r)), (4, .int x), (5, .long (sDig g F P)), (7, .int (nI P)), (8, .int (nI (cn (fun z => lv g z) P))), (9, .int (rI2 g P)), (10, .int (nI P))] := hl
    have hcL : cn (fun z => lv g z) P ≤ P := cn_le _ _
    refine lv_iload hx hb dL_law_101 (lv_at hl 9 rfl) ?_
    refine lv_iload hx hb dL_law_103 (lv_at hl 6 rfl) ?_
    refine n_icmp_ge (tgt := 310) hx hb (by omega) (by omega) dL_law_105 (by decide) (fun h1 => ?_) (fun h1 => by omega)
    refine lv_iload hx hb dL_law_310 (lv_at hl 7 rfl) ?_
    refine lv_aload_n hx hb dL_law_312 rfl (lv_at hl 1 rfl) ?_
    refine r_callR (rest := [.int (nI (cn (fun z => lv g z) P))]) Fx (m_X0_living l (D := D) (ci := ci) (cz := cz) (cj := cj) (q := q) (F := F) (P := P) (g := g) (by omega) (by omega)  ) (cwV 0 Fx.2.2.2.2 gL_law_X0_living rfl rfl rfl (by decide +kernel) ⟨Nat.le_of_ble_eq_true rfl, Nat.le_of_ble_eq_true rfl⟩) BW.bl (va_recv hK hP (ci := 0) (q0 := 0) rfl rfl) (BWb hqs hP hL hS) rfl hl.1 rfl (Nat.le_of_ble_eq_true rfl) dL_law_313 ⟨by show _ ≤ 600086; omega, by show _ ≤ 7301442; omega⟩ ?_
    have hv313 : sLiv g P ≤ P := cn_le _ _
    refine n_icmp_ne (tgt := 348) hx hb (by omega) (by omega) dL_law_316 (by decide) (fun h2 => absurd rfl h2) (fun h2 => ?_)
    refine r_via (pc2 := 350) (fun kj350 => ?_) ?_
    · refine lv_iload hx hb dL_law_319 (lv_at hl 7 rfl) ?_
      refine n_if_le (tgt := 350) hx hb (by omega) dL_law_321 (by decide) (fun h3 => ?_) (fun h3 => ?_)
      · exact kj350
      · obtain ⟨z, hz, ez, hz1, hz2⟩ := ric_at hI.iv (show 0 < cn (fun z => lv g z) P by omega)
        refine lv_aload_n hx hb dL_law_324 rfl (lv_at hl 1 rfl) ?_
        refine lv_aload_n hx hb dL_law_325 rfl (lv_at hl 1 rfl) ?_
        refine r_callR (rest := [.ref (q 0)]) Fx (m_X0_richest_r l (D := D) (ci := ci) (cz := cz) (cj := cj) (q := q) (F := F) (P := P) (g := g) (by omega) (by omega)  (by rw [ez]; exact fun e => neg1_nI (by omega) e.symm)) (cwV 0 Fx.2.2.2.2 gL_law_X0_richest rfl rfl rfl (by decide +kernel) ⟨Nat.le_of_ble_eq_true rfl, Nat.le_of_ble_eq_true rfl⟩) BW.bl (va_recv hK hP (ci := 0) (q0 := 0) rfl rfl) (BWb hqs hP hL hS) rfl hl.1 rfl (Nat.le_of_ble_eq_true rfl) dL_law_326 ⟨by show _ ≤ 600086; omega, by show _ ≤ 7301442; omega⟩ ?_
        refine r_as (nI z) (ez) ?_
        refine r_callR (rest := []) Fx (m_X0_isAlive_r l (D := D) (ci := ci) (cz := cz) (cj := cj) (q := q) (F := F) (P := P) (g := g) (by omega) (by omega) z (by omega)) (cwV 1 Fx.2.2.2.2 gL_law_X0_isAlive rfl rfl rfl (by decide +kernel) ⟨Nat.le_of_ble_eq_true rfl, Nat.le_of_ble_eq_true rfl⟩) BW.bl (va_recv hK hP (ci := 0) (q0 := 0) rfl rfl) (BWb hqs hP hL hS) rfl hl.1 rfl (Nat.le_of_ble_eq_true rfl) dL_law_329 ⟨by show _ ≤ 600086; omega, by show _ ≤ 7301442; omega⟩ ?_
        refine b_if_eq (tgt := 348) hx hb dL_law_332 (by decide) (fun h4 => absurd hz1 (by rw [h4]; decide)) (fun h4 => ?_)
        refine lv_aload_n hx hb dL_law_335 rfl (lv_at hl 1 rfl) ?_
        refine lv_aload_n hx hb dL_law_336 rfl (lv_at hl 1 rfl) ?_
        refine r_callR (rest := [.ref (q 0)]) Fx (m_X0_richest_r l (D := D) (ci := ci) (cz := cz) (cj := cj) (q := q) (F := F) (P := P) (g := g) (by omega) (by omega)  (by rw [ez]; exact fun e => neg1_nI (by omega) e.symm)) (cwV 0 Fx.2.2.2.2 gL_law_X0_richest rfl rfl rfl (by decide +kernel) ⟨Nat.le_of_ble_eq_true rfl, Nat.le_of_ble_eq_true rfl⟩) BW.bl (va_recv hK hP (ci := 0) (q0 := 0) rfl rfl) (BWb hqs hP hL hS) rfl hl.1 rfl (Nat.le_of_ble_eq_true rfl) dL_law_337 ⟨by show _ ≤ 600086; omega, by show _ ≤ 7301442; omega⟩ ?_
        refine r_as (nI z) (ez) ?_
        refine r_callR (rest := []) Fx (m_X0_coins_r l (D := D) (ci := ci) (cz := cz) (cj := cj) (q := q) (F := F) (P := P) (g := g) (by omega) (by omega) z (by omega)) (cwV 1 Fx.2.2.2.2 gL_law_X0_coins rfl rfl rfl (by decide +kernel) ⟨Nat.le_of_ble_eq_true rfl, Nat.le_of_ble_eq_true rfl⟩) BW.bl (va_recv hK hP (ci := 0) (q0 := 0) rfl rfl) (BWb hqs hP hL hS) rfl hl.1 rfl (Nat.le_of_ble_eq_true rfl) dL_law_340 ⟨by show _ ≤ 600086; omega, by show _ ≤ 7301442; omega⟩ ?_
        refine lv_iload hx hb dL_law_343 (lv_at hl 8 rfl) ?_
        refine lv_icmp_eq (tgt := 350) hx hb dL_law_345 (by decide) (fun h5 => ?_) (fun h5 => absurd hz2.symm h5)
        exact kj350
    · exact kk ls (lv_sub hl [0, 1, 2, 3, 4, 5, 6] rfl)
  · intro i hi _ ih ls hl
    exact lA (r := r) (f := 0) (w := 0) (n := 0) (hr := 0) (j := 0) hl0 Fx hL hX hbz hLL hq hqs hsz (by omega) (by omega) hAD hI hF1 hP1 hP hQX hS hl hi (fun ls hl => ih trivial ls hl)
set_option maxHeartbeats 8000000 in
set_option maxRecDepth 100000 in
theorem lBm {pg : Program} {l : Launch} {en : Env} {s : State} {m : MethodId} {args : Array Value} {bl : List Frame} {mt : Method} {cd : Code} {ls : Array Slot} {H : Heap} {locs : List Loc} {c0 s0 : Nat} {Q : State → Prop} {D : va_G} {ci cz : ClassId} {cj : ClassId × ClassId} {q : Nat → Nat} {sz b L : Nat} {xs : Nat → Int32} {A : Nat → Nat} {F P nn : Nat} {g : Nat → Nat → Int32} {x : Int32} {r f w n hr k j : Nat} (hl0 : l.stackTraces = false) (Fx : CallFix pg m cd cL_law 23 s args wsL_law RL) (hL : EL D ci cz cj sz s) (hX : XB b L xs s) (hbz : b < sz) (hLL : L < 1000) (hq : DQ q 8) (hqs : ∀ k, k < 8 → sz ≤ q k) (hsz : sz ≤ s.heap.size) (hcc : c0 + 0 ≤ 600086) (hss : s0 + 0 ≤ 7301442) (hAD : AD q sz A F P) (hI : Ix nn F P g) (hF1 : 1 ≤ F) (hP1 : 1 ≤ P) (hP : va_P D vwCl (w0 ci cz q F P g) H) (hQX : SS D ci cj A F P g H) (hS : va_S (bg sz) s.heap H locs) (hl : lv_has ls 23 [(0, .ref b), (1, .ref (q 0)), (2, .ref (A 0)), (3, .int (nI r)), (4, .int x), (5, .long (sDig g F P)), (7, .int (nI P)), (10, .int (nI f)), (11, .int (nI w)), (12, .int (mS g f k)), (13, .int (nI k))]) (hk : k < P) (hf : f < F)
    (kk : ∀ (ls : Array Slot), lv_has ls 23 [(0, .ref b), (1, .ref (q 0)), (2, .ref (A 0)), (3, .int (nI r)), (4, .int x), (5, .long (sDig g F P)), (7, .int (nI P)), (10, .int (nI f)), (11, .int (nI w)), (12, .int (mS g f (k + 1))), (13, .int (nI (k + 1)))] → W pg l en room_1 s m args bl mt cd H locs c0 s0 Q (F0 m 380 ls [])) : W pg l en room_1 s m args bl mt cd H locs c0 s0 Q (F0 m 380 ls []) := by
  have hx := Fx.1
  have hb := Fx.2.1
  obtain ⟨hK, hE, hNC⟩ := id hL
  have hO := hE.2.2.2.2
  have hFb := hI.b.1
  have hPb := hI.b.2
  have hin : ∀ w ∈ wsX10, w ∈ wsL_law := inlX1
  have sabg : ∀ q9, SA A F P q9 → bg sz q9 := by
    rintro q9 ⟨j, hj, rfl⟩
    exact (hAD.2 j hj).1
  refine lv_iload hx hb dL_law_380 (lv_at hl 10 rfl) ?_
  refine lv_iload hx hb dL_law_382 (lv_at hl 6 rfl) ?_
  refine n_icmp_ge (tgt := 448) hx hb (by omega) (by omega) dL_law_384 (by decide) (fun h1 => by omega) (fun h1 => ?_)
  refine lv_iconst (v := nI 0) hx hb dL_law_387 (by decide) ?_
  refine lv_istore (lv' := [(14, .int (nI 0)), (0, .ref b), (1, .ref (q 0)), (2, .ref (A 0)), (3, .int (nI r)), (4, .int x), (5, .long (sDig g F P)), (7, .int (nI P)), (10, .int (nI f)), (11, .int (nI w)), (12, .int (mS g f k)), (13, .int (nI k))]) hx hb dL_law_388 hl (by decide) rfl (fun ls hl => ?_)
  refine lv_iconst (v := nI 0) hx hb dL_law_390 (by decide) ?_
  refine lv_istore (lv' := [(15, .int (nI 0)), (14, .int (nI 0)), (0, .ref b), (1, .ref (q 0)), (2, .ref (A 0)), (3, .int (nI r)), (4, .int x), (5, .long (sDig g F P)), (7, .int (nI P)), (10, .int (nI f)), (11, .int (nI w)), (12, .int (mS g f k)), (13, .int (nI k))]) hx hb dL_law_391 hl (by decide) rfl (fun ls hl => ?_)
  refine rloop (nL := 23) (N := 4) (fun _ => True) (fun i9 => [(0, .ref b), (1, .ref (q 0)), (2, .ref (A 0)), (3, .int (nI r)), (4, .int x), (5, .long (sDig g F P)), (7, .int (nI P)), (10, .int (nI f)), (11, .int (nI w)), (12, .int (mS g f k)), (13, .int (nI k)), (14, .int (sm (fun w => own g f w k) i9)), (15, .int (nI i9))]) trivial (lv_sub hl [2, 3, 4, 5, 6, 7, 8, 9, 10, 11, 12, 1, 0] rfl) ?_ ?_
  · intro _ ls hl
    have hl : lv_has ls 23 [(0, .ref b), (1, .ref (q 0)), (2, .ref (A 0)), (3, .int (nI r)), (4, .int x), (5, .long (sDig g F P)), (7, .int (nI P)), (10, .int (nI f)), (11, .int (nI w)), (12, .int (mS g f k)), (13, .int (nI k)), (14, .int (sm (fun w => own g f w k) 4)), (15, .int (nI 4))] := hl
    refine lv_iload hx hb dL_law_393 (lv_at hl 12 rfl) ?_
    refine lv_iconst (v := nI 4) hx hb dL_law_395 (by decide) ?_
    refine n_icmp_ge (tgt := 420) hx hb (by omega) (by omega) dL_law_396 (by decide) (fun h2 => ?_) (fun h2 => by omega)
    refine lv_iload hx hb dL_law_420 (lv_at hl 11 rfl) ?_
    refine lv_sipush (v := nI 129) hx hb dL_law_422 (by decide) ?_
    refine lv_icmp_ge (tgt := 431) hx hb dL_law_425 (by decide) (fun h3 => ?_) (fun h3 => ?_)
    · refine lv_iload hx hb dL_law_431 (lv_at hl 9 rfl) ?_
      refine lv_if_lt (tgt := 438) hx hb dL_law_433 (by decide) (fun h4 => ?_) (fun h4 => absurd (mS_two hI.iv (by omega) (by omega) h3) h4)
      refine lv_iload hx hb dL_law_438 (lv_at hl 10 rfl) ?_
      refine lv_istore (lv' := [(12, .int (nI k)), (0, .ref b), (1, .ref (q 0)), (2, .ref (A 0)), (3, .int (nI r)), (4, .int x), (5, .long (sDig g F P)), (7, .int (nI P)), (10, .int (nI f)), (11, .int (nI w)), (13, .int (nI k)), (14, .int (sm (fun w => own g f w k) 4)), (15, .int (nI 4))]) hx hb dL_law_440 hl (by decide) rfl (fun ls hl => ?_)
      have e12 : nI k = mS g f (k + 1) := mS_yes (by omega) h3 h4
      have hl : lv_has ls 23 [(12, .int (mS g f (k + 1))), (0, .ref b), (1, .ref (q 0)), (2, .ref (A 0)), (3, .int (nI r)), (4, .int x), (5, .long (sDig g F P)), (7, .int (nI P)), (10, .int (nI f)), (11, .int (nI w)), (13, .int (nI k)), (14, .int (sm (fun w => own g f w k) 4)), (15, .int (nI 4))] := by rw [← e12]; exact hl
      refine lv_iinc (v := nI (k + 1)) (lv' := [(13, .int (nI (k + 1))), (12, .int (mS g f (k + 1))), (0, .ref b), (1, .ref (q 0)), (2, .ref (A 0)), (3, .int (nI r)), (4, .int x), (5, .long (sDig g F P)), (7, .int (nI P)), (10, .int (nI f)), (11, .int (nI w)), (14, .int (sm (fun w => own g f w k) 4)), (15, .int (nI 4))]) hx hb dL_law_442 hl (k := 10) rfl (nI_inc _ 1) (by decide) rfl (fun ls hl => ?_)
      refine lv_goto (tgt := 380) hx hb dL_law_445 (by decide) ?_
      exact kk ls (lv_sub hl [2, 3, 4, 5, 6, 7, 8, 9, 10, 1, 0] rfl)
    · have h3 := Int32.not_le.mp h3
      refine lv_goto (tgt := 442) hx hb dL_law_428 (by decide) ?_
      have e12 : mS g f k = mS g f (k + 1) := mS_no (by omega) (Int32.not_le.mpr h3)
      have hl : lv_has ls 23 [(0, .ref b), (1, .ref (q 0)), (2, .ref (A 0)), (3, .int (nI r)), (4, .int x), (5, .long (sDig g F P)), (7, .int (nI P)), (10, .int (nI f)), (11, .int (nI w)), (12, .int (mS g f (k + 1))), (13, .int (nI k)), (14, .int (sm (fun w => own g f w k) 4)), (15, .int (nI 4))] := by rw [← e12]; exact hl
      refine lv_iinc (v := nI (k + 1)) (lv' := [(13, .int (nI (k + 1))), (0, .ref b), (1, .ref (q 0)), (2, .ref (A 0)), (3, .int (nI r)), (4, .int x), (5, .long (sDig g F P)), (7, .int (nI P)), (10, .int (nI f)), (11, .int (nI w)), (12, .int (mS g f (k + 1))), (14, .int (sm (fun w => own g f w k) 4)), (15, .int (nI 4))]) hx hb dL_law_442 hl (k := 10) rfl (nI_inc _ 1) (by decide) rfl (fun ls hl => ?_)
      refine lv_goto (tgt := 380) hx hb dL_law_445 (by decide) ?_
      exact kk ls (lv_sub hl [1, 2, 3, 4, 5, 6, 7, 8, 9, 10, 0] rfl)
  · intro i hi _ ih ls hl
    have hl : lv_has ls 23 [(0, .ref b), (1, .ref (q 0)), (2, .ref (A 0)), (3, .int (nI r)), (4, .int x), (5, .long (sDig g F P)), (7, .int (nI P)), (10, .int (nI f)), (11, .int (nI w)), (12, .int (mS g f k)), (13, .int (nI k)), (14, .int (sm (fun w => own g f w k) i)), (15, .int (nI i))] := hl
    refine lv_iload hx hb dL_law_393 (lv_at hl 12 rfl) ?_
    refine lv_iconst (v := nI 4) hx hb dL_law_395 (by decide) ?_
    refine n_icmp_ge (tgt := 420) hx hb (by omega) (by omega) dL_law_396 (by decide) (fun h5 => by omega) (fun h5 => ?_)
    refine lv_iload hx hb dL_law_399 (lv_at hl 11 rfl) ?_
    refine lv_aload_n hx hb dL_law_401 rfl (lv_at hl 1 rfl) ?_
    refine lv_iload hx hb dL_law_402 (lv_at hl 7 rfl) ?_
    refine lv_iload hx hb dL_law_404 (lv_at hl 12 rfl) ?_
    refine lv_iload hx hb dL_law_406 (lv_at hl 10 rfl) ?_
    refine r_callR (rest := [.int (sm (fun w => own g f w k) i)]) Fx (m_X0_shares_r l (D := D) (ci := ci) (cz := cz) (cj := cj) (q := q) (F := F) (P := P) (g := g) (by omega) (by omega) f i k (by omega) (by omega) (by omega)) (cwV 3 Fx.2.2.2.2 gL_law_X0_shares rfl rfl rfl (by decide +kernel) ⟨Nat.le_of_ble_eq_true rfl, Nat.le_of_ble_eq_true rfl⟩) BW.bl (va_recv hK hP (ci := 0) (q0 := 0) rfl rfl) (BWb hqs hP hL hS) rfl hl.1 rfl (Nat.le_of_ble_eq_true rfl) dL_law_408 ⟨by show _ ≤ 600086; omega, by show _ ≤ 7301442; omega⟩ ?_
    refine lv_iadd hx hb dL_law_411 ?_
    refine r_as (sm (fun w => own g f w k) (i + 1)) rfl ?_
    refine lv_istore (lv' := [(14, .int (sm (fun w => own g f w k) (i + 1))), (0, .ref b), (1, .ref (q 0)), (2, .ref (A 0)), (3, .int (nI r)), (4, .int x), (5, .long (sDig g F P)), (7, .int (nI P)), (10, .int (nI f)), (11, .int (nI w)), (12, .int (mS g f k)), (13, .int (nI k)), (15, .int (nI i))]) hx hb dL_law_412 hl (by decide) rfl (fun ls hl => ?_)
    refine lv_iinc (v := nI (i + 1)) (lv' := [(15, .int (nI (i + 1))), (14, .int (sm (fun w => own g f w k) (i + 1))), (0, .ref b), (1, .ref (q 0)), (2, .ref (A 0)), (3, .int (nI r)), (4, .int x), (5, .long (sDig g F P)), (7, .int (nI P)), (10, .int (nI f)), (11, .int (nI w)), (12, .int (mS g f k)), (13, .int (nI k))]) hx hb dL_law_414 hl (k := 12) rfl (nI_inc _ 1) (by decide) rfl (fun ls hl => ?_)
    refine lv_goto (tgt := 393) hx hb dL_law_417 (by decide) ?_
    exact ih trivial ls (lv_sub hl [2, 3, 4, 5, 6, 7, 8, 9, 10, 11, 12, 1, 0] rfl)
set_option maxHeartbeats 8000000 in
set_option maxRecDepth 100000 in
theorem lD {pg : Program} {l : Launch} {en : Env} {s : State} {m : MethodId} {args : Array Value} {bl : List Frame} {mt : Method} {cd : Code} {ls : Array Slot} {H : Heap} {locs : List Loc} {c0 s0 : Nat} {Q : State → Prop} {D : va_G} {ci cz : ClassId} {cj : ClassId × ClassId} {q : Nat → Nat} {sz b L : Nat} {xs : Nat → Int32} {A : Nat → Nat} {F P nn : Nat} {g : Nat → Nat → Int32} {x : Int32} {r f w n hr k j : Nat} (hl0 : l.stackTraces = false) (Fx : CallFix pg m cd cL_law 23 s args wsL_law RL) (hL : EL D ci cz cj sz s) (hX : XB b L xs s) (hbz : b < sz) (hLL : L < 1000) (hq : DQ q 8) (hqs : ∀ k, k < 8 → sz ≤ q k) (hsz : sz ≤ s.heap.size) (hcc : c0 + 0 ≤ 600086) (hss : s0 + 0 ≤ 7301442) (hAD : AD q sz A F P) (hI : Ix nn F P g) (hF1 : 1 ≤ F) (hP1 : 1 ≤ P) (hP : va_P D vwCl (w0 ci cz q F P g) H) (hQX : SS D ci cj A F P g H) (hS : va_S (bg sz) s.heap H locs) (hl : lv_has ls 23 [(0, .ref b), (1, .ref (q 0)), (2, .ref (A 0)), (3, .int (nI r)), (4, .int x), (5, .long (sDig g F P)), (7, .int (nI P)), (10, .int (nI f)), (11, .int (nI w)), (13, .int (sCro g P f w + sm (fun p => own g f w p) (k + 1))), (14, .int (nI (cn (fun z => decide (0 < own g f w z)) (k + 1)))), (15, .int (sm (fun p => sFar g f (hr / 6) p (nI (1 + n))) (k + 1))), (16, .int (nI (1 + n))), (17, .int (nI hr)), (18, .int (nI k)), (19, .int (own g f w k)), (20, .int (sm (fun j => sInh g P k j f w) j)), (21, .int (nI j))]) (hj : j < P) (hk : k < P) (hf : f < F) (hw : w < 4) (hn : n < 200) (hr6 : hr / 6 = w) (hr24 : hr < 24)
    (kk : ∀ (ls : Array Slot), lv_has ls 23 [(0, .ref b), (1, .ref (q 0)), (2, .ref (A 0)), (3, .int (nI r)), (4, .int x), (5, .long (sDig g F P)), (7, .int (nI P)), (10, .int (nI f)), (11, .int (nI w)), (13, .int (sCro g P f w + sm (fun p => own g f w p) (k + 1))), (14, .int (nI (cn (fun z => decide (0 < own g f w z)) (k + 1)))), (15, .int (sm (fun p => sFar g f (hr / 6) p (nI (1 + n))) (k + 1))), (16, .int (nI (1 + n))), (17, .int (nI hr)), (18, .int (nI k)), (19, .int (own g f w k)), (20, .int (sm (fun j => sInh g P k j f w) (j + 1))), (21, .int (nI (j + 1)))] → W pg l en room_1 s m args bl mt cd H locs c0 s0 Q (F0 m 599 ls [])) : W pg l en room_1 s m args bl mt cd H locs c0 s0 Q (F0 m 599 ls []) := by
  have hx := Fx.1
  have hb := Fx.2.1
  obtain ⟨hK, hE, hNC⟩ := id hL
  have hO := hE.2.2.2.2
  have hFb := hI.b.1
  have hPb := hI.b.2
  have hin : ∀ w ∈ wsX10, w ∈ wsL_law := inlX1
  have sabg : ∀ q9, SA A F P q9 → bg sz q9 := by
    rintro q9 ⟨j, hj, rfl⟩
    exact (hAD.2 j hj).1
  refine lv_iload hx hb dL_law_599 (lv_at hl 17 rfl) ?_
  refine lv_iload hx hb dL_law_601 (lv_at hl 6 rfl) ?_
  refine n_icmp_ge (tgt := 730) hx hb (by omega) (by omega) dL_law_603 (by decide) (fun h1 => by omega) (fun h1 => ?_)
  refine lv_iload hx hb dL_law_606 (lv_at hl 16 rfl) ?_
  refine lv_aload_n hx hb dL_law_608 rfl (lv_at hl 1 rfl) ?_
  refine lv_iload hx hb dL_law_609 (lv_at hl 14 rfl) ?_
  refine lv_iload hx hb dL_law_611 (lv_at hl 17 rfl) ?_
  refine lv_iload hx hb dL_law_613 (lv_at hl 7 rfl) ?_
  refine lv_iload hx hb dL_law_615 (lv_at hl 8 rfl) ?_
  refine r_callR (rest := [.int (sm (fun j => sInh g P k j f w) j)]) Fx (m_X0_inheritance_r l (D := D) (ci := ci) (cz := cz) (cj := cj) (q := q) (F := F) (P := P) (g := g) (by omega) (by omega) k j f w (by omega) (by omega) (by omega) (by omega)) (cwV 4 Fx.2.2.2.2 gL_law_X0_inheritance rfl rfl rfl (by decide +kernel) ⟨Nat.le_of_ble_eq_true rfl, Nat.le_of_ble_eq_true rfl⟩) BW.bl (va_recv hK hP (ci := 0) (q0 := 0) rfl rfl) (BWb hqs hP hL hS) rfl hl.1 rfl (Nat.le_of_ble_eq_true rfl) dL_law_617 ⟨by show _ ≤ 600086; omega, by show _ ≤ 7301442; omega⟩ ?_
  refine lv_iadd hx hb dL_law_620 ?_
  refine r_as (sm (fun j => sInh g P k j f w) (j + 1)) rfl ?_
  refine lv_istore (lv' := [(20, .int (sm (fun j => sInh g P k j f w) (j + 1))), (0, .ref b), (1, .ref (q 0)), (2, .ref (A 0)), (3, .int (nI r)), (4, .int x), (5, .long (sDig g F P)), (7, .int (nI P)), (10, .int (nI f)), (11, .int (nI w)), (13, .int (sCro g P f w + sm (fun p => own g f w p) (k + 1))), (14, .int (nI (cn (fun z => decide (0 < own g f w z)) (k + 1)))), (15, .int (sm (fun p => sFar g f (hr / 6) p (nI (1 + n))) (k + 1))), (16, .int (nI (1 + n))), (17, .int (nI hr)), (18, .int (nI k)), (19, .int (own g f w k)), (21, .int (nI j))]) hx hb dL_law_621 hl (by decide) rfl (fun ls hl => ?_)
  refine r_via (pc2 := 680) (fun kj680 => ?_) ?_
  · refine lv_aload_n hx hb dL_law_623 rfl (lv_at hl 2 rfl) ?_
    refine lv_iload hx hb dL_law_624 (lv_at hl 17 rfl) ?_
    refine lv_iload hx hb dL_law_626 (lv_at hl 15 rfl) ?_
    refine lv_iload hx hb dL_law_628 (lv_at hl 8 rfl) ?_
    refine lv_iload hx hb dL_law_630 (lv_at hl 9 rfl) ?_
    refine r_callR (rest := []) Fx (m_X0_canBuy_r l (D := D) (ci := ci) (cz := cz) (cj := cj) (q := q) (F := F) (P := P) (g := g) (by omega) (by omega) j k f w (by omega) (by omega) (by omega) (by omega)) (cwV 4 Fx.2.2.2.2 gL_law_X0_canBuy rfl rfl rfl (by decide +kernel) ⟨Nat.le_of_ble_eq_true rfl, Nat.le_of_ble_eq_true rfl⟩) BW.bl (va_recv hK hP (ci := 0) (q0 := 0) rfl rfl) (BWb hqs hP hL hS) rfl hl.1 rfl (Nat.le_of_ble_eq_true rfl) dL_law_632 ⟨by show _ ≤ 600086; omega, by show _ ≤ 7301442; omega⟩ ?_
    refine b_if_eq (tgt := 680) hx hb dL_law_635 (by decide) (fun h2 => ?_) (fun h2 => ?_)
    · exact kj680
    · obtain ⟨m1, m2, m3, m4⟩ := may_all h2
      refine lv_iload hx hb dL_law_638 (lv_at hl 16 rfl) ?_
      refine lv_if_eq (tgt := 678) hx hb dL_law_640 (by decide) (fun h3 => absurd h3 m4) (fun h3 => ?_)
      refine lv_iload hx hb dL_law_643 (lv_at hl 17 rfl) ?_
      refine lv_iload hx hb dL_law_645 (lv_at hl 15 rfl) ?_
      refine n_icmp_eq (tgt := 678) hx hb (by omega) (by omega) dL_law_647 (by decide) (fun h4 => absurd h4 m2) (fun h4 => ?_)
      refine lv_aload_n hx hb dL_law_650 rfl (lv_at hl 2 rfl) ?_
      refine lv_iload hx hb dL_law_651 (lv_at hl 17 rfl) ?_
      refine r_callR (rest := []) Fx (m_X0_isAlive_r l (D := D) (ci := ci) (cz := cz) (cj := cj) (q := q) (F := F) (P := P) (g := g) (by omega) (by omega) j (by omega)) (cwV 1 Fx.2.2.2.2 gL_law_X0_isAlive rfl rfl rfl (by decide +kernel) ⟨Nat.le_of_ble_eq_true rfl, Nat.le_of_ble_eq_true rfl⟩) BW.bl (va_recv hK hP (ci := 0) (q0 := 0) rfl rfl) (BWb hqs hP hL hS) rfl hl.1 rfl (Nat.le_of_ble_eq_true rfl) dL_law_653 ⟨by show _ ≤ 600086; omega, by show _ ≤ 7301442; omega⟩ ?_
      refine b_if_eq (tgt := 678) hx hb dL_law_656 (by decide) (fun h5 => absurd m1 (by rw [h5]; decide)) (fun h5 => ?_)
      refine lv_aload_n hx hb dL_law_659 rfl (lv_at hl 2 rfl) ?_
      refine lv_iload hx hb dL_law_660 (lv_at hl 17 rfl) ?_
      refine r_callR (rest := []) Fx (m_X0_coins_r l (D := D) (ci := ci) (cz := cz) (cj := cj) (q := q) (F := F) (P := P) (g := g) (by omega) (by omega) j (by omega)) (cwV 1 Fx.2.2.2.2 gL_law_X0_coins rfl rfl rfl (by decide +kernel) ⟨Nat.le_of_ble_eq_true rfl, Nat.le_of_ble_eq_true rfl⟩) BW.bl (va_recv hK hP (ci := 0) (q0 := 0) rfl rfl) (BWb hqs hP hL hS) rfl hl.1 rfl (Nat.le_of_ble_eq_true rfl) dL_law_662 ⟨by show _ ≤ 600086; omega, by show _ ≤ 7301442; omega⟩ ?_
      refine lv_aload_n hx hb dL_law_665 rfl (lv_at hl 2 rfl) ?_
      refine lv_iload hx hb dL_law_666 (lv_at hl 15 rfl) ?_
      refine lv_iload hx hb dL_law_668 (lv_at hl 8 rfl) ?_
      refine lv_iload hx hb dL_law_670 (lv_at hl 9 rfl) ?_
      refine r_callR (rest := [.int (g 4 j)]) Fx (m_X0_price_r l (D := D) (ci := ci) (cz := cz) (cj := cj) (q := q) (F := F) (P := P) (g := g) (by omega) (by omega) k f w (by omega) (by omega) (by omega)) (cwV 3 Fx.2.2.2.2 gL_law_X0_price rfl rfl rfl (by decide +kernel) ⟨Nat.le_of_ble_eq_true rfl, Nat.le_of_ble_eq_true rfl⟩) BW.bl (va_recv hK hP (ci := 0) (q0 := 0) rfl rfl) (BWb hqs hP hL hS) rfl hl.1 rfl (Nat.le_of_ble_eq_true rfl) dL_law_672 ⟨by show _ ≤ 600086; omega, by show _ ≤ 7301442; omega⟩ ?_
      refine lv_icmp_ge (tgt := 680) hx hb dL_law_675 (by decide) (fun h6 => ?_) (fun h6 => absurd m3 h6)
      exact kj680
  · refine r_via (pc2 := 724) (fun kj724 => ?_) ?_
    · refine lv_aload_n hx hb dL_law_680 rfl (lv_at hl 2 rfl) ?_
      refine lv_iload hx hb dL_law_681 (lv_at hl 8 rfl) ?_
      refine lv_iload hx hb dL_law_683 (lv_at hl 9 rfl) ?_
      refine lv_iload hx hb dL_law_685 (lv_at hl 17 rfl) ?_
      refine r_callR (rest := []) Fx (m_X0_shares_r l (D := D) (ci := ci) (cz := cz) (cj := cj) (q := q) (F := F) (P := P) (g := g) (by omega) (by omega) f w j (by omega) (by omega) (by omega)) (cwV 3 Fx.2.2.2.2 gL_law_X0_shares rfl rfl rfl (by decide +kernel) ⟨Nat.le_of_ble_eq_true rfl, Nat.le_of_ble_eq_true rfl⟩) BW.bl (va_recv hK hP (ci := 0) (q0 := 0) rfl rfl) (BWb hqs hP hL hS) rfl hl.1 rfl (Nat.le_of_ble_eq_true rfl) dL_law_687 ⟨by show _ ≤ 600086; omega, by show _ ≤ 7301442; omega⟩ ?_
      refine lv_iload hx hb dL_law_690 (lv_at hl 16 rfl) ?_
      refine lv_icmp_lt (tgt := 724) hx hb dL_law_692 (by decide) (fun h7 => ?_) (fun h7 => ?_)
      · exact kj724
      · have h7 := Int32.not_lt.mp h7
        refine lv_aload_n hx hb dL_law_695 rfl (lv_at hl 2 rfl) ?_
        refine lv_iload hx hb dL_law_696 (lv_at hl 17 rfl) ?_
        refine lv_iload hx hb dL_law_698 (lv_at hl 8 rfl) ?_
        refine lv_iload hx hb dL_law_700 (lv_at hl 14 rfl) ?_
        refine lv_iload hx hb dL_law_702 (lv_at hl 13 rfl) ?_
        refine r_callR (rest := []) Fx (m_X0_fare_r l (D := D) (ci := ci) (cz := cz) (cj := cj) (q := q) (F := F) (P := P) (g := g) (by omega) (by omega) j f hr (nI (1 + n)) (by omega) (by omega) (by omega) ⟨nI_le (by omega) (by omega), nI_le (by omega) (by omega)⟩) (cwV 4 Fx.2.2.2.2 gL_law_X0_fare rfl rfl rfl (by decide +kernel) ⟨Nat.le_of_ble_eq_true rfl, Nat.le_of_ble_eq_true rfl⟩) BW.bl (va_recv hK hP (ci := 0) (q0 := 0) rfl rfl) (BWb hqs hP hL hS) rfl hl.1 rfl (Nat.le_of_ble_eq_true rfl) dL_law_704 ⟨by show _ ≤ 600086; omega, by show _ ≤ 7301442; omega⟩ ?_
        refine lv_aload_n hx hb dL_law_707 rfl (lv_at hl 2 rfl) ?_
        refine lv_iload hx hb dL_law_708 (lv_at hl 15 rfl) ?_
        refine lv_iload hx hb dL_law_710 (lv_at hl 8 rfl) ?_
        refine lv_iload hx hb dL_law_712 (lv_at hl 14 rfl) ?_
        refine lv_iload hx hb dL_law_714 (lv_at hl 13 rfl) ?_
        refine r_callR (rest := [.int (sFar g f (hr / 6) j (nI (1 + n)))]) Fx (m_X0_fare_r l (D := D) (ci := ci) (cz := cz) (cj := cj) (q := q) (F := F) (P := P) (g := g) (by omega) (by omega) k f hr (nI (1 + n)) (by omega) (by omega) (by omega) ⟨nI_le (by omega) (by omega), nI_le (by omega) (by omega)⟩) (cwV 4 Fx.2.2.2.2 gL_law_X0_fare rfl rfl rfl (by decide +kernel) ⟨Nat.le_of_ble_eq_true rfl, Nat.le_of_ble_eq_true rfl⟩) BW.bl (va_recv hK hP (ci := 0) (q0 := 0) rfl rfl) (BWb hqs hP hL hS) rfl hl.1 rfl (Nat.le_of_ble_eq_true rfl) dL_law_716 ⟨by show _ ≤ 600086; omega, by show _ ≤ 7301442; omega⟩ ?_
        refine lv_icmp_ge (tgt := 724) hx hb dL_law_719 (by decide) (fun h8 => ?_) (fun h8 => absurd (far_mono hI.iv hf (by omega) (by omega) (by omega) (by omega) (by rw [hr6]; exact Int32.not_lt.mp (Int32.not_lt.mpr h7))) h8)
        exact kj724
    · refine lv_iinc (v := nI (j + 1)) (lv' := [(21, .int (nI (j + 1))), (20, .int (sm (fun j => sInh g P k j f w) (j + 1))), (0, .ref b), (1, .ref (q 0)), (2, .ref (A 0)), (3, .int (nI r)), (4, .int x), (5, .long (sDig g F P)), (7, .int (nI P)), (10, .int (nI f)), (11, .int (nI w)), (13, .int (sCro g P f w + sm (fun p => own g f w p) (k + 1))), (14, .int (nI (cn (fun z => decide (0 < own g f w z)) (k + 1)))), (15, .int (sm (fun p => sFar g f (hr / 6) p (nI (1 + n))) (k + 1))), (16, .int (nI (1 + n))), (17, .int (nI hr)), (18, .int (nI k)), (19, .int (own g f w k))]) hx hb dL_law_724 hl (k := 17) rfl (nI_inc _ 1) (by decide) rfl (fun ls hl => ?_)
      refine lv_goto (tgt := 599) hx hb dL_law_727 (by decide) ?_
      exact kk ls (lv_sub hl [2, 3, 4, 5, 6, 7, 8, 9, 10, 11, 12, 13, 14, 15, 16, 17, 1, 0] rfl)
set_option maxHeartbeats 8000000 in
set_option maxRecDepth 100000 in
theorem lC {pg : Program} {l : Launch} {en : Env} {s : State} {m : MethodId} {args : Array Value} {bl : List Frame} {mt : Method} {cd : Code} {ls : Array Slot} {H : Heap} {locs : List Loc} {c0 s0 : Nat} {Q : State → Prop} {D : va_G} {ci cz : ClassId} {cj : ClassId × ClassId} {q : Nat → Nat} {sz b L : Nat} {xs : Nat → Int32} {A : Nat → Nat} {F P nn : Nat} {g : Nat → Nat → Int32} {x : Int32} {r f w n hr k j : Nat} (hl0 : l.stackTraces = false) (Fx : CallFix pg m cd cL_law 23 s args wsL_law RL) (hL : EL D ci cz cj sz s) (hX : XB b L xs s) (hbz : b < sz) (hLL : L < 1000) (hq : DQ q 8) (hqs : ∀ k, k < 8 → sz ≤ q k) (hsz : sz ≤ s.heap.size) (hcc : c0 + 0 ≤ 600086) (hss : s0 + 0 ≤ 7301442) (hAD : AD q sz A F P) (hI : Ix nn F P g) (hF1 : 1 ≤ F) (hP1 : 1 ≤ P) (hP : va_P D vwCl (w0 ci cz q F P g) H) (hQX : SS D ci cj A F P g H) (hS : va_S (bg sz) s.heap H locs) (hl : lv_has ls 23 [(0, .ref b), (1, .ref (q 0)), (2, .ref (A 0)), (3, .int (nI r)), (4, .int x), (5, .long (sDig g F P)), (7, .int (nI P)), (10, .int (nI f)), (11, .int (nI w)), (13, .int (sCro g P f w + sm (fun p => own g f w p) k)), (14, .int (nI (cn (fun z => decide (0 < own g f w z)) k))), (15, .int (sm (fun p => sFar g f (hr / 6) p (nI (1 + n))) k)), (16, .int (nI (1 + n))), (17, .int (nI hr)), (18, .int (nI k))]) (hk : k < P) (hf : f < F) (hw : w < 4) (hn : n < 200) (hr6 : hr / 6 = w) (hr24 : hr < 24)
    (kk : ∀ (ls : Array Slot), lv_has ls 23 [(0, .ref b), (1, .ref (q 0)), (2, .ref (A 0)), (3, .int (nI r)), (4, .int x), (5, .long (sDig g F P)), (7, .int (nI P)), (10, .int (nI f)), (11, .int (nI w)), (13, .int (sCro g P f w + sm (fun p => own g f w p) (k + 1))), (14, .int (nI (cn (fun z => decide (0 < own g f w z)) (k + 1)))), (15, .int (sm (fun p => sFar g f (hr / 6) p (nI (1 + n))) (k + 1))), (16, .int (nI (1 + n))), (17, .int (nI hr)), (18, .int (nI (k + 1)))] → W pg l en room_1 s m args bl mt cd H locs c0 s0 Q (F0 m 535 ls [])) : W pg l en room_1 s m args bl mt cd H locs c0 s0 Q (F0 m 535 ls []) := by
  have hx := Fx.1
  have hb := Fx.2.1
  obtain ⟨hK, hE, hNC⟩ := id hL
  have hO := hE.2.2.2.2
  have hFb := hI.b.1
  have hPb := hI.b.2
  have hin : ∀ w ∈ wsX10, w ∈ wsL_law := inlX1
  have sabg : ∀ q9, SA A F P q9 → bg sz q9 := by
    rintro q9 ⟨j, hj, rfl⟩
    exact (hAD.2 j hj).1
  refine lv_iload hx hb dL_law_535 (lv_at hl 14 rfl) ?_
  refine lv_iload hx hb dL_law_537 (lv_at hl 6 rfl) ?_
  refine n_icmp_ge (tgt := 787) hx hb (by omega) (by omega) dL_law_539 (by decide) (fun h1 => by omega) (fun h1 => ?_)
  refine lv_aload_n hx hb dL_law_542 rfl (lv_at hl 1 rfl) ?_
  refine lv_iload hx hb dL_law_543 (lv_at hl 7 rfl) ?_
  refine lv_iload hx hb dL_law_545 (lv_at hl 8 rfl) ?_
  refine lv_iload hx hb dL_law_547 (lv_at hl 14 rfl) ?_
  refine r_callR (rest := []) Fx (m_X0_shares_r l (D := D) (ci := ci) (cz := cz) (cj := cj) (q := q) (F := F) (P := P) (g := g) (by omega) (by omega) f w k (by omega) (by omega) (by omega)) (cwV 3 Fx.2.2.2.2 gL_law_X0_shares rfl rfl rfl (by decide +kernel) ⟨Nat.le_of_ble_eq_true rfl, Nat.le_of_ble_eq_true rfl⟩) BW.bl (va_recv hK hP (ci := 0) (q0 := 0) rfl rfl) (BWb hqs hP hL hS) rfl hl.1 rfl (Nat.le_of_ble_eq_true rfl) dL_law_549 ⟨by show _ ≤ 600086; omega, by show _ ≤ 7301442; omega⟩ ?_
  refine lv_istore (lv' := [(19, .int (own g f w k)), (0, .ref b), (1, .ref (q 0)), (2, .ref (A 0)), (3, .int (nI r)), (4, .int x), (5, .long (sDig g F P)), (7, .int (nI P)), (10, .int (nI f)), (11, .int (nI w)), (13, .int (sCro g P f w + sm (fun p => own g f w p) k)), (14, .int (nI (cn (fun z => decide (0 < own g f w z)) k))), (15, .int (sm (fun p => sFar g f (hr / 6) p (nI (1 + n))) k)), (16, .int (nI (1 + n))), (17, .int (nI hr)), (18, .int (nI k))]) hx hb dL_law_552 hl (by decide) rfl (fun ls hl => ?_)
  refine lv_iload hx hb dL_law_554 (lv_at hl 10 rfl) ?_
  refine lv_iload hx hb dL_law_556 (lv_at hl 0 rfl) ?_
  refine lv_iadd hx hb dL_law_558 ?_
  refine r_as (sCro g P f w + sm (fun p => own g f w p) (k + 1)) (Int32.add_assoc _ _ _) ?_
  refine lv_istore (lv' := [(13, .int (sCro g P f w + sm (fun p => own g f w p) (k + 1))), (19, .int (own g f w k)), (0, .ref b), (1, .ref (q 0)), (2, .ref (A 0)), (3, .int (nI r)), (4, .int x), (5, .long (sDig g F P)), (7, .int (nI P)), (10, .int (nI f)), (11, .int (nI w)), (14, .int (nI (cn (fun z => decide (0 < own g f w z)) k))), (15, .int (sm (fun p => sFar g f (hr / 6) p (nI (1 + n))) k)), (16, .int (nI (1 + n))), (17, .int (nI hr)), (18, .int (nI k))]) hx hb dL_law_559 hl (by decide) rfl (fun ls hl => ?_)
  refine lv_iload hx hb dL_law_561 (lv_at hl 11 rfl) ?_
  refine lv_iload hx hb dL_law_563 (lv_at hl 1 rfl) ?_
  refine r_selP hx hb dL_law_565 dL_law_568 dL_law_569 dL_law_572 ?_
  refine lv_iadd hx hb dL_law_573 ?_
  refine r_as (nI (cn (fun z => decide (0 < own g f w z)) (k + 1))) (by rw [n_bI, cn_s]) ?_
  refine lv_istore (lv' := [(14, .int (nI (cn (fun z => decide (0 < own g f w z)) (k + 1)))), (13, .int (sCro g P f w + sm (fun p => own g f w p) (k + 1))), (19, .int (own g f w k)), (0, .ref b), (1, .ref (q 0)), (2, .ref (A 0)), (3, .int (nI r)), (4, .int x), (5, .long (sDig g F P)), (7, .int (nI P)), (10, .int (nI f)), (11, .int (nI w)), (15, .int (sm (fun p => sFar g f (hr / 6) p (nI (1 + n))) k)), (16, .int (nI (1 + n))), (17, .int (nI hr)), (18, .int (nI k))]) hx hb dL_law_574 hl (by decide) rfl (fun ls hl => ?_)
  refine lv_iload hx hb dL_law_576 (lv_at hl 12 rfl) ?_
  refine lv_aload_n hx hb dL_law_578 rfl (lv_at hl 4 rfl) ?_
  refine lv_iload hx hb dL_law_579 (lv_at hl 15 rfl) ?_
  refine lv_iload hx hb dL_law_581 (lv_at hl 10 rfl) ?_
  refine lv_iload hx hb dL_law_583 (lv_at hl 14 rfl) ?_
  refine lv_iload hx hb dL_law_585 (lv_at hl 13 rfl) ?_
  refine r_callR (rest := [.int (sm (fun p => sFar g f (hr / 6) p (nI (1 + n))) k)]) Fx (m_X0_fare_r l (D := D) (ci := ci) (cz := cz) (cj := cj) (q := q) (F := F) (P := P) (g := g) (by omega) (by omega) k f hr (nI (1 + n)) (by omega) (by omega) (by omega) ⟨nI_le (by omega) (by omega), nI_le (by omega) (by omega)⟩) (cwV 4 Fx.2.2.2.2 gL_law_X0_fare rfl rfl rfl (by decide +kernel) ⟨Nat.le_of_ble_eq_true rfl, Nat.le_of_ble_eq_true rfl⟩) BW.bl (va_recv hK hP (ci := 0) (q0 := 0) rfl rfl) (BWb hqs hP hL hS) rfl hl.1 rfl (Nat.le_of_ble_eq_true rfl) dL_law_587 ⟨by show _ ≤ 600086; omega, by show _ ≤ 7301442; omega⟩ ?_
  refine lv_iadd hx hb dL_law_590 ?_
  refine r_as (sm (fun p => sFar g f (hr / 6) p (nI (1 + n))) (k + 1)) rfl ?_
  refine lv_istore (lv' := [(15, .int (sm (fun p => sFar g f (hr / 6) p (nI (1 + n))) (k + 1))), (14, .int (nI (cn (fun z => decide (0 < own g f w z)) (k + 1)))), (13, .int (sCro g P f w + sm (fun p => own g f w p) (k + 1))), (19, .int (own g f w k)), (0, .ref b), (1, .ref (q 0)), (2, .ref (A 0)), (3, .int (nI r)), (4, .int x), (5, .long (sDig g F P)), (7, .int (nI P)), (10, .int (nI f)), (11, .int (nI w)), (16, .int (nI (1 + n))), (17, .int (nI hr)), (18, .int (nI k))]) hx hb dL_law_591 hl (by decide) rfl (fun ls hl => ?_)
  refine lv_iconst (v := nI 0) hx hb dL_law_593 (by decide) ?_
  refine lv_istore (lv' := [(20, .int (nI 0)), (15, .int (sm (fun p => sFar g f (hr / 6) p (nI (1 + n))) (k + 1))), (14, .int (nI (cn (fun z => decide (0 < own g f w z)) (k + 1)))), (13, .int (sCro g P f w + sm (fun p => own g f w p) (k + 1))), (19, .int (own g f w k)), (0, .ref b), (1, .ref (q 0)), (2, .ref (A 0)), (3, .int (nI r)), (4, .int x), (5, .long (sDig g F P)), (7, .int (nI P)), (10, .int (nI f)), (11, .int (nI w)), (16, .int (nI (1 + n))), (17, .int (nI hr)), (18, .int (nI k))]) hx hb dL_law_594 hl (by decide) rfl (fun ls hl => ?_)
  refine lv_iconst (v := nI 0) hx hb dL_law_596 (by decide) ?_
  refine lv_istore (lv' := [(21, .int (nI 0)), (20, .int (nI 0)), (15, .int (sm (fun p => sFar g f (hr / 6) p (nI (1 + n))) (k + 1))), (14, .int (nI (cn (fun z => decide (0 < own g f w z)) (k + 1)))), (13, .int (sCro g P f w + sm (fun p => own g f w p) (k + 1))), (19, .int (own g f w k)), (0, .ref b), (1, .ref (q 0)), (2, .ref (A 0)), (3, .int (nI r)), (4, .int x), (5, .long (sDig g F P)), (7, .int (nI P)), (10, .int (nI f)), (11, .int (nI w)), (16, .int (nI (1 + n))), (17, .int (nI hr)), (18, .int (nI k))]) hx hb dL_law_597 hl (by decide) rfl (fun ls hl => ?_)
  refine rloop (nL := 23) (N := P) (fun _ => True) (fun i9 => [(0, .ref b), (1, .ref (q 0)), (2, .ref (A 0)), (3, .int (nI r)), (4, .int x), (5, .long (sDig g F P)), (7, .int (nI P)), (10, .int (nI f)), (11, .int (nI w)), (13, .int (sCro g P f w + sm (fun p => own g f w p) (k + 1))), (14, .int (nI (cn (fun z => decide (0 < own g f w z)) (k + 1)))), (15, .int (sm (fun p => sFar g f (hr / 6) p (nI (1 + n))) (k + 1))), (16, .int (nI (1 + n))), (17, .int (nI hr)), (18, .int (nI k)), (19, .int (own g f w k)), (20, .int (sm (fun j => sInh g P k j f w) i9)), (21, .int (nI i9))]) trivial (lv_sub hl [6, 7, 8, 9, 10, 11, 12, 13, 14, 4, 3, 2, 15, 16, 17, 5, 1, 0] rfl) ?_ ?_
  · intro _ ls hl
    have hl : lv_has ls 23 [(0, .ref b), (1, .ref (q 0)), (2, .ref (A 0)), (3, .int (nI r)), (4, .int x), (5, .long (sDig g F P)), (7, .int (nI P)), (10, .int (nI f)), (11, .int (nI w)), (13, .int (sCro g P f w + sm (fun p => own g f w p) (k + 1))), (14, .int (nI (cn (fun z => decide (0 < own g f w z)) (k + 1)))), (15, .int (sm (fun p => sFar g f (hr / 6) p (nI (1 + n))) (k + 1))), (16, .int (nI (1 + n))), (17, .int (nI hr)), (18, .int (nI k)), (19, .int (own g f w k)), (20, .int (sm (fun j => sInh g P k j f w) P)), (21, .int (nI P))] := hl
    refine lv_iload hx hb dL_law_599 (lv_at hl 17 rfl) ?_
    refine lv_iload hx hb dL_law_601 (lv_at hl 6 rfl) ?_
    refine n_icmp_ge (tgt := 730) hx hb (by omega) (by omega) dL_law_603 (by decide) (fun h2 => ?_) (fun h2 => by omega)
    refine lv_iload hx hb dL_law_730 (lv_at hl 15 rfl) ?_
    refine lv_if_lt (tgt := 779) hx hb dL_law_732 (by decide) (fun h3 => absurd h3 (own_n hI.iv (by omega) (by omega) (by omega))) (fun h3 => ?_)
    refine r_via (pc2 := 755) (fun kj755 => ?_) ?_
    · refine lv_iload hx hb dL_law_735 (lv_at hl 16 rfl) ?_
      refine lv_aload_n hx hb dL_law_737 rfl (lv_at hl 1 rfl) ?_
      refine lv_iload hx hb dL_law_738 (lv_at hl 14 rfl) ?_
      refine r_callR (rest := [.int (sm (fun j => sInh g P k j f w) P)]) Fx (m_X0_heirs_r l (D := D) (ci := ci) (cz := cz) (cj := cj) (q := q) (F := F) (P := P) (g := g) (by omega) (by omega) k (by omega)) (cwV 1 Fx.2.2.2.2 gL_law_X0_heirs rfl rfl rfl (by decide +kernel) ⟨Nat.le_of_ble_eq_true rfl, Nat.le_of_ble_eq_true rfl⟩) BW.bl (va_recv hK hP (ci := 0) (q0 := 0) rfl rfl) (BWb hqs hP hL hS) rfl hl.1 rfl (Nat.le_of_ble_eq_true rfl) dL_law_740 ⟨by show _ ≤ 600086; omega, by show _ ≤ 7301442; omega⟩ ?_
      have hv740 : sCHe g P k ≤ P := cn_le _ _
      refine n_if_le (tgt := 751) hx hb (by omega) dL_law_743 (by decide) (fun h4 => ?_) (fun h4 => ?_)
      · refine lv_iconst (v := nI 0) hx hb dL_law_751 (by decide) ?_
        refine lv_icmp_ne (tgt := 779) hx hb dL_law_752 (by decide) (fun h5 => absurd (inh_0 (by omega)) h5) (fun h5 => ?_)
        exact kj755
      · refine lv_iload hx hb dL_law_746 (lv_at hl 15 rfl) ?_
        refine lv_goto (tgt := 752) hx hb dL_law_748 (by decide) ?_
        refine lv_icmp_ne (tgt := 779) hx hb dL_law_752 (by decide) (fun h6 => absurd (inh_sum hI.iv (by omega) hw (by omega) (by omega)) h6) (fun h6 => ?_)
        exact kj755
    · refine lv_aload_n hx hb dL_law_755 rfl (lv_at hl 1 rfl) ?_
      refine lv_iload hx hb dL_law_756 (lv_at hl 14 rfl) ?_
      refine lv_iload hx hb dL_law_758 (lv_at hl 7 rfl) ?_
      refine lv_iload hx hb dL_law_760 (lv_at hl 8 rfl) ?_
      refine r_callR (rest := []) Fx (m_X0_price_r l (D := D) (ci := ci) (cz := cz) (cj := cj) (q := q) (F := F) (P := P) (g := g) (by omega) (by omega) k f w (by omega) (by omega) (by omega)) (cwV 3 Fx.2.2.2.2 gL_law_X0_price rfl rfl rfl (by decide +kernel) ⟨Nat.le_of_ble_eq_true rfl, Nat.le_of_ble_eq_true rfl⟩) BW.bl (va_recv hK hP (ci := 0) (q0 := 0) rfl rfl) (BWb hqs hP hL hS) rfl hl.1 rfl (Nat.le_of_ble_eq_true rfl) dL_law_762 ⟨by show _ ≤ 600086; omega, by show _ ≤ 7301442; omega⟩ ?_
      refine lv_iload hx hb dL_law_765 (lv_at hl 15 rfl) ?_
      refine lv_aload_n hx hb dL_law_767 rfl (lv_at hl 1 rfl) ?_
      refine lv_iload hx hb dL_law_768 (lv_at hl 7 rfl) ?_
      refine lv_iload hx hb dL_law_770 (lv_at hl 8 rfl) ?_
      refine r_callR (rest := [.int (own g f w k), .int (sPri g f w k)]) Fx (m_X0_shareValue_r l (D := D) (ci := ci) (cz := cz) (cj := cj) (q := q) (F := F) (P := P) (g := g) (by omega) (by omega) f w (by omega) (by omega)) (cwV 2 Fx.2.2.2.2 gL_law_X0_shareValue rfl rfl rfl (by decide +kernel) ⟨Nat.le_of_ble_eq_true rfl, Nat.le_of_ble_eq_true rfl⟩) BW.bl (va_recv hK hP (ci := 0) (q0 := 0) rfl rfl) (BWb hqs hP hL hS) rfl hl.1 rfl (Nat.le_of_ble_eq_true rfl) dL_law_772 ⟨by show _ ≤ 600086; omega, by show _ ≤ 7301442; omega⟩ ?_
      refine lv_imul hx hb dL_law_775 ?_
      refine lv_icmp_eq (tgt := 781) hx hb dL_law_776 (by decide) (fun h7 => ?_) (fun h7 => absurd rfl h7)
      refine lv_iinc (v := nI (k + 1)) (lv' := [(18, .int (nI (k + 1))), (0, .ref b), (1, .ref (q 0)), (2, .ref (A 0)), (3, .int (nI r)), (4, .int x), (5, .long (sDig g F P)), (7, .int (nI P)), (10, .int (nI f)), (11, .int (nI w)), (13, .int (sCro g P f w + sm (fun p => own g f w p) (k + 1))), (14, .int (nI (cn (fun z => decide (0 < own g f w z)) (k + 1)))), (15, .int (sm (fun p => sFar g f (hr / 6) p (nI (1 + n))) (k + 1))), (16, .int (nI (1 + n))), (17, .int (nI hr)), (19, .int (own g f w k)), (20, .int (sm (fun j => sInh g P k j f w) P)), (21, .int (nI P))]) hx hb dL_law_781 hl (k := 14) rfl (nI_inc _ 1) (by decide) rfl (fun ls hl => ?_)
      refine lv_goto (tgt := 535) hx hb dL_law_784 (by decide) ?_
      exact kk ls (lv_sub hl [1, 2, 3, 4, 5, 6, 7, 8, 9, 10, 11, 12, 13, 14, 0] rfl)
  · intro i hi _ ih ls hl
    exact lD (r := r) (k := k) (j := i) hl0 Fx hL hX hbz hLL hq hqs hsz (by omega) (by omega) hAD hI hF1 hP1 hP hQX hS hl hi hk hf hw hn hr6 hr24 (fun ls hl => ih trivial ls hl)
set_option maxHeartbeats 8000000 in
set_option maxRecDepth 100000 in
theorem lR2 {pg : Program} {l : Launch} {en : Env} {s : State} {m : MethodId} {args : Array Value} {bl : List Frame} {mt : Method} {cd : Code} {ls : Array Slot} {H : Heap} {locs : List Loc} {c0 s0 : Nat} {Q : State → Prop} {D : va_G} {ci cz : ClassId} {cj : ClassId × ClassId} {q : Nat → Nat} {sz b L : Nat} {xs : Nat → Int32} {A : Nat → Nat} {F P nn : Nat} {g : Nat → Nat → Int32} {x : Int32} {r f w n hr k j : Nat} (hl0 : l.stackTraces = false) (Fx : CallFix pg m cd cL_law 23 s args wsL_law RL) (hL : EL D ci cz cj sz s) (hX : XB b L xs s) (hbz : b < sz) (hLL : L < 1000) (hq : DQ q 8) (hqs : ∀ k, k < 8 → sz ≤ q k) (hsz : sz ≤ s.heap.size) (hcc : c0 + 0 ≤ 600086) (hss : s0 + 0 ≤ 7301442) (hAD : AD q sz A F P) (hI : Ix nn F P g) (hF1 : 1 ≤ F) (hP1 : 1 ≤ P) (hP : va_P D vwCl (w0 ci cz q F P g) H) (hQX : SS D ci cj A F P g H) (hS : va_S (bg sz) s.heap H locs) (hl : lv_has ls 23 [(0, .ref b), (1, .ref (q 0)), (2, .ref (A 0)), (3, .int (nI r)), (4, .int x), (5, .long (sDig g F P)), (7, .int (nI P))]) 
    (kk : ∀ (ls : Array Slot) (f w n hr : Nat), f < F → w < 4 → n < 200 → hr / 6 = w → hr < 24 → lv_has ls 23 [(0, .ref b), (1, .ref (q 0)), (2, .ref (A 0)), (3, .int (nI r)), (4, .int x), (5, .long (sDig g F P)), (7, .int (nI P)), (10, .int (nI f)), (11, .int (nI w)), (15, .int (sm (fun p => sFar g f (hr / 6) p (nI (1 + n))) P)), (16, .int (nI (1 + n))), (17, .int (nI hr))] → W pg l en room_1 s m args bl mt cd H locs c0 s0 Q (F0 m 833 ls [])) : W pg l en room_1 s m args bl mt cd H locs c0 s0 Q (F0 m 350 ls []) := by
  have hx := Fx.1
  have hb := Fx.2.1
  obtain ⟨hK, hE, hNC⟩ := id hL
  have hO := hE.2.2.2.2
  have hFb := hI.b.1
  have hPb := hI.b.2
  have hin : ∀ w ∈ wsX10, w ∈ wsL_law := inlX1
  have sabg : ∀ q9, SA A F P q9 → bg sz q9 := by
    rintro q9 ⟨j, hj, rfl⟩
    exact (hAD.2 j hj).1
  refine lv_iload hx hb dL_law_350 (lv_at hl 4 rfl) ?_
  refine lv_iconst (v := nI 3) hx hb dL_law_352 (by decide) ?_
  refine lv_ishr hx hb dL_law_353 ?_
  refine lv_aload_n hx hb dL_law_354 rfl (lv_at hl 1 rfl) ?_
  refine r_callR (rest := [.int (x >>> ((nI 3) &&& 31))]) Fx (m_X0_ferries l (D := D) (ci := ci) (cz := cz) (cj := cj) (q := q) (F := F) (P := P) (g := g) (by omega) (by omega)  ) (cwV 0 Fx.2.2.2.2 gL_law_X0_ferries rfl rfl rfl (by decide +kernel) ⟨Nat.le_of_ble_eq_true rfl, Nat.le_of_ble_eq_true rfl⟩) BW.bl (va_recv hK hP (ci := 0) (q0 := 0) rfl rfl) (BWb hqs hP hL hS) rfl hl.1 rfl (Nat.le_of_ble_eq_true rfl) dL_law_355 ⟨by show _ ≤ 600086; omega, by show _ ≤ 7301442; omega⟩ ?_
  refine r_callRS (rest := []) Fx (m_L_below l (x >>> ((nI 3) &&& 31)) F (by omega) (by omega)) (va_cwS 2 Fx.2.2.2.2 gL_law_L_below rfl rfl rfl (by decide +kernel) ⟨Nat.le_of_ble_eq_true rfl, Nat.le_of_ble_eq_true rfl⟩) (fun _ _ _ _ h => h) (fun _ _ _ => trivial) rfl hl.1 rfl (Nat.le_of_ble_eq_true rfl) dL_law_358 ⟨by show _ ≤ 600086; omega, by show _ ≤ 7301442; omega⟩ ?_
  obtain ⟨f, hf, ef⟩ : ∃ j, j < F ∧ bw (x >>> ((nI 3) &&& 31)) F = j := ⟨_, bw_lt (by omega), rfl⟩
  rw [ef]
  refine lv_istore (lv' := [(10, .int (nI f)), (0, .ref b), (1, .ref (q 0)), (2, .ref (A 0)), (3, .int (nI r)), (4, .int x), (5, .long (sDig g F P)), (7, .int (nI P))]) hx hb dL_law_361 hl (by decide) rfl (fun ls hl => ?_)
  refine lv_iload hx hb dL_law_363 (lv_at hl 5 rfl) ?_
  refine lv_bipush (v := nI 6) hx hb dL_law_365 (by decide) ?_
  refine lv_ishr hx hb dL_law_367 ?_
  refine lv_iconst (v := nI 4) hx hb dL_law_368 (by decide) ?_
  refine r_callRS (rest := []) Fx (m_L_below l (x >>> ((nI 6) &&& 31)) 4 (by omega) (by omega)) (va_cwS 2 Fx.2.2.2.2 gL_law_L_below rfl rfl rfl (by decide +kernel) ⟨Nat.le_of_ble_eq_true rfl, Nat.le_of_ble_eq_true rfl⟩) (fun _ _ _ _ h => h) (fun _ _ _ => trivial) rfl hl.1 rfl (Nat.le_of_ble_eq_true rfl) dL_law_369 ⟨by show _ ≤ 600086; omega, by show _ ≤ 7301442; omega⟩ ?_
  obtain ⟨w, hw, ew⟩ : ∃ j, j < 4 ∧ bw (x >>> ((nI 6) &&& 31)) 4 = j := ⟨_, bw_lt (by omega), rfl⟩
  rw [ew]
  refine lv_istore (lv' := [(11, .int (nI w)), (10, .int (nI f)), (0, .ref b), (1, .ref (q 0)), (2, .ref (A 0)), (3, .int (nI r)), (4, .int x), (5, .long (sDig g F P)), (7, .int (nI P))]) hx hb dL_law_372 hl (by decide) rfl (fun ls hl => ?_)
  refine lv_iconst (v := -1) hx hb dL_law_374 (by decide) ?_
  refine lv_istore (lv' := [(12, .int (-1)), (11, .int (nI w)), (10, .int (nI f)), (0, .ref b), (1, .ref (q 0)), (2, .ref (A 0)), (3, .int (nI r)), (4, .int x), (5, .long (sDig g F P)), (7, .int (nI P))]) hx hb dL_law_375 hl (by decide) rfl (fun ls hl => ?_)
  refine lv_iconst (v := nI 0) hx hb dL_law_377 (by decide) ?_
  refine lv_istore (lv' := [(13, .int (nI 0)), (12, .int (-1)), (11, .int (nI w)), (10, .int (nI f)), (0, .ref b), (1, .ref (q 0)), (2, .ref (A 0)), (3, .int (nI r)), (4, .int x), (5, .long (sDig g F P)), (7, .int (nI P))]) hx hb dL_law_378 hl (by decide) rfl (fun ls hl => ?_)
  refine rloop (nL := 23) (N := P) (fun _ => True) (fun i9 => [(0, .ref b), (1, .ref (q 0)), (2, .ref (A 0)), (3, .int (nI r)), (4, .int x), (5, .long (sDig g F P)), (7, .int (nI P)), (10, .int (nI f)), (11, .int (nI w)), (12, .int (mS g f i9)), (13, .int (nI i9))]) trivial (lv_sub hl [4, 5, 6, 7, 8, 9, 10, 3, 2, 1, 0] rfl) ?_ ?_
  · intro _ ls hl
    have hl : lv_has ls 23 [(0, .ref b), (1, .ref (q 0)), (2, .ref (A 0)), (3, .int (nI r)), (4, .int x), (5, .long (sDig g F P)), (7, .int (nI P)), (10, .int (nI f)), (11, .int (nI w)), (12, .int (mS g f P)), (13, .int (nI P))] := hl
    refine lv_iload hx hb dL_law_380 (lv_at hl 10 rfl) ?_
    refine lv_iload hx hb dL_law_382 (lv_at hl 6 rfl) ?_
    refine n_icmp_ge (tgt := 448) hx hb (by omega) (by omega) dL_law_384 (by decide) (fun h1 => ?_) (fun h1 => by omega)
    refine lv_aload_n hx hb dL_law_448 rfl (lv_at hl 1 rfl) ?_
    refine lv_iload hx hb dL_law_449 (lv_at hl 7 rfl) ?_
    refine r_callR (rest := []) Fx (m_X0_hasMaster_r l (D := D) (ci := ci) (cz := cz) (cj := cj) (q := q) (F := F) (P := P) (g := g) (by omega) (by omega) f (by omega)) (cwV 1 Fx.2.2.2.2 gL_law_X0_hasMaster rfl rfl rfl (by decide +kernel) ⟨Nat.le_of_ble_eq_true rfl, Nat.le_of_ble_eq_true rfl⟩) BW.bl (va_recv hK hP (ci := 0) (q0 := 0) rfl rfl) (BWb hqs hP hL hS) rfl hl.1 rfl (Nat.le_of_ble_eq_true rfl) dL_law_451 ⟨by show _ ≤ 600086; omega, by show _ ≤ 7301442; omega⟩ ?_
    refine lv_iload hx hb dL_law_454 (lv_at hl 9 rfl) ?_
    refine r_selN hx hb dL_law_456 dL_law_459 dL_law_460 dL_law_463 ?_
    refine lv_icmp_ne (tgt := 483) hx hb dL_law_464 (by decide) (fun h2 => absurd (by rw [mas_ne hPb]; rfl) h2) (fun h2 => ?_)
    refine r_via (pc2 := 485) (fun kj485 => ?_) ?_
    · refine lv_iload hx hb dL_law_467 (lv_at hl 9 rfl) ?_
      refine lv_if_lt (tgt := 485) hx hb dL_law_469 (by decide) (fun h3 => ?_) (fun h3 => ?_)
      · exact kj485
      · have h3 := Int32.not_lt.mp h3
        refine lv_aload_n hx hb dL_law_472 rfl (lv_at hl 1 rfl) ?_
        refine lv_iload hx hb dL_law_473 (lv_at hl 7 rfl) ?_
        refine r_callR (rest := []) Fx (m_X0_master_r l (D := D) (ci := ci) (cz := cz) (cj := cj) (q := q) (F := F) (P := P) (g := g) (by omega) (by omega) f (by omega) (mas_no (f := f) (Int32.not_lt.mpr h3))) (cwV 1 Fx.2.2.2.2 gL_law_X0_master rfl rfl rfl (by decide +kernel) ⟨Nat.le_of_ble_eq_true rfl, Nat.le_of_ble_eq_true rfl⟩) BW.bl (va_recv hK hP (ci := 0) (q0 := 0) rfl rfl) (BWb hqs hP hL hS) rfl hl.1 rfl (Nat.le_of_ble_eq_true rfl) dL_law_475 ⟨by show _ ≤ 600086; omega, by show _ ≤ 7301442; omega⟩ ?_
        refine lv_iload hx hb dL_law_478 (lv_at hl 9 rfl) ?_
        refine lv_icmp_eq (tgt := 485) hx hb dL_law_480 (by decide) (fun h4 => ?_) (fun h4 => absurd rfl h4)
        exact kj485
    · refine lv_aload_n hx hb dL_law_485 rfl (lv_at hl 1 rfl) ?_
      refine lv_iload hx hb dL_law_486 (lv_at hl 7 rfl) ?_
      refine lv_iload hx hb dL_law_488 (lv_at hl 8 rfl) ?_
      refine r_callR (rest := []) Fx (m_X0_crownShares_r l (D := D) (ci := ci) (cz := cz) (cj := cj) (q := q) (F := F) (P := P) (g := g) (by omega) (by omega) f w (by omega) (by omega)) (cwV 2 Fx.2.2.2.2 gL_law_X0_crownShares rfl rfl rfl (by decide +kernel) ⟨Nat.le_of_ble_eq_true rfl, Nat.le_of_ble_eq_true rfl⟩) BW.bl (va_recv hK hP (ci := 0) (q0 := 0) rfl rfl) (BWb hqs hP hL hS) rfl hl.1 rfl (Nat.le_of_ble_eq_true rfl) dL_law_490 ⟨by show _ ≤ 600086; omega, by show _ ≤ 7301442; omega⟩ ?_
      refine lv_istore (lv' := [(13, .int (sCro g P f w)), (0, .ref b), (1, .ref (q 0)), (2, .ref (A 0)), (3, .int (nI r)), (4, .int x), (5, .long (sDig g F P)), (7, .int (nI P)), (10, .int (nI f)), (11, .int (nI w)), (12, .int (mS g f P))]) hx hb dL_law_493 hl (by decide) rfl (fun ls hl => ?_)
      refine lv_iconst (v := nI 0) hx hb dL_law_495 (by decide) ?_
      refine lv_istore (lv' := [(14, .int (nI 0)), (13, .int (sCro g P f w)), (0, .ref b), (1, .ref (q 0)), (2, .ref (A 0)), (3, .int (nI r)), (4, .int x), (5, .long (sDig g F P)), (7, .int (nI P)), (10, .int (nI f)), (11, .int (nI w)), (12, .int (mS g f P))]) hx hb dL_law_496 hl (by decide) rfl (fun ls hl => ?_)
      refine lv_iconst (v := nI 0) hx hb dL_law_498 (by decide) ?_
      refine lv_istore (lv' := [(15, .int (nI 0)), (14, .int (nI 0)), (13, .int (sCro g P f w)), (0, .ref b), (1, .ref (q 0)), (2, .ref (A 0)), (3, .int (nI r)), (4, .int x), (5, .long (sDig g F P)), (7, .int (nI P)), (10, .int (nI f)), (11, .int (nI w)), (12, .int (mS g f P))]) hx hb dL_law_499 hl (by decide) rfl (fun ls hl => ?_)
      refine lv_iconst (v := nI 1) hx hb dL_law_501 (by decide) ?_
      refine lv_iload hx hb dL_law_502 (lv_at hl 7 rfl) ?_
      refine lv_iconst (v := nI 4) hx hb dL_law_504 (by decide) ?_
      refine lv_ishr hx hb dL_law_505 ?_
      refine lv_sipush (v := nI 200) hx hb dL_law_506 (by decide) ?_
      refine r_callRS (rest := [.int (nI 1)]) Fx (m_L_below l (x >>> ((nI 4) &&& 31)) 200 (by omega) (by omega)) (va_cwS 2 Fx.2.2.2.2 gL_law_L_below rfl rfl rfl (by decide +kernel) ⟨Nat.le_of_ble_eq_true rfl, Nat.le_of_ble_eq_true rfl⟩) (fun _ _ _ _ h => h) (fun _ _ _ => trivial) rfl hl.1 rfl (Nat.le_of_ble_eq_true rfl) dL_law_509 ⟨by show _ ≤ 600086; omega, by show _ ≤ 7301442; omega⟩ ?_
      obtain ⟨n, hn, en⟩ : ∃ j, j < 200 ∧ bw (x >>> ((nI 4) &&& 31)) 200 = j := ⟨_, bw_lt (by omega), rfl⟩
      rw [en]
      refine r_iadd_n hx hb dL_law_512 ?_
      refine lv_istore (lv' := [(16, .int (nI (1 + n))), (15, .int (nI 0)), (14, .int (nI 0)), (13, .int (sCro g P f w)), (0, .ref b), (1, .ref (q 0)), (2, .ref (A 0)), (3, .int (nI r)), (4, .int x), (5, .long (sDig g F P)), (7, .int (nI P)), (10, .int (nI f)), (11, .int (nI w)), (12, .int (mS g f P))]) hx hb dL_law_513 hl (by decide) rfl (fun ls hl => ?_)
      refine lv_bipush (v := nI 6) hx hb dL_law_515 (by decide) ?_
      refine lv_iload hx hb dL_law_517 (lv_at hl 12 rfl) ?_
      refine r_imul_n hx hb dL_law_519 ?_
      refine lv_iload hx hb dL_law_520 (lv_at hl 8 rfl) ?_
      refine lv_iconst (v := nI 5) hx hb dL_law_522 (by decide) ?_
      refine lv_ishr hx hb dL_law_523 ?_
      refine lv_bipush (v := nI 6) hx hb dL_law_524 (by decide) ?_
      refine r_callRS (rest := [.int (nI (6 * w))]) Fx (m_L_below l (x >>> ((nI 5) &&& 31)) 6 (by omega) (by omega)) (va_cwS 2 Fx.2.2.2.2 gL_law_L_below rfl rfl rfl (by decide +kernel) ⟨Nat.le_of_ble_eq_true rfl, Nat.le_of_ble_eq_true rfl⟩) (fun _ _ _ _ h => h) (fun _ _ _ => trivial) rfl hl.1 rfl (Nat.le_of_ble_eq_true rfl) dL_law_526 ⟨by show _ ≤ 600086; omega, by show _ ≤ 7301442; omega⟩ ?_
      obtain ⟨y, hy, ey⟩ : ∃ j, j < 6 ∧ bw (x >>> ((nI 5) &&& 31)) 6 = j := ⟨_, bw_lt (by omega), rfl⟩
      rw [ey]
      refine r_iadd_n hx hb dL_law_529 ?_
      refine lv_istore (lv' := [(17, .int (nI ((6 * w) + y))), (16, .int (nI (1 + n))), (15, .int (nI 0)), (14, .int (nI 0)), (13, .int (sCro g P f w)), (0, .ref b), (1, .ref (q 0)), (2, .ref (A 0)), (3, .int (nI r)), (4, .int x), (5, .long (sDig g F P)), (7, .int (nI P)), (10, .int (nI f)), (11, .int (nI w)), (12, .int (mS g f P))]) hx hb dL_law_530 hl (by decide) rfl (fun ls hl => ?_)
      obtain ⟨hr, ehr⟩ : ∃ hr, hr = (6 * w) + y := ⟨_, rfl⟩
      rw [← ehr] at hl
      have hr6 : hr / 6 = w := by omega
      have hr24 : hr < 24 := by omega
      refine lv_iconst (v := nI 0) hx hb dL_law_532 (by decide) ?_
      refine lv_istore (lv' := [(18, .int (nI 0)), (17, .int (nI hr)), (16, .int (nI (1 + n))), (15, .int (nI 0)), (14, .int (nI 0)), (13, .int (sCro g P f w)), (0, .ref b), (1, .ref (q 0)), (2, .ref (A 0)), (3, .int (nI r)), (4, .int x), (5, .long (sDig g F P)), (7, .int (nI P)), (10, .int (nI f)), (11, .int (nI w)), (12, .int (mS g f P))]) hx hb dL_law_533 hl (by decide) rfl (fun ls hl => ?_)
      refine rloop (nL := 23) (N := P) (fun _ => True) (fun i9 => [(0, .ref b), (1, .ref (q 0)), (2, .ref (A 0)), (3, .int (nI r)), (4, .int x), (5, .long (sDig g F P)), (7, .int (nI P)), (10, .int (nI f)), (11, .int (nI w)), (13, .int (sCro g P f w + sm (fun p => own g f w p) i9)), (14, .int (nI (cn (fun z => decide (0 < own g f w z)) i9))), (15, .int (sm (fun p => sFar g f (hr / 6) p (nI (1 + n))) i9)), (16, .int (nI (1 + n))), (17, .int (nI hr)), (18, .int (nI i9))]) trivial (by rw [cs_0]; exact lv_sub hl [6, 7, 8, 9, 10, 11, 12, 13, 14, 5, 4, 3, 2, 1, 0] rfl) ?_ ?_
      · intro _ ls hl
        have hl : lv_has ls 23 [(0, .ref b), (1, .ref (q 0)), (2, .ref (A 0)), (3, .int (nI r)), (4, .int x), (5, .long (sDig g F P)), (7, .int (nI P)), (10, .int (nI f)), (11, .int (nI w)), (13, .int (sCro g P f w + sm (fun p => own g f w p) P)), (14, .int (nI (cn (fun z => decide (0 < own g f w z)) P))), (15, .int (sm (fun p => sFar g f (hr / 6) p (nI (1 + n))) P)), (16, .int (nI (1 + n))), (17, .int (nI hr)), (18, .int (nI P))] := hl
        have hcB : cn (fun z => decide (0 < own g f w z)) P ≤ P := cn_le _ _
        refine lv_iload hx hb dL_law_535 (lv_at hl 14 rfl) ?_
        refine lv_iload hx hb dL_law_537 (lv_at hl 6 rfl) ?_
        refine n_icmp_ge (tgt := 787) hx hb (by omega) (by omega) dL_law_539 (by decide) (fun h5 => ?_) (fun h5 => by omega)
        refine lv_iload hx hb dL_law_787 (lv_at hl 9 rfl) ?_
        refine lv_bipush (v := nI 64) hx hb dL_law_789 (by decide) ?_
        refine lv_icmp_ne (tgt := 831) hx hb dL_law_791 (by decide) (fun h6 => absurd cs_64 h6) (fun h6 => ?_)
        refine lv_iload hx hb dL_law_794 (lv_at hl 10 rfl) ?_
        refine lv_aload_n hx hb dL_law_796 rfl (lv_at hl 1 rfl) ?_
        refine lv_iload hx hb dL_law_797 (lv_at hl 7 rfl) ?_
        refine lv_iload hx hb dL_law_799 (lv_at hl 8 rfl) ?_
        refine r_callR (rest := [.int (nI (cn (fun z => decide (0 < own g f w z)) P))]) Fx (m_X0_owners_r l (D := D) (ci := ci) (cz := cz) (cj := cj) (q := q) (F := F) (P := P) (g := g) (by omega) (by omega) f w (by omega) (by omega)) (cwV 2 Fx.2.2.2.2 gL_law_X0_owners rfl rfl rfl (by decide +kernel) ⟨Nat.le_of_ble_eq_true rfl, Nat.le_of_ble_eq_true rfl⟩) BW.bl (va_recv hK hP (ci := 0) (q0 := 0) rfl rfl) (BWb hqs hP hL hS) rfl hl.1 rfl (Nat.le_of_ble_eq_true rfl) dL_law_801 ⟨by show _ ≤ 600086; omega, by show _ ≤ 7301442; omega⟩ ?_
        have hv801 : sOwn g P f w ≤ P := cn_le _ _
        refine n_icmp_ne (tgt := 831) hx hb (by omega) (by omega) dL_law_804 (by decide) (fun h7 => absurd rfl h7) (fun h7 => ?_)
        refine lv_iload hx hb dL_law_807 (lv_at hl 11 rfl) ?_
        refine lv_iload hx hb dL_law_809 (lv_at hl 12 rfl) ?_
        refine lv_aload_n hx hb dL_law_811 rfl (lv_at hl 1 rfl) ?_
        refine lv_iload hx hb dL_law_812 (lv_at hl 7 rfl) ?_
        refine r_callR (rest := [.int (nI (1 + n)), .int (sm (fun p => sFar g f (hr / 6) p (nI (1 + n))) P)]) Fx (m_X0_toll_r l (D := D) (ci := ci) (cz := cz) (cj := cj) (q := q) (F := F) (P := P) (g := g) (by omega) (by omega) f (by omega)) (cwV 1 Fx.2.2.2.2 gL_law_X0_toll rfl rfl rfl (by decide +kernel) ⟨Nat.le_of_ble_eq_true rfl, Nat.le_of_ble_eq_true rfl⟩) BW.bl (va_recv hK hP (ci := 0) (q0 := 0) rfl rfl) (BWb hqs hP hL hS) rfl hl.1 rfl (Nat.le_of_ble_eq_true rfl) dL_law_814 ⟨by show _ ≤ 600086; omega, by show _ ≤ 7301442; omega⟩ ?_
        refine lv_imul hx hb dL_law_817 ?_
        refine lv_icmp_gt (tgt := 831) hx hb dL_law_818 (by decide) (fun h8 => absurd (fares_le hI.iv hf (by omega) (by omega)) (Int32.not_le.mpr h8)) (fun h8 => ?_)
        refine lv_aload_n hx hb dL_law_821 rfl (lv_at hl 1 rfl) ?_
        refine r_callR (rest := []) Fx (m_X0_digest l (D := D) (ci := ci) (cz := cz) (cj := cj) (q := q) (F := F) (P := P) (g := g) (by omega) (by omega)  ) (cwV 0 Fx.2.2.2.2 gL_law_X0_digest rfl rfl rfl (by decide +kernel) ⟨Nat.le_of_ble_eq_true rfl, Nat.le_of_ble_eq_true rfl⟩) BW.bl (va_recv hK hP (ci := 0) (q0 := 0) rfl rfl) (BWb hqs hP hL hS) rfl hl.1 rfl (Nat.le_of_ble_eq_true rfl) dL_law_822 ⟨by show _ ≤ 600086; omega, by show _ ≤ 7301442; omega⟩ ?_
        refine lv_lload hx hb dL_law_825 (lv_at hl 5 rfl) ?_
        refine r_lcmp hx hb rfl dL_law_827 ?_
        refine lv_if_eq (tgt := 833) hx hb dL_law_828 (by decide) (fun h9 => ?_) (fun h9 => absurd rfl h9)
        exact kk ls f w n hr hf hw hn hr6 hr24 (lv_sub hl [0, 1, 2, 3, 4, 5, 6, 7, 8, 11, 12, 13] rfl)
      · intro i hi _ ih ls hl
        exact lC (r := r) (j := 0) hl0 Fx hL hX hbz hLL hq hqs hsz (by omega) (by omega) hAD hI hF1 hP1 hP hQX hS hl hi hf hw hn hr6 hr24 (fun ls hl => ih trivial ls hl)
  · intro i hi _ ih ls hl
    exact lBm (r := r) (n := 0) (hr := 0) (j := 0) hl0 Fx hL hX hbz hLL hq hqs hsz (by omega) (by omega) hAD hI hF1 hP1 hP hQX hS hl hi hf (fun ls hl => ih trivial ls hl)
set_option maxHeartbeats 8000000 in
set_option maxRecDepth 100000 in
theorem lR3 {pg : Program} {l : Launch} {en : Env} {s : State} {m : MethodId} {args : Array Value} {bl : List Frame} {mt : Method} {cd : Code} {ls : Array Slot} {H : Heap} {locs : List Loc} {c0 s0 : Nat} {Q : State → Prop} {D : va_G} {ci cz : ClassId} {cj : ClassId × ClassId} {q : Nat → Nat} {sz b L : Nat} {xs : Nat → Int32} {A : Nat → Nat} {F P nn : Nat} {g : Nat → Nat → Int32} {x : Int32} {r f w n hr k j : Nat} (hl0 : l.stackTraces = false) (Fx : CallFix pg m cd cL_law 23 s args wsL_law RL) (hL : EL D ci cz cj sz s) (hX : XB b L xs s) (hbz : b < sz) (hLL : L < 1000) (hq : DQ q 8) (hqs : ∀ k, k < 8 → sz ≤ q k) (hsz : sz ≤ s.heap.size) (hcc : c0 + 3 ≤ 600086) (hss : s0 + 30 ≤ 7301442) (hAD : AD q sz A F P) (hI : Ix nn F P g) (hF1 : 1 ≤ F) (hP1 : 1 ≤ P) (hP : va_P D vwCl (w0 ci cz q F P g) H) (hQX : SS D ci cj A F P g H) (hS : va_S (bg sz) s.heap H locs) (hl : lv_has ls 23 [(0, .ref b), (1, .ref (q 0)), (2, .ref (A 0)), (3, .int (nI r)), (4, .int x), (5, .long (sDig g F P)), (7, .int (nI P)), (10, .int (nI f)), (11, .int (nI w)), (15, .int (sm (fun p => sFar g f (hr / 6) p (nI (1 + n))) P)), (16, .int (nI (1 + n))), (17, .int (nI hr))]) (hf : f < F) (hw : w < 4) (hn : n < 200) (hr6 : hr / 6 = w) (hr24 : hr < 24) (hnn9 : nn ≤ 1000)
    (kk : ∀ (H : Heap) (locs : List Loc) (ls : Array Slot) (g' : Nat → Nat → Int32), Ix (nn + 1) F P g' → va_P D vwCl (w0 ci cz q F P g') H → SS D ci cj A F P g' H → va_S (bg sz) s.heap H locs → lv_has ls 23 [(0, .ref b), (1, .ref (q 0)), (2, .ref (A 0)), (3, .int (nI (r + 1)))] → W pg l en room_1 s m args bl mt cd H locs (c0 + 3) (s0 + 30) Q (F0 m 22 ls [])) : W pg l en room_1 s m args bl mt cd H locs c0 s0 Q (F0 m 833 ls []) := by
  have hx := Fx.1
  have hb := Fx.2.1
  obtain ⟨hK, hE, hNC⟩ := id hL
  have hO := hE.2.2.2.2
  have hFb := hI.b.1
  have hPb := hI.b.2
  have hin : ∀ w ∈ wsX10, w ∈ wsL_law := inlX1
  have sabg : ∀ q9, SA A F P q9 → bg sz q9 := by
    rintro q9 ⟨j, hj, rfl⟩
    exact (hAD.2 j hj).1
  have hS0 := hS
  have hsz0 := hsz
  refine lv_iload hx hb dL_law_833 (lv_at hl 6 rfl) ?_
  refine g_newa Fx hK 0 rfl (by decide +kernel) hS (by omega) (by show _ ≤ 600086; omega) (by show _ ≤ 7301442; omega) dL_law_835 (fun a1 H ea hia1 kp hsz hS => ?_)
  have lq : ∀ j, sV F P j → A j < a1 := fun j hj => by
    rw [ea]; obtain ⟨T9, hR9, hQ9⟩ := hQX; exact (hQ9 j hj).lt
  have lp1 : ∀ k, k < 8 → q k < a1 := fun k hk => by
    rw [ea]; exact q_lt hP k hk
  have lz_hia1 : bg sz a1 := by rw [ea]; exact Nat.le_trans hsz0 hS0.1
  have hQX : SS D ci cj A F P g H := hQX.mv kp (fun _ _ h9 => h9.elim)
  have hP : va_P D vwCl (w0 ci cz q F P g) H := P_all hP kp.hk
  refine lv_astore (lv' := [(18, .ref a1), (0, .ref b), (1, .ref (q 0)), (2, .ref (A 0)), (3, .int (nI r)), (4, .int x), (5, .long (sDig g F P)), (7, .int (nI P)), (10, .int (nI f)), (11, .int (nI w)), (15, .int (sm (fun p => sFar g f (hr / 6) p (nI (1 + n))) P)), (16, .int (nI (1 + n))), (17, .int (nI hr))]) hx hb dL_law_837 hl (by decide) rfl (fun ls hl => ?_)
  refine lv_iload hx hb dL_law_839 (lv_at hl 7 rfl) ?_
  refine g_newa Fx hK 0 rfl (by decide +kernel) hS (by omega) (by show _ ≤ 600086; omega) (by show _ ≤ 7301442; omega) dL_law_841 (fun a2 H ea hia2 kp hsz hS => ?_)
  have l_hia2_hia1 : a1 < a2 := by rw [ea]; exact va_at.lt hia1
  have lp2 : ∀ k, k < 8 → q k < a2 := fun k hk => Nat.lt_trans (lp1 k hk) l_hia2_hia1
  have lz_hia2 : bg sz a2 := Nat.le_of_lt (Nat.lt_of_le_of_lt lz_hia1 l_hia2_hia1)
  have hQX : SS D ci cj A F P g H := hQX.mv kp (fun _ _ h9 => h9.elim)
  have hia1 : isI D ci H a1 P (fun _ => 0) := kp.at hia1 (fun h9 => h9.elim)
  have hP : va_P D vwCl (w0 ci cz q F P g) H := P_all hP kp.hk
  refine lv_astore (lv' := [(19, .ref a2), (18, .ref a1), (0, .ref b), (1, .ref (q 0)), (2, .ref (A 0)), (3, .int (nI r)), (4, .int x), (5, .long (sDig g F P)), (7, .int (nI P)), (10, .int (nI f)), (11, .int (nI w)), (15, .int (sm (fun p => sFar g f (hr / 6) p (nI (1 + n))) P)), (16, .int (nI (1 + n))), (17, .int (nI hr))]) hx hb dL_law_843 hl (by decide) rfl (fun ls hl => ?_)
  refine lv_iconst (v := nI 0) hx hb dL_law_845 (by decide) ?_
  refine lv_istore (lv' := [(20, .int (nI 0)), (19, .ref a2), (18, .ref a1), (0, .ref b), (1, .ref (q 0)), (2, .ref (A 0)), (3, .int (nI r)), (4, .int x), (5, .long (sDig g F P)), (7, .int (nI P)), (10, .int (nI f)), (11, .int (nI w)), (15, .int (sm (fun p => sFar g f (hr / 6) p (nI (1 + n))) P)), (16, .int (nI (1 + n))), (17, .int (nI hr))]) hx hb dL_law_846 hl (by decide) rfl (fun ls hl => ?_)
  refine wloop (nL := 23) (N := P) (fun _ => True) (fun i => [(0, .ref b), (1, .ref (q 0)), (2, .ref (A 0)), (3, .int (nI r)), (4, .int x), (5, .long (sDig g F P)), (7, .int (nI P)), (10, .int (nI f)), (11, .int (nI w)), (15, .int (sm (fun p => sFar g f (hr / 6) p (nI (1 + n))) P)), (16, .int (nI (1 + n))), (17, .int (nI hr)), (18, .ref a1), (19, .ref a2), (20, .int (nI i))]) (fun i H => va_P D vwCl (w0 ci cz q F P g) H ∧ SS D ci cj A F P g H ∧ isI D ci H a1 P (cut (fun z => g 4 z) i) ∧ isI D ci H a2 P (cut (fun p => sFar g f (hr / 6) p (nI (1 + n))) i)) trivial ⟨hP, hQX, hia1.cg (fun j _ => (cut_0 j).symm), hia2.cg (fun j _ => (cut_0 j).symm)⟩ hS (lv_sub hl [3, 4, 5, 6, 7, 8, 9, 10, 11, 12, 13, 14, 2, 1, 0] rfl) ?_ ?_
  · intro _ H locs ls hW hS hl
    obtain ⟨hP, hQX, hia1, hia2⟩ := hW
    have hl : lv_has ls 23 [(0, .ref b), (1, .ref (q 0)), (2, .ref (A 0)), (3, .int (nI r)), (4, .int x), (5, .long (sDig g F P)), (7, .int (nI P)), (10, .int (nI f)), (11, .int (nI w)), (15, .int (sm (fun p => sFar g f (hr / 6) p (nI (1 + n))) P)), (16, .int (nI (1 + n))), (17, .int (nI hr)), (18, .ref a1), (19, .ref a2), (20, .int (nI P))] := hl
    refine lv_iload hx hb dL_law_848 (lv_at hl 14 rfl) ?_
    refine lv_iload hx hb dL_law_850 (lv_at hl 6 rfl) ?_
    refine n_icmp_ge (tgt := 889) hx hb (by omega) (by omega) dL_law_852 (by decide) (fun h1 => ?_) (fun h1 => by omega)
    refine lv_aload_n hx hb dL_law_889 rfl (lv_at hl 1 rfl) ?_
    refine r_callR (rest := []) Fx (m_X0_crownCoins l (D := D) (ci := ci) (cz := cz) (cj := cj) (q := q) (F := F) (P := P) (g := g) (by omega) (by omega)  ) (cwV 0 Fx.2.2.2.2 gL_law_X0_crownCoins rfl rfl rfl (by decide +kernel) ⟨Nat.le_of_ble_eq_true rfl, Nat.le_of_ble_eq_true rfl⟩) BW.bl (va_recv hK hP (ci := 0) (q0 := 0) rfl rfl) (BWb hqs hP hL hS) rfl hl.1 rfl (Nat.le_of_ble_eq_true rfl) dL_law_890 ⟨by show _ ≤ 600086; omega, by show _ ≤ 7301442; omega⟩ ?_
    refine lv_istore (lv' := [(20, .int (g 7 0)), (0, .ref b), (1, .ref (q 0)), (2, .ref (A 0)), (3, .int (nI r)), (4, .int x), (5, .long (sDig g F P)), (7, .int (nI P)), (10, .int (nI f)), (11, .int (nI w)), (15, .int (sm (fun p => sFar g f (hr / 6) p (nI (1 + n))) P)), (16, .int (nI (1 + n))), (17, .int (nI hr)), (18, .ref a1), (19, .ref a2)]) hx hb dL_law_893 hl (by decide) rfl (fun ls hl => ?_)
    refine lv_aload_n hx hb dL_law_895 rfl (lv_at hl 2 rfl) ?_
    refine lv_iload hx hb dL_law_896 (lv_at hl 8 rfl) ?_
    refine lv_iload hx hb dL_law_898 (lv_at hl 12 rfl) ?_
    refine lv_iload hx hb dL_law_900 (lv_at hl 11 rfl) ?_
    have hK9 : k_carry F (nI f) (nI hr) (nI (1 + n)) = 0 := by unfold k_carry; rw [if_pos ⟨inR_nI hf (by omega), inR_nI hr24 (by omega)⟩, if_pos ⟨nI_le (by omega) (by omega), nI_le (by omega) (by omega)⟩]
    refine r_callT (rest := []) Fx (t_carry l hl0 (D := D) (ci := ci) (cz := cz) (cj := cj) (q := q) (F := F) (P := P) (g := g) hq (by omega) (by omega) f hr (nI (1 + n)) (by omega) (by omega) ) (cwV 3 Fx.2.2.2.2 gL_law_X0_carry rfl rfl rfl (by decide +kernel) ⟨Nat.le_of_ble_eq_true rfl, Nat.le_of_ble_eq_true rfl⟩) BW.bl (va_recv hK hP (ci := 0) (q0 := 0) rfl rfl) (BWb hqs hP hL hS) rfl hl.1 rfl (Nat.le_of_ble_eq_true rfl) dL_law_902 ⟨by show _ ≤ 600086; omega, by show _ ≤ 7301442; omega⟩ hS (fun q9 h9 => bg_aw hqs q9 h9) (fun H locs hk0 hP kp hS => ?_) (fun j E ce q9 H locs hj _ _ _ _ _ _ => absurd (hK9.symm.trans hj) (Nat.succ_ne_zero j).symm)
    have hQX : SS D ci cj A F P g H := SS_m hAD hQX kp
    have hia1 : isI D ci H a1 P (cut (fun z => g 4 z) P) := kp.at hia1 (fun h9 => by obtain ⟨k9, hk9, e9⟩ := h9; have e9 : a1 = q k9 := e9; have := lp1 k9 hk9; omega)
    have hia2 : isI D ci H a2 P (cut (fun p => sFar g f (hr / 6) p (nI (1 + n))) P) := kp.at hia2 (fun h9 => by obtain ⟨k9, hk9, e9⟩ := h9; have e9 : a2 = q k9 := e9; have := lp2 k9 hk9; omega)
    have hP : va_P D vwCl (w0 ci cz q F P (gCry g P f (hr / 6) (nI (1 + n)))) H := hP
    refine lv_istore (lv' := [(21, .int (lCar g f (hr / 6) (nI (1 + n)) P)), (20, .int (g 7 0)), (0, .ref b), (1, .ref (q 0)), (2, .ref (A 0)), (3, .int (nI r)), (4, .int x), (5, .long (sDig g F P)), (7, .int (nI P)), (10, .int (nI f)), (11, .int (nI w)), (15, .int (sm (fun p => sFar g f (hr / 6) p (nI (1 + n))) P)), (16, .int (nI (1 + n))), (17, .int (nI hr)), (18, .ref a1), (19, .ref a2)]) hx hb dL_law_905 hl (by decide) rfl (fun ls hl => ?_)
    refine lv_aload_n hx hb dL_law_907 rfl (lv_at hl 4 rfl) ?_
    refine lv_iload hx hb dL_law_908 (lv_at hl 9 rfl) ?_
    refine lv_iload hx hb dL_law_910 (lv_at hl 13 rfl) ?_
    refine lv_iload hx hb dL_law_912 (lv_at hl 12 rfl) ?_
    refine r_callW (rest := []) Fx (m_X1_carry l (D := D) (ci := ci) (cz := cz) (cj := cj) (A := A) (F := F) (P := P) (g := g) (by omega) (by omega) f hr (nI (1 + n)) (by omega) (by omega) hAD.1) (cwV 3 Fx.2.2.2.2 gL_law_X1_carry rfl rfl rfl (by decide +kernel) ⟨Nat.le_of_ble_eq_true rfl, Nat.le_of_ble_eq_true rfl⟩) BX.bl (hQX.rc hK) (BX.at hQX hK hO) rfl hl.1 rfl (Nat.le_of_ble_eq_true rfl) dL_law_914 ⟨by show _ ≤ 600086; omega, by show _ ≤ 7301442; omega⟩ hS (fun q9 h9 => sabg q9 h9) (fun H locs hQ9 hS hsz9 hk9 => ?_)
    have kp : KP (SA A F P) _ H := ⟨hsz9, hk9⟩
    have hQX : SS D ci cj A F P (gCry g P f (hr / 6) (nI (1 + n))) H := hQ9
    have hia1 : isI D ci H a1 P (cut (fun z => g 4 z) P) := kp.at hia1 (fun h9 => by obtain ⟨j9, hj9, e9⟩ := h9; have e9 : a1 = A j9 := e9; have := lq j9 hj9; omega)
    have hia2 : isI D ci H a2 P (cut (fun p => sFar g f (hr / 6) p (nI (1 + n))) P) := kp.at hia2 (fun h9 => by obtain ⟨j9, hj9, e9⟩ := h9; have e9 : a2 = A j9 := e9; have := lq j9 hj9; omega)
    have hP : va_P D vwCl (w0 ci cz q F P (gCry g P f (hr / 6) (nI (1 + n)))) H := w0_s hAD hP kp
    refine lv_iload hx hb dL_law_917 (lv_at hl 0 rfl) ?_
    refine lv_icmp_ne (tgt := 951) hx hb dL_law_919 (by decide) (fun h2 => absurd rfl h2) (fun h2 => ?_)
    refine lv_iload hx hb dL_law_922 (lv_at hl 0 rfl) ?_
    refine lv_iload hx hb dL_law_924 (lv_at hl 12 rfl) ?_
    refine lv_aload_n hx hb dL_law_926 rfl (lv_at hl 3 rfl) ?_
    refine lv_iload hx hb dL_law_927 (lv_at hl 9 rfl) ?_
    refine r_callR (rest := [.int (nI (1 + n)), .int (lCar g f (hr / 6) (nI (1 + n)) P)]) Fx (m_X0_toll_r l (D := D) (ci := ci) (cz := cz) (cj := cj) (q := q) (F := F) (P := P) (g := gCry g P f (hr / 6) (nI (1 + n))) (by omega) (by omega) f (by omega)) (cwV 1 Fx.2.2.2.2 gL_law_X0_toll rfl rfl rfl (by decide +kernel) ⟨Nat.le_of_ble_eq_true rfl, Nat.le_of_ble_eq_true rfl⟩) BW.bl (va_recv hK hP (ci := 0) (q0 := 0) rfl rfl) (BWb hqs hP hL hS) rfl hl.1 rfl (Nat.le_of_ble_eq_true rfl) dL_law_929 ⟨by show _ ≤ 600086; omega, by show _ ≤ 7301442; omega⟩ ?_
    refine lv_imul hx hb dL_law_932 ?_
    refine lv_iload hx hb dL_law_933 (lv_at hl 11 rfl) ?_
    refine lv_isub hx hb dL_law_935 ?_
    refine lv_icmp_ne (tgt := 951) hx hb dL_law_936 (by decide) (fun h3 => absurd ((car_rest P).trans (by rw [cry_0])) h3) (fun h3 => ?_)
    refine lv_aload_n hx hb dL_law_939 rfl (lv_at hl 3 rfl) ?_
    refine r_callR (rest := []) Fx (m_X0_crownCoins l (D := D) (ci := ci) (cz := cz) (cj := cj) (q := q) (F := F) (P := P) (g := gCry g P f (hr / 6) (nI (1 + n))) (by omega) (by omega)  ) (cwV 0 Fx.2.2.2.2 gL_law_X0_crownCoins rfl rfl rfl (by decide +kernel) ⟨Nat.le_of_ble_eq_true rfl, Nat.le_of_ble_eq_true rfl⟩) BW.bl (va_recv hK hP (ci := 0) (q0 := 0) rfl rfl) (BWb hqs hP hL hS) rfl hl.1 rfl (Nat.le_of_ble_eq_true rfl) dL_law_940 ⟨by show _ ≤ 600086; omega, by show _ ≤ 7301442; omega⟩ ?_
    refine lv_iload hx hb dL_law_943 (lv_at hl 1 rfl) ?_
    refine lv_iload hx hb dL_law_945 (lv_at hl 0 rfl) ?_
    refine lv_iadd hx hb dL_law_947 ?_
    refine lv_icmp_eq (tgt := 953) hx hb dL_law_948 (by decide) (fun h4 => ?_) (fun h4 => absurd cry_7 h4)
    refine lv_iconst (v := nI 0) hx hb dL_law_953 (by decide) ?_
    refine lv_istore (lv' := [(22, .int (nI 0)), (21, .int (lCar g f (hr / 6) (nI (1 + n)) P)), (20, .int (g 7 0)), (0, .ref b), (1, .ref (q 0)), (2, .ref (A 0)), (3, .int (nI r)), (4, .int x), (5, .long (sDig g F P)), (7, .int (nI P)), (10, .int (nI f)), (11, .int (nI w)), (15, .int (sm (fun p => sFar g f (hr / 6) p (nI (1 + n))) P)), (16, .int (nI (1 + n))), (17, .int (nI hr)), (18, .ref a1), (19, .ref a2)]) hx hb dL_law_954 hl (by decide) rfl (fun ls hl => ?_)
    refine rloop (nL := 23) (N := P) (fun _ => True) (fun i9 => [(0, .ref b), (1, .ref (q 0)), (2, .ref (A 0)), (3, .int (nI r)), (4, .int x), (5, .long (sDig g F P)), (7, .int (nI P)), (10, .int (nI f)), (11, .int (nI w)), (15, .int (sm (fun p => sFar g f (hr / 6) p (nI (1 + n))) P)), (16, .int (nI (1 + n))), (17, .int (nI hr)), (18, .ref a1), (19, .ref a2), (22, .int (nI i9))]) trivial (lv_sub hl [3, 4, 5, 6, 7, 8, 9, 10, 11, 12, 13, 14, 15, 16, 0] rfl) ?_ ?_
    · intro _ ls hl
      have hl : lv_has ls 23 [(0, .ref b), (1, .ref (q 0)), (2, .ref (A 0)), (3, .int (nI r)), (4, .int x), (5, .long (sDig g F P)), (7, .int (nI P)), (10, .int (nI f)), (11, .int (nI w)), (15, .int (sm (fun p => sFar g f (hr / 6) p (nI (1 + n))) P)), (16, .int (nI (1 + n))), (17, .int (nI hr)), (18, .ref a1), (19, .ref a2), (22, .int (nI P))] := hl
      refine lv_iload hx hb dL_law_956 (lv_at hl 14 rfl) ?_
      refine lv_iload hx hb dL_law_958 (lv_at hl 6 rfl) ?_
      refine n_icmp_ge (tgt := 997) hx hb (by omega) (by omega) dL_law_960 (by decide) (fun h5 => ?_) (fun h5 => by omega)
      refine lv_iinc (v := nI (r + 1)) (lv' := [(3, .int (nI (r + 1))), (0, .ref b), (1, .ref (q 0)), (2, .ref (A 0)), (4, .int x), (5, .long (sDig g F P)), (7, .int (nI P)), (10, .int (nI f)), (11, .int (nI w)), (15, .int (sm (fun p => sFar g f (hr / 6) p (nI (1 + n))) P)), (16, .int (nI (1 + n))), (17, .int (nI hr)), (18, .ref a1), (19, .ref a2), (22, .int (nI P))]) hx hb dL_law_997 hl (k := 3) rfl (nI_inc _ 1) (by decide) rfl (fun ls hl => ?_)
      refine lv_goto (tgt := 22) hx hb dL_law_1000 (by decide) ?_
      refine W.widen (k := c0 + 3) (n := s0 + 30) (by omega) (by omega) ?_
      exact kk H locs ls _ (ix_cry hI hf (by omega) (by rw [nI_toInt (by omega)]; omega) (by rw [nI_toInt (by omega)]; omega) hnn9) hP hQX hS (lv_sub hl [1, 2, 3, 0] rfl)
    · intro i hi _ ih ls hl
      have hl : lv_has ls 23 [(0, .ref b), (1, .ref (q 0)), (2, .ref (A 0)), (3, .int (nI r)), (4, .int x), (5, .long (sDig g F P)), (7, .int (nI P)), (10, .int (nI f)), (11, .int (nI w)), (15, .int (sm (fun p => sFar g f (hr / 6) p (nI (1 + n))) P)), (16, .int (nI (1 + n))), (17, .int (nI hr)), (18, .ref a1), (19, .ref a2), (22, .int (nI i))] := hl
      refine lv_iload hx hb dL_law_956 (lv_at hl 14 rfl) ?_
      refine lv_iload hx hb dL_law_958 (lv_at hl 6 rfl) ?_
      refine n_icmp_ge (tgt := 997) hx hb (by omega) (by omega) dL_law_960 (by decide) (fun h6 => by omega) (fun h6 => ?_)
      refine lv_aload_n hx hb dL_law_963 rfl (lv_at hl 1 rfl) ?_
      refine lv_iload hx hb dL_law_964 (lv_at hl 14 rfl) ?_
      refine r_callR (rest := []) Fx (m_X0_coins_r l (D := D) (ci := ci) (cz := cz) (cj := cj) (q := q) (F := F) (P := P) (g := gCry g P f (hr / 6) (nI (1 + n))) (by omega) (by omega) i (by omega)) (cwV 1 Fx.2.2.2.2 gL_law_X0_coins rfl rfl rfl (by decide +kernel) ⟨Nat.le_of_ble_eq_true rfl, Nat.le_of_ble_eq_true rfl⟩) BW.bl (va_recv hK hP (ci := 0) (q0 := 0) rfl rfl) (BWb hqs hP hL hS) rfl hl.1 rfl (Nat.le_of_ble_eq_true rfl) dL_law_966 ⟨by show _ ≤ 600086; omega, by show _ ≤ 7301442; omega⟩ ?_
      refine lv_sipush (v := nI 9999) hx hb dL_law_969 (by decide) ?_
      refine lv_aload hx hb dL_law_972 (lv_at hl 12 rfl) ?_
      refine lv_iload hx hb dL_law_974 (lv_at hl 14 rfl) ?_
      refine g_iald Fx hK hia1 0 rfl (i := i) (by omega) (by omega) dL_law_976 ?_
      refine lv_aload hx hb dL_law_977 (lv_at hl 13 rfl) ?_
      refine lv_iload hx hb dL_law_979 (lv_at hl 14 rfl) ?_
      refine g_iald Fx hK hia2 0 rfl (i := i) (by omega) (by omega) dL_law_981 ?_
      refine lv_iadd hx hb dL_law_982 ?_
      refine va_mmin hx hb (Fx.2.2.1.trans hl.1.symm) Fx.2.2.2.1 (Fx.2.2.2.2 (.methodLink RL 187 Lib.Math.min.name) (by decide +kernel)) (Fx.2.2.2.2 (.static Lib.Math.min.name) (by decide +kernel)) (Fx.2.2.2.2 (.initialized "java/lang/Math") (by decide +kernel)) (Fx.2.2.2.2 (.code Lib.Math.min.name Lib.Math.min.code 2 (some .int)) (by decide +kernel)) (Nat.le_of_ble_eq_true rfl) (Nat.le_of_ble_eq_true rfl) (by show _ ≤ 600086; omega) (by show _ ≤ 7301442; omega) dL_law_983 ?_
      refine lv_icmp_eq (tgt := 991) hx hb dL_law_986 (by decide) (fun h7 => ?_) (fun h7 => absurd ((cry_4 hi).trans (by rw [cut_P hi, cut_P hi]; rfl)) h7)
      refine lv_iinc (v := nI (i + 1)) (lv' := [(22, .int (nI (i + 1))), (0, .ref b), (1, .ref (q 0)), (2, .ref (A 0)), (3, .int (nI r)), (4, .int x), (5, .long (sDig g F P)), (7, .int (nI P)), (10, .int (nI f)), (11, .int (nI w)), (15, .int (sm (fun p => sFar g f (hr / 6) p (nI (1 + n))) P)), (16, .int (nI (1 + n))), (17, .int (nI hr)), (18, .ref a1), (19, .ref a2)]) hx hb dL_law_991 hl (k := 14) rfl (nI_inc _ 1) (by decide) rfl (fun ls hl => ?_)
      refine lv_goto (tgt := 956) hx hb dL_law_994 (by decide) ?_
      exact ih trivial ls (lv_sub hl [1, 2, 3, 4, 5, 6, 7, 8, 9, 10, 11, 12, 13, 14, 0] rfl)
  · intro i hi _ ih H locs ls hW hS hl
    obtain ⟨hP, hQX, hia1, hia2⟩ := hW
    have hl : lv_has ls 23 [(0, .ref b), (1, .ref (q 0)), (2, .ref (A 0)), (3, .int (nI r)), (4, .int x), (5, .long (sDig g F P)), (7, .int (nI P)), (10, .int (nI f)), (11, .int (nI w)), (15, .int (sm (fun p => sFar g f (hr / 6) p (nI (1 + n))) P)), (16, .int (nI (1 + n))), (17, .int (nI hr)), (18, .ref a1), (19, .ref a2), (20, .int (nI i))] := hl
    refine lv_iload hx hb dL_law_848 (lv_at hl 14 rfl) ?_
    refine lv_iload hx hb dL_law_850 (lv_at hl 6 rfl) ?_
    refine n_icmp_ge (tgt := 889) hx hb (by omega) (by omega) dL_law_852 (by decide) (fun h8 => by omega) (fun h8 => ?_)
    refine lv_aload hx hb dL_law_855 (lv_at hl 12 rfl) ?_
    refine lv_iload hx hb dL_law_857 (lv_at hl 14 rfl) ?_
    refine lv_aload_n hx hb dL_law_859 rfl (lv_at hl 1 rfl) ?_
    refine lv_iload hx hb dL_law_860 (lv_at hl 14 rfl) ?_
    refine r_callR (rest := [.int (nI i), .ref a1]) Fx (m_X0_coins_r l (D := D) (ci := ci) (cz := cz) (cj := cj) (q := q) (F := F) (P := P) (g := g) (by omega) (by omega) i (by omega)) (cwV 1 Fx.2.2.2.2 gL_law_X0_coins rfl rfl rfl (by decide +kernel) ⟨Nat.le_of_ble_eq_true rfl, Nat.le_of_ble_eq_true rfl⟩) BW.bl (va_recv hK hP (ci := 0) (q0 := 0) rfl rfl) (BWb hqs hP hL hS) rfl hl.1 rfl (Nat.le_of_ble_eq_true rfl) dL_law_862 ⟨by show _ ≤ 600086; omega, by show _ ≤ 7301442; omega⟩ ?_
    refine g_iast Fx hK hia1 0 rfl lz_hia1 hS (i := i) (by omega) (by omega) dL_law_865 (fun H locs hia1 kp hS => ?_)
    have hQX : SS D ci cj A F P g H := hQX.mv kp (fun j9 hj9 h9 => by have h9 : A j9 = a1 := h9; have := lq j9 hj9; omega)
    have hia2 : isI D ci H a2 P (cut (fun p => sFar g f (hr / 6) p (nI (1 + n))) i) := kp.at hia2 (fun h9 => by have h9 : a2 = a1 := h9; omega)
    have hP : va_P D vwCl (w0 ci cz q F P g) H := kp.P hP (fun k9 r9 hr9 h9 => by have h9 : r9.1 = a1 := h9; obtain ⟨z1, z2⟩ := w0r_fst hr9; have := lp1 _ z1; omega)
    have hia1 : isI D ci H a1 P (cut (fun z => g 4 z) (i + 1)) := hia1.cg (fun j _ => cut_s j)
    refine lv_aload hx hb dL_law_866 (lv_at hl 13 rfl) ?_
    refine lv_iload hx hb dL_law_868 (lv_at hl 14 rfl) ?_
    refine lv_aload_n hx hb dL_law_870 rfl (lv_at hl 1 rfl) ?_
    refine lv_iload hx hb dL_law_871 (lv_at hl 14 rfl) ?_
    refine lv_iload hx hb dL_law_873 (lv_at hl 7 rfl) ?_
    refine lv_iload hx hb dL_law_875 (lv_at hl 11 rfl) ?_
    refine lv_iload hx hb dL_law_877 (lv_at hl 10 rfl) ?_
    refine r_callR (rest := [.int (nI i), .ref a2]) Fx (m_X0_fare_r l (D := D) (ci := ci) (cz := cz) (cj := cj) (q := q) (F := F) (P := P) (g := g) (by omega) (by omega) i f hr (nI (1 + n)) (by omega) (by omega) (by omega) ⟨nI_le (by omega) (by omega), nI_le (by omega) (by omega)⟩) (cwV 4 Fx.2.2.2.2 gL_law_X0_fare rfl rfl rfl (by decide +kernel) ⟨Nat.le_of_ble_eq_true rfl, Nat.le_of_ble_eq_true rfl⟩) BW.bl (va_recv hK hP (ci := 0) (q0 := 0) rfl rfl) (BWb hqs hP hL hS) rfl hl.1 rfl (Nat.le_of_ble_eq_true rfl) dL_law_879 ⟨by show _ ≤ 600086; omega, by show _ ≤ 7301442; omega⟩ ?_
    refine g_iast Fx hK hia2 0 rfl lz_hia2 hS (i := i) (by omega) (by omega) dL_law_882 (fun H locs hia2 kp hS => ?_)
    have hQX : SS D ci cj A F P g H := hQX.mv kp (fun j9 hj9 h9 => by have h9 : A j9 = a2 := h9; have := lq j9 hj9; omega)
    have hia1 : isI D ci H a1 P (cut (fun z => g 4 z) (i + 1)) := kp.at hia1 (fun h9 => by have h9 : a1 = a2 := h9; omega)
    have hP : va_P D vwCl (w0 ci cz q F P g) H := kp.P hP (fun k9 r9 hr9 h9 => by have h9 : r9.1 = a2 := h9; obtain ⟨z1, z2⟩ := w0r_fst hr9; have := lp2 _ z1; omega)
    have hia2 : isI D ci H a2 P (cut (fun p => sFar g f (hr / 6) p (nI (1 + n))) (i + 1)) := hia2.cg (fun j _ => cut_s j)
    refine lv_iinc (v := nI (i + 1)) (lv' := [(20, .int (nI (i + 1))), (0, .ref b), (1, .ref (q 0)), (2, .ref (A 0)), (3, .int (nI r)), (4, .int x), (5, .long (sDig g F P)), (7, .int (nI P)), (10, .int (nI f)), (11, .int (nI w)), (15, .int (sm (fun p => sFar g f (hr / 6) p (nI (1 + n))) P)), (16, .int (nI (1 + n))), (17, .int (nI hr)), (18, .ref a1), (19, .ref a2)]) hx hb dL_law_883 hl (k := 14) rfl (nI_inc _ 1) (by decide) rfl (fun ls hl => ?_)
    refine lv_goto (tgt := 848) hx hb dL_law_886 (by decide) ?_
    exact ih trivial H locs ls ⟨hP, hQX, hia1, hia2⟩ hS (lv_sub hl [1, 2, 3, 4, 5, 6, 7, 8, 9, 10, 11, 12, 13, 14, 0] rfl)
end RNDS
