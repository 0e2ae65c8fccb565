/-! PART 47: the rounds and the start. -/
section LAWW
set_option maxHeartbeats 8000000 in
set_option maxRecDepth 100000 in
theorem lAct {pg : Program} {l : Launch} {en : Env} {s : State} {m : MethodId} {args : Array Value} {bl : List Frame} {mt : Method} {cd : Code} {ls : Array Slot} {H : Heap} {locs : List Loc} {c0 s0 : Nat} {Q : State → Prop} {D : va_G} {ci cz : ClassId} {cj : ClassId × ClassId} {q : Nat → Nat} {sz b L : Nat} {xs : Nat → Int32} {A : Nat → Nat} {F P nn : Nat} {g : Nat → Nat → Int32} {x : Int32} {r f w n hr k j : Nat} (hl0 : l.stackTraces = false) (Fx : CallFix pg m cd cL_law 23 s args wsL_law RL) (hL : EL D ci cz cj sz s) (hX : XB b L xs s) (hbz : b < sz) (hLL : L < 1000) (hq : DQ q 8) (hqs : ∀ k, k < 8 → sz ≤ q k) (hsz : sz ≤ s.heap.size) (hcc : c0 + 100 ≤ 600086) (hss : s0 + 1300 ≤ 7301442) (hAD : AD q sz A F P) (hI : Ix nn F P g) (hF1 : 1 ≤ F) (hP1 : 1 ≤ P) (hP : va_P D vwCl (w0 ci cz q F P g) H) (hQX : SS D ci cj A F P g H) (hS : va_S (bg sz) s.heap H locs) (hl : lv_has ls 23 [(0, .ref b), (1, .ref (q 0)), (2, .ref (A 0)), (3, .int (nI r)), (4, .int x), (5, .int (nI j))]) (hj : j < 3) (hnn9 : nn ≤ 900)
    (kk : ∀ (A' : Nat → Nat) (F' P' : Nat) (g' : Nat → Nat → Int32) (H : Heap) (locs : List Loc) (ls : Array Slot), AD q sz A' F' P' → Ix (nn + 1) F' P' g' → 1 ≤ F' → 1 ≤ P' → va_P D vwCl (w0 ci cz q F' P' g') H → SS D ci cj A' F' P' g' H → va_S (bg sz) s.heap H locs → lv_has ls 23 [(0, .ref b), (1, .ref (q 0)), (2, .ref (A' 0)), (3, .int (nI r)), (4, .int x), (5, .int (nI (j + 1)))] → W pg l en room_1 s m args bl mt cd H locs (c0 + 100) (s0 + 1300) Q (F0 m 45 ls [])) : W pg l en room_1 s m args bl mt cd H locs c0 s0 Q (F0 m 45 ls []) := by
  have hx := Fx.1
  have hb := Fx.2.1
  obtain ⟨hK, hE, hNC⟩ := id hL
  have hO := hE.2.2.2.2
  have hFb := hI.b.1
  have hPb := hI.b.2
  have hin : ∀ w ∈ wsX10, w ∈ wsL_law := inlX1
  have sabg : ∀ q9, SA A F P q9 → bg sz q9 := by
    rintro q9 ⟨j, hj, rfl⟩
    exact (hAD.2 j hj).1
  refine lv_iload hx hb dL_law_45 (lv_at hl 5 rfl) ?_
  refine lv_iconst (v := nI 3) hx hb dL_law_47 (by decide) ?_
  refine n_icmp_ge (tgt := 80) hx hb (by omega) (by omega) dL_law_48 (by decide) (fun h1 => by omega) (fun h1 => ?_)
  refine lv_aload_n hx hb dL_law_51 rfl (lv_at hl 1 rfl) ?_
  refine lv_aload_n hx hb dL_law_52 rfl (lv_at hl 2 rfl) ?_
  refine lv_iload hx hb dL_law_53 (lv_at hl 4 rfl) ?_
  refine lv_iconst (v := nI 3) hx hb dL_law_55 (by decide) ?_
  refine lv_iload hx hb dL_law_56 (lv_at hl 5 rfl) ?_
  refine r_imul_n hx hb dL_law_58 ?_
  refine lv_ishr hx hb dL_law_59 ?_
  refine lv_bipush (v := nI 29) hx hb dL_law_60 (by decide) ?_
  refine lv_iload hx hb dL_law_62 (lv_at hl 5 rfl) ?_
  refine r_imul_n hx hb dL_law_64 ?_
  refine lv_iadd hx hb dL_law_65 ?_
  refine r_callMSW (rest := []) Fx (m_L_act l hl0 hq hqs hAD hI hnn9 (by omega) (by omega) ((x >>> ((nI (3 * j)) &&& 31)) + (nI (29 * j)))) (vx_cwSW 3 Fx.2.2.2.2 gL_law_L_act rfl rfl rfl (by decide +kernel) ⟨Nat.le_of_ble_eq_true rfl, Nat.le_of_ble_eq_true rfl⟩) (fun U fr mk a h9 => ⟨h9.1, h9.2.1, EL.bl U fr mk a h9.2.2⟩) (fun U hU hW => ⟨by rw [hU]; exact Nat.le_trans hsz hS.1, ⟨by rw [hU]; exact hP, by rw [hU]; exact hQX⟩, hL.at hS U hU hW⟩) rfl hl.1 rfl (Nat.le_of_ble_eq_true rfl) dL_law_66 ⟨by show _ ≤ 600086; omega, by show _ ≤ 7301442; omega⟩ hS (fun q9 h9 => h9) (fun v H locs hv kp hS => ?_)
  obtain ⟨rfl, A', F', P', g', eA, hAD, hI, hF9, hP9, hP, hQX⟩ := hv
  rw [← eA] at hl
  refine b_if_ne (tgt := 74) hx hb dL_law_69 (by decide) (fun h2 => ?_) (fun h2 => absurd h2 (by decide))
  refine lv_iinc (v := nI (j + 1)) (lv' := [(5, .int (nI (j + 1))), (0, .ref b), (1, .ref (q 0)), (2, .ref (A' 0)), (3, .int (nI r)), (4, .int x)]) hx hb dL_law_74 hl (k := 5) rfl (nI_inc _ 1) (by decide) rfl (fun ls hl => ?_)
  refine lv_goto (tgt := 45) hx hb dL_law_77 (by decide) ?_
  exact kk A' F' P' g' H locs ls hAD hI (by omega) (by omega) hP hQX hS (lv_sub hl [1, 2, 3, 4, 5, 0] rfl)
set_option maxHeartbeats 8000000 in
set_option maxRecDepth 100000 in
theorem lRd {pg : Program} {l : Launch} {en : Env} {s : State} {m : MethodId} {args : Array Value} {bl : List Frame} {mt : Method} {cd : Code} {ls : Array Slot} {H : Heap} {locs : List Loc} {c0 s0 : Nat} {Q : State → Prop} {D : va_G} {ci cz : ClassId} {cj : ClassId × ClassId} {q : Nat → Nat} {sz b L : Nat} {xs : Nat → Int32} {A : Nat → Nat} {F P nn : Nat} {g : Nat → Nat → Int32} {x : Int32} {r f w n hr k j : Nat} (hl0 : l.stackTraces = false) (Fx : CallFix pg m cd cL_law 23 s args wsL_law RL) (hL : EL D ci cz cj sz s) (hX : XB b L xs s) (hbz : b < sz) (hLL : L < 1000) (hq : DQ q 8) (hqs : ∀ k, k < 8 → sz ≤ q k) (hsz : sz ≤ s.heap.size) (hcc : c0 + 310 ≤ 600086) (hss : s0 + 4000 ≤ 7301442) (hAD : AD q sz A F P) (hI : Ix nn F P g) (hF1 : 1 ≤ F) (hP1 : 1 ≤ P) (hP : va_P D vwCl (w0 ci cz q F P g) H) (hQX : SS D ci cj A F P g H) (hS : va_S (bg sz) s.heap H locs) (hl : lv_has ls 23 [(0, .ref b), (1, .ref (q 0)), (2, .ref (A 0)), (3, .int (nI r))]) (hr9 : r < 14) (hnr : nn = 4 * r)
    (kk : ∀ (A' : Nat → Nat) (F' P' : Nat) (g' : Nat → Nat → Int32) (H : Heap) (locs : List Loc) (ls : Array Slot), AD q sz A' F' P' → Ix (4 * (r + 1)) F' P' g' → 1 ≤ F' → 1 ≤ P' → va_P D vwCl (w0 ci cz q F' P' g') H → SS D ci cj A' F' P' g' H → va_S (bg sz) s.heap H locs → lv_has ls 23 [(0, .ref b), (1, .ref (q 0)), (2, .ref (A' 0)), (3, .int (nI (r + 1)))] → W pg l en room_1 s m args bl mt cd H locs (c0 + 3 * 100 + 3) (s0 + 3 * 1300 + 30) Q (F0 m 22 ls [])) : W pg l en room_1 s m args bl mt cd H locs c0 s0 Q (F0 m 22 ls []) := by
  have hx := Fx.1
  have hb := Fx.2.1
  obtain ⟨hK, hE, hNC⟩ := id hL
  have hO := hE.2.2.2.2
  have hFb := hI.b.1
  have hPb := hI.b.2
  have hin : ∀ w ∈ wsX10, w ∈ wsL_law := inlX1
  have sabg : ∀ q9, SA A F P q9 → bg sz q9 := by
    rintro q9 ⟨j, hj, rfl⟩
    exact (hAD.2 j hj).1
  refine lv_iload_n hx hb dL_law_22 rfl (lv_at hl 3 rfl) ?_
  refine lv_bipush (v := nI 14) hx hb dL_law_23 (by decide) ?_
  refine n_icmp_ge (tgt := 1003) hx hb (by omega) (by omega) dL_law_25 (by decide) (fun h1 => by omega) (fun h1 => ?_)
  refine lv_aload_n hx hb dL_law_28 rfl (lv_at hl 0 rfl) ?_
  refine lv_iload_n hx hb dL_law_29 rfl (lv_at hl 3 rfl) ?_
  refine r_callRS (rest := []) Fx (m_L_cell l b L xs r hLL (by omega)) (va_cwS 2 Fx.2.2.2.2 gL_law_L_cell rfl rfl rfl (by decide +kernel) ⟨Nat.le_of_ble_eq_true rfl, Nat.le_of_ble_eq_true rfl⟩) XB.bl (XB.at hX hbz hS) rfl hl.1 rfl (Nat.le_of_ble_eq_true rfl) dL_law_30 ⟨by show _ ≤ 600086; omega, by show _ ≤ 7301442; omega⟩ ?_
  refine lv_iconst (v := nI 2) hx hb dL_law_33 (by decide) ?_
  refine lv_ishr hx hb dL_law_34 ?_
  refine lv_bipush (v := nI 53) hx hb dL_law_35 (by decide) ?_
  refine lv_iload_n hx hb dL_law_37 rfl (lv_at hl 3 rfl) ?_
  refine r_imul_n hx hb dL_law_38 ?_
  refine lv_iadd hx hb dL_law_39 ?_
  refine lv_istore (lv' := [(4, .int (((cV xs L r) >>> ((nI 2) &&& 31)) + (nI (53 * r)))), (0, .ref b), (1, .ref (q 0)), (2, .ref (A 0)), (3, .int (nI r))]) hx hb dL_law_40 hl (by decide) rfl (fun ls hl => ?_)
  refine lv_iconst (v := nI 0) hx hb dL_law_42 (by decide) ?_
  refine lv_istore (lv' := [(5, .int (nI 0)), (4, .int (((cV xs L r) >>> ((nI 2) &&& 31)) + (nI (53 * r)))), (0, .ref b), (1, .ref (q 0)), (2, .ref (A 0)), (3, .int (nI r))]) hx hb dL_law_43 hl (by decide) rfl (fun ls hl => ?_)
  subst hnr
  obtain ⟨x, ex⟩ : ∃ x, x = ((cV xs L r) >>> ((nI 2) &&& 31)) + (nI (53 * r)) := ⟨_, rfl⟩
  rw [← ex] at hl
  refine mloop (nL := 23) (N := 3) 100 1300 (fun _ => True) (fun j H lv9 => ∃ A F P g, lv9 = [(0, .ref b), (1, .ref (q 0)), (2, .ref (A 0)), (3, .int (nI r)), (4, .int x), (5, .int (nI j))] ∧ AD q sz A F P ∧ Ix (4 * r + j) F P g ∧ 1 ≤ F ∧ 1 ≤ P ∧ va_P D vwCl (w0 ci cz q F P g) H ∧ SS D ci cj A F P g H) (fun _ _ => True) trivial trivial hS (lv0 := [(0, .ref b), (1, .ref (q 0)), (2, .ref (A 0)), (3, .int (nI r)), (4, .int x), (5, .int (nI 0))]) ⟨A, F, P, g, rfl, hAD, hI, hF1, hP1, hP, hQX⟩ (lv_sub hl [2, 3, 4, 5, 1, 0] rfl) ?_ ?_
  · intro _ H locs ls lv9 _ hS hLv hl
    obtain ⟨A, F, P, g, rfl, hAD, hI, hF1, hP1, hP, hQX⟩ := hLv
    refine lv_iload hx hb dL_law_45 (lv_at hl 5 rfl) ?_
    refine lv_iconst (v := nI 3) hx hb dL_law_47 (by decide) ?_
    refine n_icmp_ge (tgt := 80) hx hb (by omega) (by omega) dL_law_48 (by decide) (fun _ => ?_) (fun h => by omega)
    refine lR1 (f := 0) (w := 0) (n := 0) (hr := 0) (k := 0) (j := 0) hl0 Fx hL hX hbz hLL hq hqs hsz (by omega) (by omega) hAD hI hF1 hP1 hP hQX hS (lv_sub hl [0, 1, 2, 3, 4] rfl) (fun ls hl => ?_)
    refine lR2 (f := 0) (w := 0) (n := 0) (hr := 0) (k := 0) (j := 0) hl0 Fx hL hX hbz hLL hq hqs hsz (by omega) (by omega) hAD hI hF1 hP1 hP hQX hS hl (fun ls f w n hr hf hw hn hr6 hr24 hl => ?_)
    exact lR3 (k := 0) (j := 0) hl0 Fx hL hX hbz hLL hq hqs hsz (by omega) (by omega) hAD hI hF1 hP1 hP hQX hS hl hf hw hn hr6 hr24 (by omega) (fun H locs ls g hI hP hQX hS hl => kk A F P g H locs ls hAD (hI.mono (by omega)) hF1 hP1 hP hQX hS hl)
  · intro j hj _ ih H locs ls lv9 _ hS hLv hl
    obtain ⟨A, F, P, g, rfl, hAD, hI, hF1, hP1, hP, hQX⟩ := hLv
    exact lAct (f := 0) (w := 0) (n := 0) (hr := 0) (k := 0) hl0 Fx hL hX hbz hLL hq hqs hsz (by omega) (by omega) hAD hI hF1 hP1 hP hQX hS hl hj (by omega) (fun A' F' P' g' H locs ls hAD hI hF1 hP1 hP hQX hS hl => ih trivial H locs ls _ trivial hS ⟨A', F', P', g', rfl, hAD, hI, hF1, hP1, hP, hQX⟩ hl)
set_option maxHeartbeats 8000000 in
theorem law_end {pg : Program} {l : Launch} {en : Env} {s : State} {m : MethodId} {bl : List Frame} {mt : Method} {cd : Code} {ls : Array Slot} {H : Heap} {locs : List Loc} {c0 s0 : Nat} {D : va_G} {ci cz : ClassId} {cj : ClassId × ClassId} {q : Nat → Nat} {sz b L : Nat} {xs : Nat → Int32} {A : Nat → Nat} {F P nn : Nat} {g : Nat → Nat → Int32} (Fx : CallFix pg m cd cL_law 23 s #[Value.ref b] wsL_law RL) (hL : EL D ci cz cj sz s) (hr : mt.sig.returnType = ret) (hlocks : mt.locks = false) (hq : DQ q 8) (hqs : ∀ k, k < 8 → sz ≤ q k) (hsz : sz ≤ s.heap.size) (hsb : s.heap.size ≤ sz) (hAD : AD q sz A F P) (hI : Ix nn F P g) (hP : va_P D vwCl (w0 ci cz q F P g) H) (hQX : SS D ci cj A F P g H) (hS : va_S (bg sz) s.heap H locs) {x3 : Int32} (hcc : c0 + 340 ≤ 600086) (hss : s0 + 4100 ≤ 7301442) (hl : lv_has ls 23 [(0, .ref b), (1, .ref (q 0)), (2, .ref (A 0)), (3, .int x3)]) : W pg l en room_1 s m #[Value.ref b] bl mt cd H locs c0 s0 (lw_Z bl #[Value.ref b] s) (F0 m 1003 ls []) := by
  have hx := Fx.1
  have hb := Fx.2.1
  refine W.base ?_
  have hd0 := Drawn.sameBut.refl s.drawn lw_cs
  refine lv_aload_n hx hb dL_law_1003 rfl (lv_at hl 2 rfl) ?_
  refine lv_aload_n hx hb dL_law_1004 rfl (lv_at hl 1 rfl) ?_
  refine r_callDi (rest := []) hd0 (Fx_dr Fx s.drawn) (m_X1_isSame l hq hqs hAD hI) (cwV 1 (Fx_dr Fx s.drawn).2.2.2.2 gL_law_X1_isSame rfl rfl rfl (by decide +kernel) ⟨Nat.le_of_ble_eq_true rfl, Nat.le_of_ble_eq_true rfl⟩) (fun U fr mk a h9 => ⟨h9.1, h9.2.1, EL.bl U fr mk a h9.2.2⟩) (hQX.rc hL.1) (fun U hU hW => ⟨by rw [hU]; exact Nat.le_trans hsz hS.1, ⟨by rw [hU]; exact hP, by rw [hU]; exact hQX⟩, hL.at hS U hU hW⟩) rfl hl.1 rfl (Nat.le_of_ble_eq_true rfl) dL_law_1005 ⟨by show _ ≤ 600086; omega, by show _ ≤ 7301442; omega⟩ hS (fun q9 h9 => h9) (fun d1 H1 locs1 hd1 hS => ?_)
  refine va_forget (fun q hq => Nat.le_trans hsb (hS.2.2 q hq)) ?_
  refine W.widen (k := 600086) (n := 7301442) (by omega) (by omega) ?_
  exact lw_ret hd1 hx hb hr hlocks dL_law_1008
set_option maxHeartbeats 8000000 in
/-- the fourteen rounds -/
theorem law_rounds {pg : Program} {l : Launch} {en : Env} {s : State} {m : MethodId} {bl : List Frame} {mt : Method} {cd : Code} {ls : Array Slot} {H : Heap} {locs : List Loc} {c0 s0 : Nat} {D : va_G} {ci cz : ClassId} {cj : ClassId × ClassId} {q : Nat → Nat} {sz b L : Nat} {xs : Nat → Int32} {A : Nat → Nat} {F P : Nat} {g : Nat → Nat → Int32} (Fx : CallFix pg m cd cL_law 23 s #[Value.ref b] wsL_law RL) (hL : EL D ci cz cj sz s) (hr : mt.sig.returnType = ret) (hlocks : mt.locks = false) (hq : DQ q 8) (hqs : ∀ k, k < 8 → sz ≤ q k) (hsz : sz ≤ s.heap.size) (hsb : s.heap.size ≤ sz) (hAD : AD q sz A F P) (hI : Ix 0 F P g) (hP : va_P D vwCl (w0 ci cz q F P g) H) (hQX : SS D ci cj A F P g H) (hS : va_S (bg sz) s.heap H locs) (hl0 : l.stackTraces = false) (hX : XB b L xs s) (hbz : b < sz) (hLL : L < 1000) (hF1 : 1 ≤ F) (hP1 : 1 ≤ P) (hcc : c0 ≤ 1000) (hss : s0 ≤ 10000) (hl : lv_has ls 23 [(0, .ref b), (1, .ref (q 0)), (2, .ref (A 0)), (3, .int (nI 0))]) : W pg l en room_1 s m #[Value.ref b] bl mt cd H locs c0 s0 (lw_Z bl #[Value.ref b] s) (F0 m 22 ls []) := by
  have hx := Fx.1
  have hb := Fx.2.1
  refine mloop (nL := 23) (N := 14) 303 3930 (fun _ => True) (fun r H lv9 => ∃ A F P g, lv9 = [(0, .ref b), (1, .ref (q 0)), (2, .ref (A 0)), (3, .int (nI r))] ∧ AD q sz A F P ∧ Ix (4 * r) F P g ∧ 1 ≤ F ∧ 1 ≤ P ∧ va_P D vwCl (w0 ci cz q F P g) H ∧ SS D ci cj A F P g H) (fun _ _ => True) trivial trivial hS (lv0 := [(0, .ref b), (1, .ref (q 0)), (2, .ref (A 0)), (3, .int (nI 0))]) ⟨A, F, P, g, rfl, hAD, hI, hF1, hP1, hP, hQX⟩ hl ?_ ?_
  · intro _ H locs ls lv9 _ hS hLv hl
    obtain ⟨A, F, P, g, rfl, hAD, hI, hF1, hP1, hP, hQX⟩ := hLv
    refine lv_iload_n hx hb dL_law_22 rfl (lv_at hl 3 rfl) ?_
    refine lv_bipush (v := nI 14) hx hb dL_law_23 (by decide) ?_
    refine n_icmp_ge (tgt := 1003) hx hb (by omega) (by omega) dL_law_25 (by decide) (fun _ => ?_) (fun h => by omega)
    exact law_end (L := 0) (xs := fun _ => 0) Fx hL hr hlocks hq hqs hsz hsb hAD hI hP hQX hS (by omega) (by omega) hl
  · intro r hr9 _ ih H locs ls lv9 _ hS hLv hl
    obtain ⟨A, F, P, g, rfl, hAD, hI, hF1, hP1, hP, hQX⟩ := hLv
    refine lRd (x := 0) (f := 0) (w := 0) (n := 0) (hr := 0) (k := 0) (j := 0) hl0 Fx hL hX hbz hLL hq hqs hsz (by omega) (by omega) hAD hI hF1 hP1 hP hQX hS hl hr9 rfl (fun A' F' P' g' H locs ls hAD hI hF1 hP1 hP hQX hS hl => ?_)
    refine W.widen (k := c0 + r * 303 + 303) (n := s0 + r * 3930 + 3930) (by omega) (by omega) ?_
    exact ih trivial H locs ls _ trivial hS ⟨A', F', P', g', rfl, hAD, hI, hF1, hP1, hP, hQX⟩ hl
set_option maxHeartbeats 8000000 in
/-- from the entry, for every script of at most 260 ints, the law comes to its end with true -/
theorem whole_start {p : Program} {e : Env} {s : State} {m : MethodId} {below : List Frame} {meth : Method} {c : Code} (l : Launch) (hflags : l.flags = flags0) {b L : Nat} {xs : Nat → Int32} (hL : L ≤ 260) (C0 : lw_At p s m meth c b L xs) : W p l e room_1 s m #[Value.ref b] below meth c s.heap [] 0 0 (lw_Z below #[Value.ref b] s) (entryFrame m ([Value.ref b] : List Value).toArray 23) := by
  obtain ⟨hx, hb, hr, hml, hown, hts0, hX, hbl, hlocks, hgv⟩ := id C0
  have hts : ∀ w ∈ wsL_law, w.before #[Value.ref b] s = true := fun w h => hts0 w (wsL_law_in w h)
  obtain ⟨hE, hN⟩ := start_ev hts0 hgv
  obtain ⟨D, ci, cz, cj, hK⟩ := start_k hts0 hE.2.2.2.2
  have hl0 : l.stackTraces = false := by
    unfold Launch.stackTraces
    rw [hflags]
    decide +kernel
  have Fx : CallFix p m c cL_law 23 s #[Value.ref b] wsL_law RL := ⟨hx, hb, hml, hown, hts⟩
  have hEL : EL D ci cz cj s.heap.size s := ⟨hK, hE, hN⟩
  have hXB : XB b L xs s := ⟨hX, hbl⟩
  have hNW : NW s := va_Nw.of rfl (hts0 (.methodLinkNest RL 97 yX1_init RL) (by decide +kernel))
  have hw := Fx.2.2.2.2
  have hS : va_S (bg s.heap.size) s.heap s.heap [] := va_S.rf
  have hA : ∀ q : Nat, s.heap.size ≤ q → bg s.heap.size q := fun _ h => h
  have hl := lv_entry ([.ref b]) (n := 23) (Nat.le_of_ble_eq_true rfl)
  rw [lg_entry_eq]
  generalize (lg_sl ([.ref b]) ++ List.replicate (23 - (lg_sl ([.ref b])).length) Slot.unset).toArray = ls at hl ⊢
  have hl : lv_has ls 23 [(0, .ref b)] := hl
  have hP : va_P D vwCl [] s.heap := fun k q h => by simp at h
  have hD : va_D (bg s.heap.size) [] := ⟨fun i j p q h => by simp at h, fun k q h => by simp at h⟩
  refine va_new (ci := 0) (fs := [.int 0, .null, .null, .null, .int 0, .null, .null, .null, .null, .int 0]) (C := RX0) (T := TX0) (N := 10) hx hb hw inlX0 tyX0 tyX0_ok hown (hw (.classLink RL 30 RX0) (by decide +kernel)) (hw (.instantiable RX0 10) (by decide +kernel)) (hw (.initialized RX0) (by decide +kernel)) hK hP hD hS hA rfl (fun j hj => by rcases (show j = 0 ∨ j = 1 ∨ j = 2 ∨ j = 3 ∨ j = 4 ∨ j = 5 ∨ j = 6 ∨ j = 7 ∨ j = 8 ∨ j = 9 by omega) with rfl | rfl | rfl | rfl | rfl | rfl | rfl | rfl | rfl | rfl <;> rfl) (Nat.le_of_ble_eq_true rfl) (Nat.le_of_ble_eq_true rfl) dL_law_0 (fun a0 H hP hD hS => ?_)
  have hP : va_P D vwCl [(a0, .inr (0, [.int 0, .null, .null, .null, .int 0, .null, .null, .null, .null, .int 0]))] H := hP
  have ha0 : s.heap.size ≤ a0 := hD.2 0 _ rfl
  have hz0 : s.heap.size ≤ H.size := hS.1
  have hF0 : ∀ q : Nat, (q = a0 ∨ H.size ≤ q) → bg s.heap.size q := by
    rintro q (rfl | h)
    · exact ha0
    · exact Nat.le_trans hz0 h
  refine lv_dup hx hb dL_law_3 rfl ?_
  refine va_callv (va_runI (As := []) (rest := [.ref a0]) Fx (m_X0_init l (D := D) (ci := ci) (cz := cz) (cj := cj) a0 H.size) (cwI 0 hw gL_law_X0_init rfl rfl rfl (hw (.initialized RX0) (by decide +kernel)) (hw (.methodLink RL 102 yX0_init) (by decide +kernel)) (hw (.instanceMethod yX0_init) (by decide +kernel)) rfl (by decide +kernel) ⟨Nat.le_of_ble_eq_true rfl, Nat.le_of_ble_eq_true rfl⟩) ⟨fun a U g mk q => ⟨q.1, q.2.1, q.2.2.1, va_K.moved (u := U) (U := U.calling g mk a) (Vm.Alike.refl U.vm) q.2.2.2⟩, fun U hU hW => ⟨rfl, by rw [hU], by rw [hU]; exact hP, va_K.moved hW.alike hK⟩⟩ rfl rfl hl.1 rfl (lv_room (Nat.le_of_ble_eq_true rfl)) dL_law_4 ⟨Nat.le_of_ble_eq_true rfl, Nat.le_of_ble_eq_true rfl⟩) hS (fun q _ h => hF0 q h) hF0 (fun q0 t H1 locs1 ht hvm hq hB hz1 hk1 hS => ?_)
  obtain ⟨e0, hq0, hn0⟩ := hq
  have hB : va_P D vwCl (w0 ci cz q0 0 0 (fun _ _ => 0)) H1 := by rw [← ht]; exact hB
  have hb0 : ∀ k, k < 8 → s.heap.size ≤ q0 k := fun k hk => by
    by_cases h : k = 0
    · rw [h, e0]; exact ha0
    · exact Nat.le_trans hz0 (hn0 k (by omega) hk)
  rw [← e0]
  refine lv_astore_n (lv' := [(1, .ref (q0 0)), (0, .ref b)]) hx hb dL_law_7 rfl hl (by decide) rfl (fun ls hl => ?_)
  refine lv_aload_n hx hb dL_law_8 rfl (lv_at hl 0 rfl) ?_
  refine lv_aload_n hx hb dL_law_9 rfl (lv_at hl 1 rfl) ?_
  refine r_callMS (rest := []) Fx (m_L_build l hl0 (D := D) (ci := ci) (cz := cz) (cj := cj) (q := q0) (sz := s.heap.size) (b := b) (L := L) (xs := xs) hq0 hb0 hbl (by omega)) (va_cwS 2 hw gL_law_L_build rfl rfl rfl (by decide +kernel) ⟨Nat.le_of_ble_eq_true rfl, Nat.le_of_ble_eq_true rfl⟩) (fun U fr mk a h9 => ⟨h9.1, h9.2.1, EL.bl U fr mk a h9.2.2.1, XB.bl U fr mk a h9.2.2.2.1, NW.bl U fr mk a h9.2.2.2.2⟩) (fun U hU hW => ⟨by rw [hU]; exact hS.1, by rw [hU]; exact hB, hEL.at hS U hU hW, hXB.at hbl hS U hU hW, hNW.at U hW⟩) rfl hl.1 rfl (Nat.le_of_ble_eq_true rfl) dL_law_10 ⟨Nat.le_of_ble_eq_true rfl, Nat.le_of_ble_eq_true rfl⟩ hS (fun q9 h9 => h9) (fun v H locs hv kp hS => ?_)
  obtain ⟨A, F, P, g, rfl, hAD, hI, hF1, hP1, hP, hQX⟩ := hv
  refine lv_astore_n (lv' := [(2, .ref (A 0)), (1, .ref (q0 0)), (0, .ref b)]) hx hb dL_law_13 rfl hl (by decide) rfl (fun ls hl => ?_)
  refine lv_aload_n hx hb dL_law_14 rfl (lv_at hl 0 rfl) ?_
  refine lv_ifnonnull (tgt := 20) hx hb dL_law_15 (by decide) ?_
  refine lv_iconst (v := nI 0) hx hb dL_law_20 (by decide) ?_
  refine lv_istore_n (lv' := [(3, .int (nI 0)), (2, .ref (A 0)), (1, .ref (q0 0)), (0, .ref b)]) hx hb dL_law_21 rfl hl (by decide) rfl (fun ls hl => ?_)
  exact law_rounds Fx hEL hr hlocks hq0 hb0 (Nat.le_refl _) (Nat.le_refl _) hAD hI hP hQX hS hl0 hXB hbl (by omega) hF1 hP1 (Nat.le_of_ble_eq_true rfl) (Nat.le_of_ble_eq_true rfl) (lv_sub hl [3, 2, 1, 0] rfl)
end LAWW
