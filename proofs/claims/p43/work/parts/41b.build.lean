/-! PART 41: build. -/
section BUILD
set_option maxHeartbeats 8000000 in
set_option maxRecDepth 100000 in
theorem bF {pg : Program} {l : Launch} {en : Env} {s : State} {m : MethodId} {args : Array Value} {bl : List Frame} {mt : Method} {cd : Code} {ls : Array Slot} {H : Heap} {locs : List Loc} {c0 s0 : Nat} {Q : State → Prop} {D : va_G} {ci cz : ClassId} {cj : ClassId × ClassId} {q : Nat → Nat} {sz b L : Nat} {xs : Nat → Int32} {A : Nat → Nat} {F P : Nat} {g : Nat → Nat → Int32} {z i np : Nat} (hl0 : l.stackTraces = false) (Fx : CallFix pg m cd cL_build 11 s args wsL_build RL) (hL : EL D ci cz cj sz s) (hX : XB b L xs s) (hbz : b < sz) (hLL : L < 1000) (hq : DQ q 8) (hqs : ∀ k, k < 8 → sz ≤ q k) (hsz : sz ≤ s.heap.size) (hcc : c0 + 10 ≤ 120) (hss : s0 + 400 ≤ 2200) (hAD : AD q sz A i 0) (hI : Ix 0 i 0 g) (hlv : ∀ p, g 3 p = 0) (hP : va_P D vwCl (w0 ci cz q i 0 g) H) (hQX : SS D ci cj A i 0 g H) (hS : va_S (bg sz) s.heap H locs) (hl : lv_has ls 11 [(0, .ref (q 0)), (1, .ref b), (2, .ref (A 0)), (3, .int (nI i))]) (hz4 : z < 4) (ez : bw (cV xs L 0) 4 = z) (hi : i < 1 + z)
    (kk : ∀ (A' : Nat → Nat) (g' : Nat → Nat → Int32) (H : Heap) (locs : List Loc) (ls : Array Slot), AD q sz A' (i + 1) 0 → Ix 0 (i + 1) 0 g' → (∀ p, g' 3 p = 0) → va_P D vwCl (w0 ci cz q (i + 1) 0 g') H → SS D ci cj A' (i + 1) 0 g' H → va_S (bg sz) s.heap H locs → lv_has ls 11 [(0, .ref (q 0)), (1, .ref b), (2, .ref (A' 0)), (3, .int (nI (i + 1)))] → W pg l en ({ frames := 8, cells := 120, slots := 2200, locals := 127 } : Room) s m args bl mt cd H locs (c0 + 9) (s0 + 306) Q (F0 m 10 ls [])) : W pg l en ({ frames := 8, cells := 120, slots := 2200, locals := 127 } : Room) s m args bl mt cd H locs c0 s0 Q (F0 m 10 ls []) := by
  have hx := Fx.1
  have hb := Fx.2.1
  obtain ⟨hK, hE, hNC⟩ := id hL
  have hO := hE.2.2.2.2
  have hFb := hI.b.1
  have hPb := hI.b.2
  have hin : ∀ w ∈ wsX10, w ∈ wsL_build := by decide +kernel
  have sabg : ∀ q9, SA A i 0 q9 → bg sz q9 := by
    rintro q9 ⟨j, hj, rfl⟩
    exact (hAD.2 j hj).1
  refine lv_iload_n hx hb dL_build_10 rfl (lv_at hl 3 rfl) ?_
  refine lv_iconst (v := nI 1) hx hb dL_build_11 (by decide) ?_
  refine lv_aload_n hx hb dL_build_12 rfl (lv_at hl 1 rfl) ?_
  refine lv_iconst (v := nI 0) hx hb dL_build_13 (by decide) ?_
  refine r_callRS (rest := [.int (nI 1), .int (nI i)]) Fx (m_L_cell l b L xs 0 hLL (by omega)) (va_cwS 2 Fx.2.2.2.2 gL_build_L_cell rfl rfl rfl (by decide +kernel) ⟨Nat.le_of_ble_eq_true rfl, Nat.le_of_ble_eq_true rfl⟩) XB.bl (XB.at hX hbz hS) rfl hl.1 rfl (Nat.le_of_ble_eq_true rfl) dL_build_14 ⟨by show _ ≤ 120; omega, by show _ ≤ 2200; omega⟩ ?_
  refine lv_iconst (v := nI 4) hx hb dL_build_17 (by decide) ?_
  refine r_callRS (rest := [.int (nI 1), .int (nI i)]) Fx (m_L_below l (cV xs L 0) 4 (by omega) (by omega)) (va_cwS 2 Fx.2.2.2.2 gL_build_L_below rfl rfl rfl (by decide +kernel) ⟨Nat.le_of_ble_eq_true rfl, Nat.le_of_ble_eq_true rfl⟩) (fun _ _ _ _ h => h) (fun _ _ _ => trivial) rfl hl.1 rfl (Nat.le_of_ble_eq_true rfl) dL_build_18 ⟨by show _ ≤ 120; omega, by show _ ≤ 2200; omega⟩ ?_
  rw [ez]
  refine r_iadd_n hx hb dL_build_21 ?_
  refine n_icmp_ge (tgt := 65) hx hb (by omega) (by omega) dL_build_22 (by decide) (fun h1 => by omega) (fun h1 => ?_)
  refine lv_aload_n hx hb dL_build_25 rfl (lv_at hl 1 rfl) ?_
  refine lv_iconst (v := nI 1) hx hb dL_build_26 (by decide) ?_
  refine r_callRS (rest := []) Fx (m_L_cell l b L xs 1 hLL (by omega)) (va_cwS 2 Fx.2.2.2.2 gL_build_L_cell rfl rfl rfl (by decide +kernel) ⟨Nat.le_of_ble_eq_true rfl, Nat.le_of_ble_eq_true rfl⟩) XB.bl (XB.at hX hbz hS) rfl hl.1 rfl (Nat.le_of_ble_eq_true rfl) dL_build_27 ⟨by show _ ≤ 120; omega, by show _ ≤ 2200; omega⟩ ?_
  refine lv_iconst (v := nI 3) hx hb dL_build_30 (by decide) ?_
  refine lv_iload_n hx hb dL_build_31 rfl (lv_at hl 3 rfl) ?_
  refine r_imul_n hx hb dL_build_32 ?_
  refine lv_ishr hx hb dL_build_33 ?_
  refine lv_bipush (v := nI 21) hx hb dL_build_34 (by decide) ?_
  refine r_callRS (rest := []) Fx (m_L_below l ((cV xs L 1) >>> ((nI (3 * i)) &&& 31)) 21 (by omega) (by omega)) (va_cwS 2 Fx.2.2.2.2 gL_build_L_below rfl rfl rfl (by decide +kernel) ⟨Nat.le_of_ble_eq_true rfl, Nat.le_of_ble_eq_true rfl⟩) (fun _ _ _ _ h => h) (fun _ _ _ => trivial) rfl hl.1 rfl (Nat.le_of_ble_eq_true rfl) dL_build_36 ⟨by show _ ≤ 120; omega, by show _ ≤ 2200; omega⟩ ?_
  obtain ⟨t, ht, et⟩ : ∃ j, j < 21 ∧ bw ((cV xs L 1) >>> ((nI (3 * i)) &&& 31)) 21 = j := ⟨_, bw_lt (by omega), rfl⟩
  rw [et]
  refine lv_istore (lv' := [(4, .int (nI t)), (0, .ref (q 0)), (1, .ref b), (2, .ref (A 0)), (3, .int (nI i))]) hx hb dL_build_39 hl (by decide) rfl (fun ls hl => ?_)
  refine lv_aload_n hx hb dL_build_41 rfl (lv_at hl 3 rfl) ?_
  refine lv_iload hx hb dL_build_42 (lv_at hl 0 rfl) ?_
  have hz8 := Nat.le_trans hsz hS.1
  have hql := q_lt hP
  refine r_callM (rest := []) Fx (m_X1_addFerry l (D := D) (ci := ci) (cz := cz) (cj := cj) (A := A) (F := i) (P := 0) (g := g) _ hz8 hql hAD (by omega) (by omega) (nI t) (hI.c1 _ (Nat.le_refl _)) hI.iv) (cwV 1 Fx.2.2.2.2 gL_build_X1_addFerry rfl rfl rfl (by decide +kernel) ⟨Nat.le_of_ble_eq_true rfl, Nat.le_of_ble_eq_true rfl⟩) (fun U fr mk a h9 => ⟨h9.1, BX.bl U fr mk a h9.2⟩) (hQX.rc hK) (fun U hU hW => ⟨by rw [hU], BX.at hQX hK hO U hU hW⟩) rfl hl.1 rfl (Nat.le_of_ble_eq_true rfl) dL_build_44 ⟨by show _ ≤ 120; omega, by show _ ≤ 2200; omega⟩ hS (fun q9 h9 => bg_f hAD hz8 q9 h9) (fun v H locs hv kp hS => ?_)
  have hP : va_P D vwCl (w0 ci cz q i 0 g) H := w0_f hAD hP (Nat.le_refl _) kp
  obtain ⟨rfl, A', eA, hAD, hQX⟩ := hv
  rw [← eA] at hl
  have hQX : SS D ci cj A' (i + 1) 0 (gTol g i (nI t)) H := hQX
  refine lv_aload_n hx hb dL_build_47 rfl (lv_at hl 1 rfl) ?_
  refine lv_iload hx hb dL_build_48 (lv_at hl 0 rfl) ?_
  have hK9 : k_addFerry i (nI t) = 0 := by unfold k_addFerry; rw [if_pos ⟨nI_pos' (by omega), nI_le (by omega) (by omega)⟩, if_pos (by omega)]
  refine r_callT (rest := []) Fx (t_addFerry l hl0 (D := D) (ci := ci) (cz := cz) (cj := cj) (q := q) (F := i) (P := 0) (g := g) hq (by omega) (by omega) (nI t)  ) (cwV 1 Fx.2.2.2.2 gL_build_X0_addFerry rfl rfl rfl (by decide +kernel) ⟨Nat.le_of_ble_eq_true rfl, Nat.le_of_ble_eq_true rfl⟩) BW.bl (va_recv hK hP (ci := 0) (q0 := 0) rfl rfl) (BWb hqs hP hL hS) rfl hl.1 rfl (Nat.le_of_ble_eq_true rfl) dL_build_50 ⟨by show _ ≤ 120; omega, by show _ ≤ 2200; omega⟩ hS (fun q9 h9 => bg_aw hqs q9 h9) (fun H locs hk0 hP kp hS => ?_) (fun j E ce q9 H locs hj _ _ _ _ _ _ => absurd (hK9.symm.trans hj) (Nat.succ_ne_zero j).symm)
  have hQX : SS D ci cj A' (i + 1) 0 (gTol g i (nI t)) H := SS_m hAD hQX kp
  have hP : va_P D vwCl (w0 ci cz q (i + 1) 0 (gTol g i (nI t))) H := hP
  refine lv_iload_n hx hb dL_build_53 rfl (lv_at hl 4 rfl) ?_
  refine n_icmp_eq (tgt := 59) hx hb (by omega) (by omega) dL_build_54 (by decide) (fun h2 => ?_) (fun h2 => by omega)
  refine lv_iinc (v := nI (i + 1)) (lv' := [(3, .int (nI (i + 1))), (4, .int (nI t)), (0, .ref (q 0)), (1, .ref b), (2, .ref (A' 0))]) hx hb dL_build_59 hl (k := 4) rfl (nI_inc _ 1) (by decide) rfl (fun ls hl => ?_)
  refine lv_goto (tgt := 10) hx hb dL_build_62 (by decide) ?_
  refine W.widen (k := c0 + 9) (n := s0 + 306) (by omega) (by omega) ?_
  exact kk A' (gTol g i (nI t)) H locs ls hAD (ix_ferry hI (by omega) (by rw [nI_toInt (by omega)]; omega) (by rw [nI_toInt (by omega)]; omega)) (fun p => hlv p) hP hQX hS (lv_sub hl [2, 3, 4, 0] rfl)
set_option maxHeartbeats 8000000 in
set_option maxRecDepth 100000 in
theorem bP {pg : Program} {l : Launch} {en : Env} {s : State} {m : MethodId} {args : Array Value} {bl : List Frame} {mt : Method} {cd : Code} {ls : Array Slot} {H : Heap} {locs : List Loc} {c0 s0 : Nat} {Q : State → Prop} {D : va_G} {ci cz : ClassId} {cj : ClassId × ClassId} {q : Nat → Nat} {sz b L : Nat} {xs : Nat → Int32} {A : Nat → Nat} {F P : Nat} {g : Nat → Nat → Int32} {z i np : Nat} (hl0 : l.stackTraces = false) (Fx : CallFix pg m cd cL_build 11 s args wsL_build RL) (hL : EL D ci cz cj sz s) (hX : XB b L xs s) (hbz : b < sz) (hLL : L < 1000) (hq : DQ q 8) (hqs : ∀ k, k < 8 → sz ≤ q k) (hsz : sz ≤ s.heap.size) (hcc : c0 + 10 ≤ 120) (hss : s0 + 400 ≤ 2200) (hAD : AD q sz A F i) (hI : Ix 0 F i g) (hlv : ∀ p, g 3 p = 0) (hP : va_P D vwCl (w0 ci cz q F i g) H) (hQX : SS D ci cj A F i g H) (hS : va_S (bg sz) s.heap H locs) (hl : lv_has ls 11 [(0, .ref (q 0)), (1, .ref b), (2, .ref (A 0)), (3, .int (nI np)), (4, .int (nI i))]) (hi : i < np) (hnp : np ≤ 10)
    (kk : ∀ (A' : Nat → Nat) (g' : Nat → Nat → Int32) (H : Heap) (locs : List Loc) (ls : Array Slot), AD q sz A' F (i + 1) → Ix 0 F (i + 1) g' → (∀ p, g' 3 p = 0) → va_P D vwCl (w0 ci cz q F (i + 1) g') H → SS D ci cj A' F (i + 1) g' H → va_S (bg sz) s.heap H locs → lv_has ls 11 [(0, .ref (q 0)), (1, .ref b), (2, .ref (A' 0)), (3, .int (nI np)), (4, .int (nI (i + 1)))] → W pg l en ({ frames := 8, cells := 120, slots := 2200, locals := 127 } : Room) s m args bl mt cd H locs (c0 + 3) (s0 + 23) Q (F0 m 83 ls [])) : W pg l en ({ frames := 8, cells := 120, slots := 2200, locals := 127 } : Room) s m args bl mt cd H locs c0 s0 Q (F0 m 83 ls []) := by
  have hx := Fx.1
  have hb := Fx.2.1
  obtain ⟨hK, hE, hNC⟩ := id hL
  have hO := hE.2.2.2.2
  have hFb := hI.b.1
  have hPb := hI.b.2
  have hin : ∀ w ∈ wsX10, w ∈ wsL_build := by decide +kernel
  have sabg : ∀ q9, SA A F i q9 → bg sz q9 := by
    rintro q9 ⟨j, hj, rfl⟩
    exact (hAD.2 j hj).1
  refine lv_iload hx hb dL_build_83 (lv_at hl 4 rfl) ?_
  refine lv_iload_n hx hb dL_build_85 rfl (lv_at hl 3 rfl) ?_
  refine n_icmp_ge (tgt := 167) hx hb (by omega) (by omega) dL_build_86 (by decide) (fun h1 => by omega) (fun h1 => ?_)
  refine lv_iload hx hb dL_build_89 (lv_at hl 4 rfl) ?_
  refine n_if_eq (tgt := 109) hx hb (by omega) dL_build_91 (by decide) (fun h2 => ?_) (fun h2 => ?_)
  · refine lv_iconst (v := -1) hx hb dL_build_109 (by decide) ?_
    refine lv_goto (tgt := 128) hx hb dL_build_110 (by decide) ?_
    refine lv_istore (lv' := [(5, .int (-1)), (0, .ref (q 0)), (1, .ref b), (2, .ref (A 0)), (3, .int (nI np)), (4, .int (nI i))]) hx hb dL_build_128 hl (by decide) rfl (fun ls hl => ?_)
    refine lv_aload_n hx hb dL_build_130 rfl (lv_at hl 3 rfl) ?_
    refine lv_iload hx hb dL_build_131 (lv_at hl 0 rfl) ?_
    have hz8 := Nat.le_trans hsz hS.1
    have hql := q_lt hP
    refine r_callM (rest := []) Fx (m_X1_addPerson l (D := D) (ci := ci) (cz := cz) (cj := cj) (A := A) (F := F) (P := i) (g := g) _ hz8 hql hAD (by omega) (by omega) (-1) (hI.p3 _ (Nat.le_refl _)) (hI.c45 _ (Nat.le_refl _)).1 (hI.c45 _ (Nat.le_refl _)).2 hI.iv) (cwV 1 Fx.2.2.2.2 gL_build_X1_addPerson rfl rfl rfl (by decide +kernel) ⟨Nat.le_of_ble_eq_true rfl, Nat.le_of_ble_eq_true rfl⟩) (fun U fr mk a h9 => ⟨h9.1, BX.bl U fr mk a h9.2⟩) (hQX.rc hK) (fun U hU hW => ⟨by rw [hU], BX.at hQX hK hO U hU hW⟩) rfl hl.1 rfl (Nat.le_of_ble_eq_true rfl) dL_build_133 ⟨by show _ ≤ 120; omega, by show _ ≤ 2200; omega⟩ hS (fun q9 h9 => bg_f hAD hz8 q9 h9) (fun v H locs hv kp hS => ?_)
    have hP : va_P D vwCl (w0 ci cz q F i g) H := w0_f hAD hP (Nat.le_refl _) kp
    obtain ⟨rfl, A', eA, hAD, hQX⟩ := hv
    rw [← eA] at hl
    have hQX : SS D ci cj A' F (i + 1) (gPar g i (-1)) H := hQX
    refine lv_iload hx hb dL_build_136 (lv_at hl 0 rfl) ?_
    refine lv_if_ge (tgt := 148) hx hb dL_build_138 (by decide) (fun h3 => absurd h3 (by decide)) (fun h3 => ?_)
    refine lv_aload_n hx hb dL_build_141 rfl (lv_at hl 1 rfl) ?_
    have hK9 : k_addPerson i = 0 := by unfold k_addPerson; rw [if_pos (by omega)]
    refine r_callT (rest := []) Fx (t_addPerson l hl0 (D := D) (ci := ci) (cz := cz) (cj := cj) (q := q) (F := F) (P := i) (g := g) hq (by omega) (by omega)   hI.p3) (cwV 0 Fx.2.2.2.2 gL_build_X0_addPerson rfl rfl rfl (by decide +kernel) ⟨Nat.le_of_ble_eq_true rfl, Nat.le_of_ble_eq_true rfl⟩) BW.bl (va_recv hK hP (ci := 0) (q0 := 0) rfl rfl) (BWb hqs hP hL hS) rfl hl.1 rfl (Nat.le_of_ble_eq_true rfl) dL_build_142 ⟨by show _ ≤ 120; omega, by show _ ≤ 2200; omega⟩ hS (fun q9 h9 => bg_aw hqs q9 h9) (fun H locs hk0 hP kp hS => ?_) (fun j E ce q9 H locs hj _ _ _ _ _ _ => absurd (hK9.symm.trans hj) (Nat.succ_ne_zero j).symm)
    have hQX : SS D ci cj A' F (i + 1) (gPar g i (-1)) H := SS_m hAD hQX kp
    have hP : va_P D vwCl (w0 ci cz q F (i + 1) (gPar g i (-1))) H := hP
    refine lv_goto (tgt := 154) hx hb dL_build_145 (by decide) ?_
    refine lv_iload hx hb dL_build_154 (lv_at hl 5 rfl) ?_
    refine n_icmp_eq (tgt := 161) hx hb (by omega) (by omega) dL_build_156 (by decide) (fun h4 => ?_) (fun h4 => by omega)
    refine lv_iinc (v := nI (i + 1)) (lv' := [(4, .int (nI (i + 1))), (5, .int (-1)), (0, .ref (q 0)), (1, .ref b), (2, .ref (A' 0)), (3, .int (nI np))]) hx hb dL_build_161 hl (k := 5) rfl (nI_inc _ 1) (by decide) rfl (fun ls hl => ?_)
    refine lv_goto (tgt := 83) hx hb dL_build_164 (by decide) ?_
    refine W.widen (k := c0 + 3) (n := s0 + 23) (by omega) (by omega) ?_
    exact kk A' (gPar g i (-1)) H locs ls hAD (ix_person hI (by omega) (Or.inl rfl)) (fun p => hlv p) hP hQX hS (lv_sub hl [2, 3, 4, 5, 0] rfl)
  · refine lv_aload_n hx hb dL_build_94 rfl (lv_at hl 1 rfl) ?_
    refine lv_iconst (v := nI 2) hx hb dL_build_95 (by decide) ?_
    refine r_callRS (rest := []) Fx (m_L_cell l b L xs 2 hLL (by omega)) (va_cwS 2 Fx.2.2.2.2 gL_build_L_cell rfl rfl rfl (by decide +kernel) ⟨Nat.le_of_ble_eq_true rfl, Nat.le_of_ble_eq_true rfl⟩) XB.bl (XB.at hX hbz hS) rfl hl.1 rfl (Nat.le_of_ble_eq_true rfl) dL_build_96 ⟨by show _ ≤ 120; omega, by show _ ≤ 2200; omega⟩ ?_
    refine lv_iload hx hb dL_build_99 (lv_at hl 4 rfl) ?_
    refine lv_ishr hx hb dL_build_101 ?_
    refine lv_iconst (v := nI 3) hx hb dL_build_102 (by decide) ?_
    refine r_callRS (rest := []) Fx (m_L_below l ((cV xs L 2) >>> ((nI i) &&& 31)) 3 (by omega) (by omega)) (va_cwS 2 Fx.2.2.2.2 gL_build_L_below rfl rfl rfl (by decide +kernel) ⟨Nat.le_of_ble_eq_true rfl, Nat.le_of_ble_eq_true rfl⟩) (fun _ _ _ _ h => h) (fun _ _ _ => trivial) rfl hl.1 rfl (Nat.le_of_ble_eq_true rfl) dL_build_103 ⟨by show _ ≤ 120; omega, by show _ ≤ 2200; omega⟩ ?_
    obtain ⟨t, ht, et⟩ : ∃ j, j < 3 ∧ bw ((cV xs L 2) >>> ((nI i) &&& 31)) 3 = j := ⟨_, bw_lt (by omega), rfl⟩
    rw [et]
    refine n_if_ne (tgt := 113) hx hb (by omega) dL_build_106 (by decide) (fun h5 => ?_) (fun h5 => ?_)
    · refine lv_aload_n hx hb dL_build_113 rfl (lv_at hl 1 rfl) ?_
      refine lv_iconst (v := nI 3) hx hb dL_build_114 (by decide) ?_
      refine r_callRS (rest := []) Fx (m_L_cell l b L xs 3 hLL (by omega)) (va_cwS 2 Fx.2.2.2.2 gL_build_L_cell rfl rfl rfl (by decide +kernel) ⟨Nat.le_of_ble_eq_true rfl, Nat.le_of_ble_eq_true rfl⟩) XB.bl (XB.at hX hbz hS) rfl hl.1 rfl (Nat.le_of_ble_eq_true rfl) dL_build_115 ⟨by show _ ≤ 120; omega, by show _ ≤ 2200; omega⟩ ?_
      refine lv_iconst (v := nI 2) hx hb dL_build_118 (by decide) ?_
      refine lv_iload hx hb dL_build_119 (lv_at hl 4 rfl) ?_
      refine r_imul_n hx hb dL_build_121 ?_
      refine lv_ishr hx hb dL_build_122 ?_
      refine lv_iload hx hb dL_build_123 (lv_at hl 4 rfl) ?_
      refine r_callRS (rest := []) Fx (m_L_below l ((cV xs L 3) >>> ((nI (2 * i)) &&& 31)) i (by omega) (by omega)) (va_cwS 2 Fx.2.2.2.2 gL_build_L_below rfl rfl rfl (by decide +kernel) ⟨Nat.le_of_ble_eq_true rfl, Nat.le_of_ble_eq_true rfl⟩) (fun _ _ _ _ h => h) (fun _ _ _ => trivial) rfl hl.1 rfl (Nat.le_of_ble_eq_true rfl) dL_build_125 ⟨by show _ ≤ 120; omega, by show _ ≤ 2200; omega⟩ ?_
      obtain ⟨r, hr, er⟩ : ∃ j, j < i ∧ bw ((cV xs L 3) >>> ((nI (2 * i)) &&& 31)) i = j := ⟨_, bw_lt (by omega), rfl⟩
      rw [er]
      refine lv_istore (lv' := [(5, .int (nI r)), (0, .ref (q 0)), (1, .ref b), (2, .ref (A 0)), (3, .int (nI np)), (4, .int (nI i))]) hx hb dL_build_128 hl (by decide) rfl (fun ls hl => ?_)
      refine lv_aload_n hx hb dL_build_130 rfl (lv_at hl 3 rfl) ?_
      refine lv_iload hx hb dL_build_131 (lv_at hl 0 rfl) ?_
      have hz8 := Nat.le_trans hsz hS.1
      have hql := q_lt hP
      refine r_callM (rest := []) Fx (m_X1_addPerson l (D := D) (ci := ci) (cz := cz) (cj := cj) (A := A) (F := F) (P := i) (g := g) _ hz8 hql hAD (by omega) (by omega) (nI r) (hI.p3 _ (Nat.le_refl _)) (hI.c45 _ (Nat.le_refl _)).1 (hI.c45 _ (Nat.le_refl _)).2 hI.iv) (cwV 1 Fx.2.2.2.2 gL_build_X1_addPerson rfl rfl rfl (by decide +kernel) ⟨Nat.le_of_ble_eq_true rfl, Nat.le_of_ble_eq_true rfl⟩) (fun U fr mk a h9 => ⟨h9.1, BX.bl U fr mk a h9.2⟩) (hQX.rc hK) (fun U hU hW => ⟨by rw [hU], BX.at hQX hK hO U hU hW⟩) rfl hl.1 rfl (Nat.le_of_ble_eq_true rfl) dL_build_133 ⟨by show _ ≤ 120; omega, by show _ ≤ 2200; omega⟩ hS (fun q9 h9 => bg_f hAD hz8 q9 h9) (fun v H locs hv kp hS => ?_)
      have hP : va_P D vwCl (w0 ci cz q F i g) H := w0_f hAD hP (Nat.le_refl _) kp
      obtain ⟨rfl, A', eA, hAD, hQX⟩ := hv
      rw [← eA] at hl
      have hQX : SS D ci cj A' F (i + 1) (gPar g i (nI r)) H := hQX
      refine lv_iload hx hb dL_build_136 (lv_at hl 0 rfl) ?_
      refine lv_if_ge (tgt := 148) hx hb dL_build_138 (by decide) (fun h6 => ?_) (fun h6 => absurd (nI_pos' (by omega)) h6)
      refine lv_aload_n hx hb dL_build_148 rfl (lv_at hl 1 rfl) ?_
      refine lv_iload hx hb dL_build_149 (lv_at hl 0 rfl) ?_
      have hK9 : k_addChild i g (nI r) = 0 := by unfold k_addChild; rw [if_pos (inR_nI hr (by omega)), ix_nI (by omega), if_pos (show lv g r = true from decide_eq_true (hlv _)), if_pos (by omega)]
      refine r_callT (rest := []) Fx (t_addChild l hl0 (D := D) (ci := ci) (cz := cz) (cj := cj) (q := q) (F := F) (P := i) (g := g) hq (by omega) (by omega) r (by omega) hI.p3) (cwV 1 Fx.2.2.2.2 gL_build_X0_addChild rfl rfl rfl (by decide +kernel) ⟨Nat.le_of_ble_eq_true rfl, Nat.le_of_ble_eq_true rfl⟩) BW.bl (va_recv hK hP (ci := 0) (q0 := 0) rfl rfl) (BWb hqs hP hL hS) rfl hl.1 rfl (Nat.le_of_ble_eq_true rfl) dL_build_151 ⟨by show _ ≤ 120; omega, by show _ ≤ 2200; omega⟩ hS (fun q9 h9 => bg_aw hqs q9 h9) (fun H locs hk0 hP kp hS => ?_) (fun j E ce q9 H locs hj _ _ _ _ _ _ => absurd (hK9.symm.trans hj) (Nat.succ_ne_zero j).symm)
      have hQX : SS D ci cj A' F (i + 1) (gPar g i (nI r)) H := SS_m hAD hQX kp
      have hP : va_P D vwCl (w0 ci cz q F (i + 1) (gPar g i (nI r))) H := hP
      refine lv_iload hx hb dL_build_154 (lv_at hl 5 rfl) ?_
      refine n_icmp_eq (tgt := 161) hx hb (by omega) (by omega) dL_build_156 (by decide) (fun h7 => ?_) (fun h7 => by omega)
      refine lv_iinc (v := nI (i + 1)) (lv' := [(4, .int (nI (i + 1))), (5, .int (nI r)), (0, .ref (q 0)), (1, .ref b), (2, .ref (A' 0)), (3, .int (nI np))]) hx hb dL_build_161 hl (k := 5) rfl (nI_inc _ 1) (by decide) rfl (fun ls hl => ?_)
      refine lv_goto (tgt := 83) hx hb dL_build_164 (by decide) ?_
      refine W.widen (k := c0 + 3) (n := s0 + 23) (by omega) (by omega) ?_
      exact kk A' (gPar g i (nI r)) H locs ls hAD (ix_person hI (by omega) (Or.inr ⟨r, hr, rfl⟩)) (fun p => hlv p) hP hQX hS (lv_sub hl [2, 3, 4, 5, 0] rfl)
    · refine lv_iconst (v := -1) hx hb dL_build_109 (by decide) ?_
      refine lv_goto (tgt := 128) hx hb dL_build_110 (by decide) ?_
      refine lv_istore (lv' := [(5, .int (-1)), (0, .ref (q 0)), (1, .ref b), (2, .ref (A 0)), (3, .int (nI np)), (4, .int (nI i))]) hx hb dL_build_128 hl (by decide) rfl (fun ls hl => ?_)
      refine lv_aload_n hx hb dL_build_130 rfl (lv_at hl 3 rfl) ?_
      refine lv_iload hx hb dL_build_131 (lv_at hl 0 rfl) ?_
      have hz8 := Nat.le_trans hsz hS.1
      have hql := q_lt hP
      refine r_callM (rest := []) Fx (m_X1_addPerson l (D := D) (ci := ci) (cz := cz) (cj := cj) (A := A) (F := F) (P := i) (g := g) _ hz8 hql hAD (by omega) (by omega) (-1) (hI.p3 _ (Nat.le_refl _)) (hI.c45 _ (Nat.le_refl _)).1 (hI.c45 _ (Nat.le_refl _)).2 hI.iv) (cwV 1 Fx.2.2.2.2 gL_build_X1_addPerson rfl rfl rfl (by decide +kernel) ⟨Nat.le_of_ble_eq_true rfl, Nat.le_of_ble_eq_true rfl⟩) (fun U fr mk a h9 => ⟨h9.1, BX.bl U fr mk a h9.2⟩) (hQX.rc hK) (fun U hU hW => ⟨by rw [hU], BX.at hQX hK hO U hU hW⟩) rfl hl.1 rfl (Nat.le_of_ble_eq_true rfl) dL_build_133 ⟨by show _ ≤ 120; omega, by show _ ≤ 2200; omega⟩ hS (fun q9 h9 => bg_f hAD hz8 q9 h9) (fun v H locs hv kp hS => ?_)
      have hP : va_P D vwCl (w0 ci cz q F i g) H := w0_f hAD hP (Nat.le_refl _) kp
      obtain ⟨rfl, A', eA, hAD, hQX⟩ := hv
      rw [← eA] at hl
      have hQX : SS D ci cj A' F (i + 1) (gPar g i (-1)) H := hQX
      refine lv_iload hx hb dL_build_136 (lv_at hl 0 rfl) ?_
      refine lv_if_ge (tgt := 148) hx hb dL_build_138 (by decide) (fun h8 => absurd h8 (by decide)) (fun h8 => ?_)
      refine lv_aload_n hx hb dL_build_141 rfl (lv_at hl 1 rfl) ?_
      have hK9 : k_addPerson i = 0 := by unfold k_addPerson; rw [if_pos (by omega)]
      refine r_callT (rest := []) Fx (t_addPerson l hl0 (D := D) (ci := ci) (cz := cz) (cj := cj) (q := q) (F := F) (P := i) (g := g) hq (by omega) (by omega)   hI.p3) (cwV 0 Fx.2.2.2.2 gL_build_X0_addPerson rfl rfl rfl (by decide +kernel) ⟨Nat.le_of_ble_eq_true rfl, Nat.le_of_ble_eq_true rfl⟩) BW.bl (va_recv hK hP (ci := 0) (q0 := 0) rfl rfl) (BWb hqs hP hL hS) rfl hl.1 rfl (Nat.le_of_ble_eq_true rfl) dL_build_142 ⟨by show _ ≤ 120; omega, by show _ ≤ 2200; omega⟩ hS (fun q9 h9 => bg_aw hqs q9 h9) (fun H locs hk0 hP kp hS => ?_) (fun j E ce q9 H locs hj _ _ _ _ _ _ => absurd (hK9.symm.trans hj) (Nat.succ_ne_zero j).symm)
      have hQX : SS D ci cj A' F (i + 1) (gPar g i (-1)) H := SS_m hAD hQX kp
      have hP : va_P D vwCl (w0 ci cz q F (i + 1) (gPar g i (-1))) H := hP
      refine lv_goto (tgt := 154) hx hb dL_build_145 (by decide) ?_
      refine lv_iload hx hb dL_build_154 (lv_at hl 5 rfl) ?_
      refine n_icmp_eq (tgt := 161) hx hb (by omega) (by omega) dL_build_156 (by decide) (fun h9 => ?_) (fun h9 => by omega)
      refine lv_iinc (v := nI (i + 1)) (lv' := [(4, .int (nI (i + 1))), (5, .int (-1)), (0, .ref (q 0)), (1, .ref b), (2, .ref (A' 0)), (3, .int (nI np))]) hx hb dL_build_161 hl (k := 5) rfl (nI_inc _ 1) (by decide) rfl (fun ls hl => ?_)
      refine lv_goto (tgt := 83) hx hb dL_build_164 (by decide) ?_
      refine W.widen (k := c0 + 3) (n := s0 + 23) (by omega) (by omega) ?_
      exact kk A' (gPar g i (-1)) H locs ls hAD (ix_person hI (by omega) (Or.inl rfl)) (fun p => hlv p) hP hQX hS (lv_sub hl [2, 3, 4, 5, 0] rfl)
set_option maxHeartbeats 8000000 in
set_option maxRecDepth 100000 in
theorem bG {pg : Program} {l : Launch} {en : Env} {s : State} {m : MethodId} {args : Array Value} {bl : List Frame} {mt : Method} {cd : Code} {ls : Array Slot} {H : Heap} {locs : List Loc} {c0 s0 : Nat} {Q : State → Prop} {D : va_G} {ci cz : ClassId} {cj : ClassId × ClassId} {q : Nat → Nat} {sz b L : Nat} {xs : Nat → Int32} {A : Nat → Nat} {F P : Nat} {g : Nat → Nat → Int32} {z i np : Nat} (hl0 : l.stackTraces = false) (Fx : CallFix pg m cd cL_build 11 s args wsL_build RL) (hL : EL D ci cz cj sz s) (hX : XB b L xs s) (hbz : b < sz) (hLL : L < 1000) (hq : DQ q 8) (hqs : ∀ k, k < 8 → sz ≤ q k) (hsz : sz ≤ s.heap.size) (hcc : c0 + 10 ≤ 120) (hss : s0 + 400 ≤ 2200) (hAD : AD q sz A F P) (hI : Ix 0 F P g) (hlv : ∀ p, g 3 p = 0) (hP : va_P D vwCl (w0 ci cz q F P g) H) (hQX : SS D ci cj A F P g H) (hS : va_S (bg sz) s.heap H locs) (hl : lv_has ls 11 [(0, .ref (q 0)), (1, .ref b), (2, .ref (A 0)), (3, .int (nI P)), (4, .int (nI i))]) (hi : i < 12) (hF1 : 1 ≤ F) (hP1 : 1 ≤ P)
    (kk : ∀ (A' : Nat → Nat) (g' : Nat → Nat → Int32) (H : Heap) (locs : List Loc) (ls : Array Slot), AD q sz A' F P → Ix 0 F P g' → (∀ p, g' 3 p = 0) → va_P D vwCl (w0 ci cz q F P g') H → SS D ci cj A' F P g' H → va_S (bg sz) s.heap H locs → lv_has ls 11 [(0, .ref (q 0)), (1, .ref b), (2, .ref (A' 0)), (3, .int (nI P)), (4, .int (nI (i + 1)))] → W pg l en ({ frames := 8, cells := 120, slots := 2200, locals := 127 } : Room) s m args bl mt cd H locs (c0 + 2) (s0 + 12) Q (F0 m 170 ls [])) : W pg l en ({ frames := 8, cells := 120, slots := 2200, locals := 127 } : Room) s m args bl mt cd H locs c0 s0 Q (F0 m 170 ls []) := by
  have hx := Fx.1
  have hb := Fx.2.1
  obtain ⟨hK, hE, hNC⟩ := id hL
  have hO := hE.2.2.2.2
  have hFb := hI.b.1
  have hPb := hI.b.2
  have hin : ∀ w ∈ wsX10, w ∈ wsL_build := by decide +kernel
  have sabg : ∀ q9, SA A F P q9 → bg sz q9 := by
    rintro q9 ⟨j, hj, rfl⟩
    exact (hAD.2 j hj).1
  refine lv_iload hx hb dL_build_170 (lv_at hl 4 rfl) ?_
  refine lv_bipush (v := nI 12) hx hb dL_build_172 (by decide) ?_
  refine n_icmp_ge (tgt := 361) hx hb (by omega) (by omega) dL_build_174 (by decide) (fun h1 => by omega) (fun h1 => ?_)
  refine lv_aload_n hx hb dL_build_177 rfl (lv_at hl 1 rfl) ?_
  refine lv_iconst (v := nI 4) hx hb dL_build_178 (by decide) ?_
  refine lv_iload hx hb dL_build_179 (lv_at hl 4 rfl) ?_
  refine r_iadd_n hx hb dL_build_181 ?_
  refine r_callRS (rest := []) Fx (m_L_cell l b L xs (4 + i) hLL (by omega)) (va_cwS 2 Fx.2.2.2.2 gL_build_L_cell rfl rfl rfl (by decide +kernel) ⟨Nat.le_of_ble_eq_true rfl, Nat.le_of_ble_eq_true rfl⟩) XB.bl (XB.at hX hbz hS) rfl hl.1 rfl (Nat.le_of_ble_eq_true rfl) dL_build_182 ⟨by show _ ≤ 120; omega, by show _ ≤ 2200; omega⟩ ?_
  refine lv_iconst (v := nI 1) hx hb dL_build_185 (by decide) ?_
  refine lv_ishr hx hb dL_build_186 ?_
  refine lv_bipush (v := nI 29) hx hb dL_build_187 (by decide) ?_
  refine lv_iload hx hb dL_build_189 (lv_at hl 4 rfl) ?_
  refine r_imul_n hx hb dL_build_191 ?_
  refine lv_iadd hx hb dL_build_192 ?_
  refine lv_istore (lv' := [(5, .int (((cV xs L (4 + i)) >>> ((nI 1) &&& 31)) + (nI (29 * i)))), (0, .ref (q 0)), (1, .ref b), (2, .ref (A 0)), (3, .int (nI P)), (4, .int (nI i))]) hx hb dL_build_193 hl (by decide) rfl (fun ls hl => ?_)
  refine lv_iload hx hb dL_build_195 (lv_at hl 0 rfl) ?_
  refine lv_aload_n hx hb dL_build_197 rfl (lv_at hl 3 rfl) ?_
  obtain ⟨T9, hR9, hQ⟩ := id hQX
  refine g_get Fx hin hK 1 hQ.o rfl 0 (by decide) (by decide +kernel) rfl dL_build_198 ?_
  obtain ⟨T9, hR9, hQ⟩ := id hQX
  refine g_alenI Fx hK hQ.to 0 rfl dL_build_201 ?_
  refine r_callRS (rest := []) Fx (m_L_below l (((cV xs L (4 + i)) >>> ((nI 1) &&& 31)) + (nI (29 * i))) F (by omega) (by omega)) (va_cwS 2 Fx.2.2.2.2 gL_build_L_below rfl rfl rfl (by decide +kernel) ⟨Nat.le_of_ble_eq_true rfl, Nat.le_of_ble_eq_true rfl⟩) (fun _ _ _ _ h => h) (fun _ _ _ => trivial) rfl hl.1 rfl (Nat.le_of_ble_eq_true rfl) dL_build_202 ⟨by show _ ≤ 120; omega, by show _ ≤ 2200; omega⟩ ?_
  obtain ⟨f, hf, ef⟩ : ∃ j, j < F ∧ bw (((cV xs L (4 + i)) >>> ((nI 1) &&& 31)) + (nI (29 * i))) F = j := ⟨_, bw_lt (by omega), rfl⟩
  rw [ef]
  refine lv_istore (lv' := [(6, .int (nI f)), (5, .int (((cV xs L (4 + i)) >>> ((nI 1) &&& 31)) + (nI (29 * i)))), (0, .ref (q 0)), (1, .ref b), (2, .ref (A 0)), (3, .int (nI P)), (4, .int (nI i))]) hx hb dL_build_205 hl (by decide) rfl (fun ls hl => ?_)
  refine lv_iload hx hb dL_build_207 (lv_at hl 1 rfl) ?_
  refine lv_iconst (v := nI 2) hx hb dL_build_209 (by decide) ?_
  refine lv_ishr hx hb dL_build_210 ?_
  refine lv_iconst (v := nI 4) hx hb dL_build_211 (by decide) ?_
  refine r_callRS (rest := []) Fx (m_L_below l ((((cV xs L (4 + i)) >>> ((nI 1) &&& 31)) + (nI (29 * i))) >>> ((nI 2) &&& 31)) 4 (by omega) (by omega)) (va_cwS 2 Fx.2.2.2.2 gL_build_L_below rfl rfl rfl (by decide +kernel) ⟨Nat.le_of_ble_eq_true rfl, Nat.le_of_ble_eq_true rfl⟩) (fun _ _ _ _ h => h) (fun _ _ _ => trivial) rfl hl.1 rfl (Nat.le_of_ble_eq_true rfl) dL_build_212 ⟨by show _ ≤ 120; omega, by show _ ≤ 2200; omega⟩ ?_
  obtain ⟨w, hw, ew⟩ : ∃ j, j < 4 ∧ bw ((((cV xs L (4 + i)) >>> ((nI 1) &&& 31)) + (nI (29 * i))) >>> ((nI 2) &&& 31)) 4 = j := ⟨_, bw_lt (by omega), rfl⟩
  rw [ew]
  refine lv_istore (lv' := [(7, .int (nI w)), (6, .int (nI f)), (5, .int (((cV xs L (4 + i)) >>> ((nI 1) &&& 31)) + (nI (29 * i)))), (0, .ref (q 0)), (1, .ref b), (2, .ref (A 0)), (3, .int (nI P)), (4, .int (nI i))]) hx hb dL_build_215 hl (by decide) rfl (fun ls hl => ?_)
  refine lv_iload hx hb dL_build_217 (lv_at hl 2 rfl) ?_
  refine lv_iconst (v := nI 4) hx hb dL_build_219 (by decide) ?_
  refine lv_ishr hx hb dL_build_220 ?_
  refine lv_iload_n hx hb dL_build_221 rfl (lv_at hl 6 rfl) ?_
  refine r_callRS (rest := []) Fx (m_L_below l ((((cV xs L (4 + i)) >>> ((nI 1) &&& 31)) + (nI (29 * i))) >>> ((nI 4) &&& 31)) P (by omega) (by omega)) (va_cwS 2 Fx.2.2.2.2 gL_build_L_below rfl rfl rfl (by decide +kernel) ⟨Nat.le_of_ble_eq_true rfl, Nat.le_of_ble_eq_true rfl⟩) (fun _ _ _ _ h => h) (fun _ _ _ => trivial) rfl hl.1 rfl (Nat.le_of_ble_eq_true rfl) dL_build_222 ⟨by show _ ≤ 120; omega, by show _ ≤ 2200; omega⟩ ?_
  obtain ⟨k, hk, ek⟩ : ∃ j, j < P ∧ bw ((((cV xs L (4 + i)) >>> ((nI 1) &&& 31)) + (nI (29 * i))) >>> ((nI 4) &&& 31)) P = j := ⟨_, bw_lt (by omega), rfl⟩
  rw [ek]
  refine lv_istore (lv' := [(8, .int (nI k)), (7, .int (nI w)), (6, .int (nI f)), (5, .int (((cV xs L (4 + i)) >>> ((nI 1) &&& 31)) + (nI (29 * i)))), (0, .ref (q 0)), (1, .ref b), (2, .ref (A 0)), (3, .int (nI P)), (4, .int (nI i))]) hx hb dL_build_225 hl (by decide) rfl (fun ls hl => ?_)
  refine lv_iconst (v := nI 1) hx hb dL_build_227 (by decide) ?_
  refine lv_iload hx hb dL_build_228 (lv_at hl 3 rfl) ?_
  refine lv_bipush (v := nI 6) hx hb dL_build_230 (by decide) ?_
  refine lv_ishr hx hb dL_build_232 ?_
  refine lv_bipush (v := nI 33) hx hb dL_build_233 (by decide) ?_
  refine r_callRS (rest := [.int (nI 1)]) Fx (m_L_below l ((((cV xs L (4 + i)) >>> ((nI 1) &&& 31)) + (nI (29 * i))) >>> ((nI 6) &&& 31)) 33 (by omega) (by omega)) (va_cwS 2 Fx.2.2.2.2 gL_build_L_below rfl rfl rfl (by decide +kernel) ⟨Nat.le_of_ble_eq_true rfl, Nat.le_of_ble_eq_true rfl⟩) (fun _ _ _ _ h => h) (fun _ _ _ => trivial) rfl hl.1 rfl (Nat.le_of_ble_eq_true rfl) dL_build_235 ⟨by show _ ≤ 120; omega, by show _ ≤ 2200; omega⟩ ?_
  obtain ⟨n, hn, en⟩ : ∃ j, j < 33 ∧ bw ((((cV xs L (4 + i)) >>> ((nI 1) &&& 31)) + (nI (29 * i))) >>> ((nI 6) &&& 31)) 33 = j := ⟨_, bw_lt (by omega), rfl⟩
  rw [en]
  refine r_iadd_n hx hb dL_build_238 ?_
  refine lv_istore (lv' := [(9, .int (nI (1 + n))), (8, .int (nI k)), (7, .int (nI w)), (6, .int (nI f)), (5, .int (((cV xs L (4 + i)) >>> ((nI 1) &&& 31)) + (nI (29 * i)))), (0, .ref (q 0)), (1, .ref b), (2, .ref (A 0)), (3, .int (nI P)), (4, .int (nI i))]) hx hb dL_build_239 hl (by decide) rfl (fun ls hl => ?_)
  refine lv_aload_n hx hb dL_build_241 rfl (lv_at hl 7 rfl) ?_
  refine lv_iload hx hb dL_build_242 (lv_at hl 3 rfl) ?_
  refine lv_iload hx hb dL_build_244 (lv_at hl 2 rfl) ?_
  refine lv_iconst (v := -1) hx hb dL_build_246 (by decide) ?_
  refine r_callR (rest := []) Fx (m_X1_hasC l (D := D) (ci := ci) (cz := cz) (cj := cj) (A := A) (F := F) (P := P) (g := g) (by omega) (by omega) f w (by omega) (by omega)) (cwV 3 Fx.2.2.2.2 gL_build_X1_has rfl rfl rfl (by decide +kernel) ⟨Nat.le_of_ble_eq_true rfl, Nat.le_of_ble_eq_true rfl⟩) BX.bl (hQX.rc hK) (BX.at hQX hK hO) rfl hl.1 rfl (Nat.le_of_ble_eq_true rfl) dL_build_247 ⟨by show _ ≤ 120; omega, by show _ ≤ 2200; omega⟩ ?_
  refine lv_iload hx hb dL_build_250 (lv_at hl 0 rfl) ?_
  refine lv_icmp_ge (tgt := 258) hx hb dL_build_252 (by decide) (fun h2 => ?_) (fun h2 => ?_)
  · refine lv_aload_n hx hb dL_build_258 rfl (lv_at hl 7 rfl) ?_
    refine lv_iload hx hb dL_build_259 (lv_at hl 3 rfl) ?_
    refine lv_iload hx hb dL_build_261 (lv_at hl 2 rfl) ?_
    refine lv_iconst (v := -1) hx hb dL_build_263 (by decide) ?_
    refine lv_iload hx hb dL_build_264 (lv_at hl 1 rfl) ?_
    refine lv_iload hx hb dL_build_266 (lv_at hl 0 rfl) ?_
    refine r_callW (rest := []) Fx (m_X1_handC l (D := D) (ci := ci) (cz := cz) (cj := cj) (A := A) (F := F) (P := P) (g := g) (by omega) (by omega) f w k (1 + n) (by omega) (by omega) (by omega) h2 (by omega) hAD.1) (cwV 5 Fx.2.2.2.2 gL_build_X1_hand rfl rfl rfl (by decide +kernel) ⟨Nat.le_of_ble_eq_true rfl, Nat.le_of_ble_eq_true rfl⟩) BX.bl (hQX.rc hK) (BX.at hQX hK hO) rfl hl.1 rfl (Nat.le_of_ble_eq_true rfl) dL_build_268 ⟨by show _ ≤ 120; omega, by show _ ≤ 2200; omega⟩ hS (fun q9 h9 => sabg q9 h9) (fun H locs hQ9 hS hsz9 hk9 => ?_)
    have kp : KP (SA A F P) _ H := ⟨hsz9, hk9⟩
    have hQX : SS D ci cj A F P (gAdd g f w k (nI (1 + n))) H := hQ9
    have hP : va_P D vwCl (w0 ci cz q F P g) H := w0_s hAD hP kp
    refine lv_aload_n hx hb dL_build_271 rfl (lv_at hl 5 rfl) ?_
    refine lv_iload hx hb dL_build_272 (lv_at hl 3 rfl) ?_
    refine lv_iload hx hb dL_build_274 (lv_at hl 2 rfl) ?_
    refine lv_iload hx hb dL_build_276 (lv_at hl 1 rfl) ?_
    refine lv_iload hx hb dL_build_278 (lv_at hl 0 rfl) ?_
    have hK9 : k_grant F P g (nI f) (nI w) (nI k) (nI (1 + n)) = 0 := by unfold k_grant; rw [if_pos ⟨inR_nI hf (by omega), inR_nI hw (by omega), inR_nI hk (by omega)⟩, if_pos ⟨nI_le (by omega) (by omega), nI_le (by omega) (by omega)⟩, ix_nI (by omega), ix_nI (by omega), ix_nI (by omega), if_pos ⟨decide_eq_true (hlv _), h2⟩]
    refine r_callT (rest := []) Fx (t_grant l hl0 (D := D) (ci := ci) (cz := cz) (cj := cj) (q := q) (F := F) (P := P) (g := g) hq (by omega) (by omega) f w k (nI (1 + n)) (by omega) (by omega) (by omega) ) (cwV 4 Fx.2.2.2.2 gL_build_X0_grant rfl rfl rfl (by decide +kernel) ⟨Nat.le_of_ble_eq_true rfl, Nat.le_of_ble_eq_true rfl⟩) BW.bl (va_recv hK hP (ci := 0) (q0 := 0) rfl rfl) (BWb hqs hP hL hS) rfl hl.1 rfl (Nat.le_of_ble_eq_true rfl) dL_build_280 ⟨by show _ ≤ 120; omega, by show _ ≤ 2200; omega⟩ hS (fun q9 h9 => bg_aw hqs q9 h9) (fun H locs hk0 hP kp hS => ?_) (fun j E ce q9 H locs hj _ _ _ _ _ _ => absurd (hK9.symm.trans hj) (Nat.succ_ne_zero j).symm)
    have hQX : SS D ci cj A F P (gAdd g f w k (nI (1 + n))) H := SS_m hAD hQX kp
    have hP : va_P D vwCl (w0 ci cz q F P (gAdd g f w k (nI (1 + n)))) H := hP
    refine lv_aload_n hx hb dL_build_283 rfl (lv_at hl 7 rfl) ?_
    refine lv_iload hx hb dL_build_284 (lv_at hl 3 rfl) ?_
    refine lv_iload hx hb dL_build_286 (lv_at hl 2 rfl) ?_
    refine lv_iconst (v := -1) hx hb dL_build_288 (by decide) ?_
    refine r_callR (rest := [.int (sCro (gAdd g f w k (nI (1 + n))) P f w)]) Fx (m_X1_hasC l (D := D) (ci := ci) (cz := cz) (cj := cj) (A := A) (F := F) (P := P) (g := gAdd g f w k (nI (1 + n))) (by omega) (by omega) f w (by omega) (by omega)) (cwV 3 Fx.2.2.2.2 gL_build_X1_has rfl rfl rfl (by decide +kernel) ⟨Nat.le_of_ble_eq_true rfl, Nat.le_of_ble_eq_true rfl⟩) BX.bl (hQX.rc hK) (BX.at hQX hK hO) rfl hl.1 rfl (Nat.le_of_ble_eq_true rfl) dL_build_289 ⟨by show _ ≤ 120; omega, by show _ ≤ 2200; omega⟩ ?_
    refine lv_icmp_eq (tgt := 297) hx hb dL_build_292 (by decide) (fun h3 => ?_) (fun h3 => absurd rfl h3)
    refine lv_iload hx hb dL_build_297 (lv_at hl 4 rfl) ?_
    refine lv_iconst (v := nI 3) hx hb dL_build_299 (by decide) ?_
    refine lv_ishr hx hb dL_build_300 ?_
    refine lv_iconst (v := nI 2) hx hb dL_build_301 (by decide) ?_
    refine r_callRS (rest := []) Fx (m_L_below l ((((cV xs L (4 + i)) >>> ((nI 1) &&& 31)) + (nI (29 * i))) >>> ((nI 3) &&& 31)) 2 (by omega) (by omega)) (va_cwS 2 Fx.2.2.2.2 gL_build_L_below rfl rfl rfl (by decide +kernel) ⟨Nat.le_of_ble_eq_true rfl, Nat.le_of_ble_eq_true rfl⟩) (fun _ _ _ _ h => h) (fun _ _ _ => trivial) rfl hl.1 rfl (Nat.le_of_ble_eq_true rfl) dL_build_302 ⟨by show _ ≤ 120; omega, by show _ ≤ 2200; omega⟩ ?_
    obtain ⟨t, ht, et⟩ : ∃ j, j < 2 ∧ bw ((((cV xs L (4 + i)) >>> ((nI 1) &&& 31)) + (nI (29 * i))) >>> ((nI 3) &&& 31)) 2 = j := ⟨_, bw_lt (by omega), rfl⟩
    rw [et]
    refine n_if_ne (tgt := 311) hx hb (by omega) dL_build_305 (by decide) (fun h4 => ?_) (fun h4 => ?_)
    · refine lv_iconst (v := nI 1) hx hb dL_build_311 (by decide) ?_
      refine lv_iload hx hb dL_build_312 (lv_at hl 4 rfl) ?_
      refine lv_iconst (v := nI 5) hx hb dL_build_314 (by decide) ?_
      refine lv_ishr hx hb dL_build_315 ?_
      refine lv_sipush (v := nI 2500) hx hb dL_build_316 (by decide) ?_
      refine r_callRS (rest := [.int (nI 1)]) Fx (m_L_below l ((((cV xs L (4 + i)) >>> ((nI 1) &&& 31)) + (nI (29 * i))) >>> ((nI 5) &&& 31)) 2500 (by omega) (by omega)) (va_cwS 2 Fx.2.2.2.2 gL_build_L_below rfl rfl rfl (by decide +kernel) ⟨Nat.le_of_ble_eq_true rfl, Nat.le_of_ble_eq_true rfl⟩) (fun _ _ _ _ h => h) (fun _ _ _ => trivial) rfl hl.1 rfl (Nat.le_of_ble_eq_true rfl) dL_build_319 ⟨by show _ ≤ 120; omega, by show _ ≤ 2200; omega⟩ ?_
      obtain ⟨n2, hn2, en2⟩ : ∃ j, j < 2500 ∧ bw ((((cV xs L (4 + i)) >>> ((nI 1) &&& 31)) + (nI (29 * i))) >>> ((nI 5) &&& 31)) 2500 = j := ⟨_, bw_lt (by omega), rfl⟩
      rw [en2]
      refine r_iadd_n hx hb dL_build_322 ?_
      refine lv_istore (lv' := [(10, .int (nI (1 + n2))), (9, .int (nI (1 + n))), (8, .int (nI k)), (7, .int (nI w)), (6, .int (nI f)), (5, .int (((cV xs L (4 + i)) >>> ((nI 1) &&& 31)) + (nI (29 * i)))), (0, .ref (q 0)), (1, .ref b), (2, .ref (A 0)), (3, .int (nI P)), (4, .int (nI i))]) hx hb dL_build_323 hl (by decide) rfl (fun ls hl => ?_)
      refine lv_aload_n hx hb dL_build_325 rfl (lv_at hl 8 rfl) ?_
      refine lv_iload hx hb dL_build_326 (lv_at hl 2 rfl) ?_
      refine lv_iload hx hb dL_build_328 (lv_at hl 0 rfl) ?_
      refine r_callW (rest := []) Fx (m_X1_get l (D := D) (ci := ci) (cz := cz) (cj := cj) (A := A) (F := F) (P := P) (g := gAdd g f w k (nI (1 + n))) (by omega) (by omega) k (nI (1 + n2)) (by omega) hAD.1) (cwV 2 Fx.2.2.2.2 gL_build_X1_get rfl rfl rfl (by decide +kernel) ⟨Nat.le_of_ble_eq_true rfl, Nat.le_of_ble_eq_true rfl⟩) BX.bl (hQX.rc hK) (BX.at hQX hK hO) rfl hl.1 rfl (Nat.le_of_ble_eq_true rfl) dL_build_330 ⟨by show _ ≤ 120; omega, by show _ ≤ 2200; omega⟩ hS (fun q9 h9 => sabg q9 h9) (fun H locs hQ9 hS hsz9 hk9 => ?_)
      have kp : KP (SA A F P) _ H := ⟨hsz9, hk9⟩
      have hQX : SS D ci cj A F P (gGet (gAdd g f w k (nI (1 + n))) k (nI (1 + n2))) H := hQ9
      have hP : va_P D vwCl (w0 ci cz q F P (gAdd g f w k (nI (1 + n)))) H := w0_s hAD hP kp
      refine lv_aload_n hx hb dL_build_333 rfl (lv_at hl 6 rfl) ?_
      refine lv_iload hx hb dL_build_334 (lv_at hl 2 rfl) ?_
      refine lv_iload hx hb dL_build_336 (lv_at hl 0 rfl) ?_
      have hK9 : k_pay P (gAdd g f w k (nI (1 + n))) (nI k) (nI (1 + n2)) = 0 := by unfold k_pay; rw [if_pos (inR_nI hk (by omega)), if_pos ⟨nI_le (by omega) (by omega), nI_le (by omega) (by omega)⟩, ix_nI (by omega), if_pos (show lv (gAdd g f w k (nI (1 + n))) k = true from decide_eq_true (hlv _))]
      refine r_callT (rest := []) Fx (t_pay l hl0 (D := D) (ci := ci) (cz := cz) (cj := cj) (q := q) (F := F) (P := P) (g := gAdd g f w k (nI (1 + n))) hq (by omega) (by omega) k (nI (1 + n2)) (by omega) ) (cwV 2 Fx.2.2.2.2 gL_build_X0_pay rfl rfl rfl (by decide +kernel) ⟨Nat.le_of_ble_eq_true rfl, Nat.le_of_ble_eq_true rfl⟩) BW.bl (va_recv hK hP (ci := 0) (q0 := 0) rfl rfl) (BWb hqs hP hL hS) rfl hl.1 rfl (Nat.le_of_ble_eq_true rfl) dL_build_338 ⟨by show _ ≤ 120; omega, by show _ ≤ 2200; omega⟩ hS (fun q9 h9 => bg_aw hqs q9 h9) (fun H locs hk0 hP kp hS => ?_) (fun j E ce q9 H locs hj _ _ _ _ _ _ => absurd (hK9.symm.trans hj) (Nat.succ_ne_zero j).symm)
      have hQX : SS D ci cj A F P (gGet (gAdd g f w k (nI (1 + n))) k (nI (1 + n2))) H := SS_m hAD hQX kp
      have hP : va_P D vwCl (w0 ci cz q F P (gGet (gAdd g f w k (nI (1 + n))) k (nI (1 + n2)))) H := hP
      refine lv_aload_n hx hb dL_build_341 rfl (lv_at hl 8 rfl) ?_
      obtain ⟨T9, hR9, hQ⟩ := id hQX
      refine g_get Fx hin hK 1 hQ.o rfl 3 (by decide) (by decide +kernel) rfl dL_build_342 ?_
      refine lv_iload hx hb dL_build_345 (lv_at hl 2 rfl) ?_
      obtain ⟨T9, hR9, hQ⟩ := id hQX
      refine g_aald Fx hK hQ.pe 2 rfl rfl (i := k) (by omega) (by omega) rfl dL_build_347 ?_
      refine lv_iconst (v := nI 0) hx hb dL_build_348 (by decide) ?_
      obtain ⟨T9, hR9, hQ⟩ := id hQX
      refine g_iald Fx hK (hQ.pp (k := k) (by omega)) 0 rfl (i := 0) (by decide) (by decide) dL_build_349 ?_
      refine r_as ((gGet (gAdd g f w k (nI (1 + n))) k (nI (1 + n2))) 4 k) rfl ?_
      refine lv_icmp_eq (tgt := 355) hx hb dL_build_350 (by decide) (fun h5 => ?_) (fun h5 => absurd (by simp [gGet, va_up, upd]) h5)
      refine lv_iinc (v := nI (i + 1)) (lv' := [(4, .int (nI (i + 1))), (10, .int (nI (1 + n2))), (9, .int (nI (1 + n))), (8, .int (nI k)), (7, .int (nI w)), (6, .int (nI f)), (5, .int (((cV xs L (4 + i)) >>> ((nI 1) &&& 31)) + (nI (29 * i)))), (0, .ref (q 0)), (1, .ref b), (2, .ref (A 0)), (3, .int (nI P))]) hx hb dL_build_355 hl (k := 10) rfl (nI_inc _ 1) (by decide) rfl (fun ls hl => ?_)
      refine lv_goto (tgt := 170) hx hb dL_build_358 (by decide) ?_
      refine W.widen (k := c0 + 2) (n := s0 + 12) (by omega) (by omega) ?_
      exact kk A (gGet (gAdd g f w k (nI (1 + n))) k (nI (1 + n2))) H locs ls hAD (ix_get (ix_grant hI hf hw hk (by rw [nI_toInt (by omega)]; omega) (by rw [nI_toInt (by omega)]; omega) h2 (decide_eq_true (hlv _))) hk (by rw [nI_toInt (by omega)]; omega) (by rw [nI_toInt (by omega)]; omega) (decide_eq_true (hlv _))) (fun p => hlv p) hP hQX hS (lv_sub hl [7, 8, 9, 10, 0] rfl)
    · refine lv_goto (tgt := 355) hx hb dL_build_308 (by decide) ?_
      refine lv_iinc (v := nI (i + 1)) (lv' := [(4, .int (nI (i + 1))), (9, .int (nI (1 + n))), (8, .int (nI k)), (7, .int (nI w)), (6, .int (nI f)), (5, .int (((cV xs L (4 + i)) >>> ((nI 1) &&& 31)) + (nI (29 * i)))), (0, .ref (q 0)), (1, .ref b), (2, .ref (A 0)), (3, .int (nI P))]) hx hb dL_build_355 hl (k := 9) rfl (nI_inc _ 1) (by decide) rfl (fun ls hl => ?_)
      refine lv_goto (tgt := 170) hx hb dL_build_358 (by decide) ?_
      refine W.widen (k := c0 + 2) (n := s0 + 12) (by omega) (by omega) ?_
      exact kk A (gAdd g f w k (nI (1 + n))) H locs ls hAD (ix_grant hI hf hw hk (by rw [nI_toInt (by omega)]; omega) (by rw [nI_toInt (by omega)]; omega) h2 (decide_eq_true (hlv _))) (fun p => hlv p) hP hQX hS (lv_sub hl [6, 7, 8, 9, 0] rfl)
  · have h2 := Int32.not_le.mp h2
    refine lv_goto (tgt := 355) hx hb dL_build_255 (by decide) ?_
    refine lv_iinc (v := nI (i + 1)) (lv' := [(4, .int (nI (i + 1))), (9, .int (nI (1 + n))), (8, .int (nI k)), (7, .int (nI w)), (6, .int (nI f)), (5, .int (((cV xs L (4 + i)) >>> ((nI 1) &&& 31)) + (nI (29 * i)))), (0, .ref (q 0)), (1, .ref b), (2, .ref (A 0)), (3, .int (nI P))]) hx hb dL_build_355 hl (k := 9) rfl (nI_inc _ 1) (by decide) rfl (fun ls hl => ?_)
    refine lv_goto (tgt := 170) hx hb dL_build_358 (by decide) ?_
    refine W.widen (k := c0 + 2) (n := s0 + 12) (by omega) (by omega) ?_
    exact kk A g H locs ls hAD hI (fun p => hlv p) hP hQX hS (lv_sub hl [6, 7, 8, 9, 0] rfl)
set_option maxHeartbeats 8000000 in
set_option maxRecDepth 100000 in
theorem m_L_build (l : Launch) (hl0 : l.stackTraces = false) {D : va_G} {ci cz : ClassId} {cj : ClassId × ClassId} {q : Nat → Nat} {sz b L : Nat} {xs : Nat → Int32} (hq : DQ q 8) (hqs : ∀ k, k < 8 → sz ≤ q k) (hbz : b < sz) (hLL : L < 1000) : Met l yL_build wsL_build ({ frames := 8, cells := 120, slots := 2200, locals := 127 } : Room) (va_Pc [.ref (q 0), .ref b] (fun U => sz ≤ U.heap.size ∧ va_P D vwCl (w0 ci cz q 0 0 (fun _ _ => 0)) U.heap ∧ EL D ci cz cj sz U ∧ XB b L xs U ∧ NW U)) (MQv (fun v H => ∃ A F P g, v = some (.ref (A 0)) ∧ AD q sz A F P ∧ Ix 0 F P g ∧ 1 ≤ F ∧ 1 ≤ P ∧ LH D ci cz cj q A F P g H) (bg sz)) 120 2200 (bg sz) := by
  refine Met.ofM (cc := cL_build) (maxL := 11) (ret := some (.object "FerryRightsLaw$Sim")) (by decide) rfl (Nat.le_of_ble_eq_true rfl) ?_
  intro pg en s m bl mt cd ls Fx hr hlocks hB hl
  obtain ⟨hsz, hP, hL, hX, hNW⟩ := hB
  have hl : lv_has ls 11 [(0, .ref (q 0)), (1, .ref b)] := hl
  have Fx : CallFix pg m cd cL_build 11 s _ wsL_build RL := Fx
  have hx := Fx.1
  have hb := Fx.2.1
  obtain ⟨hK, hE, hNC⟩ := id hL
  have hO := hE.2.2.2.2
  have hin : ∀ w ∈ wsX10, w ∈ wsL_build := by decide +kernel
  have hS : va_S (bg sz) s.heap s.heap [] := va_S.rf
  refine g_new (ci := 1) (C := RX1) (T := TX1) (N := 5) (fs := [.null, .null, .null, .null, .int 0]) Fx hin tyX1 tyX1_ok (by decide +kernel) (by decide +kernel) (by decide +kernel) hK rfl (fun j hj => by rcases (show j = 0 ∨ j = 1 ∨ j = 2 ∨ j = 3 ∨ j = 4 by omega) with rfl | rfl | rfl | rfl | rfl <;> rfl) hS (Nat.le_of_ble_eq_true rfl) (Nat.le_of_ble_eq_true rfl) dL_build_0 (fun a0 H ea ho kp hsz9 hS => ?_)
  have hql : ∀ k, k < 8 → q k < a0 := fun k hk => by rw [ea]; exact q_lt hP k hk
  have hP : va_P D vwCl (w0 ci cz q 0 0 (fun _ _ => 0)) H := P_all hP kp.hk
  have la0 : sz ≤ a0 := by rw [ea]; exact hsz
  refine lv_dup hx hb dL_build_3 rfl ?_
  refine r_callIN (rest := [.ref a0]) Fx (m_X1_init l (D := D) (ci := ci) (cz := cz) (cj := cj) a0 H.size) ⟨va_cnB 0 Fx.2.2.2.2 gL_build_X1_init_n97 rfl rfl rfl hNW (Fx.2.2.2.2 (.initialized RX1) (by decide +kernel)) (by decide +kernel) ⟨Nat.le_of_ble_eq_true rfl, Nat.le_of_ble_eq_true rfl⟩, rfl, Fx.2.2.2.2 (.instanceMethod yX1_init) (by decide +kernel)⟩ BI.bl (fun U hU hW => ⟨by rw [hU], by rw [hU]; exact ho, va_K.moved hW.alike hK, hO.moved hW.alike⟩) rfl hl.1 rfl (Nat.le_of_ble_eq_true rfl) dL_build_4 ⟨Nat.le_of_ble_eq_true rfl, Nat.le_of_ble_eq_true rfl⟩ hS (fun q9 h9 => ?_) (fun v H1 locs hv kq hS => ?_)
  · rcases h9 with rfl | h9
    · exact la0
    · show sz ≤ q9; omega
  obtain ⟨rfl, A, eA, hA1, hA2, hQX⟩ := hv
  have hP : va_P D vwCl (w0 ci cz q 0 0 (fun _ _ => 0)) H1 := kq.P hP (fun k r hr9 => by
    obtain ⟨h1, h2⟩ := w0r_fst hr9
    have := hql k h1
    rintro (h9 | h9) <;> omega)
  have hA9 : ∀ i, sV 0 0 i → a0 ≤ A i := fun i hi => by
    by_cases h : i = 0
    · rw [h, eA]; exact Nat.le_refl _
    · have := hA2 i (by omega) hi; omega
  have hAD : AD q sz A 0 0 := ⟨hA1, fun i hi => ⟨by have := hA9 i hi; omega, fun k hk => by have := hA9 i hi; have := hql k hk; omega⟩⟩
  rw [← eA]
  refine lv_astore_n (lv' := [(2, .ref (A 0)), (0, .ref (q 0)), (1, .ref b)]) hx hb dL_build_7 rfl hl (by decide) rfl (fun ls hl => ?_)
  refine lv_iconst (v := nI 0) hx hb dL_build_8 (by decide) ?_
  refine lv_istore_n (lv' := [(3, .int (nI 0)), (2, .ref (A 0)), (0, .ref (q 0)), (1, .ref b)]) hx hb dL_build_9 rfl hl (by decide) rfl (fun ls hl => ?_)
  obtain ⟨z, hz4, ez⟩ : ∃ z, z < 4 ∧ bw (cV xs L 0) 4 = z := ⟨_, bw_lt (by omega), rfl⟩
  refine mloop (nL := 11) (N := 1 + z) 9 306 (fun _ => True) (fun i H lv => ∃ A g, lv = [(0, .ref (q 0)), (1, .ref b), (2, .ref (A 0)), (3, .int (nI i))] ∧ AD q sz A i 0 ∧ Ix 0 i 0 g ∧ (∀ p, g 3 p = 0) ∧ va_P D vwCl (w0 ci cz q i 0 g) H ∧ SS D ci cj A i 0 g H) (fun _ _ => True) trivial trivial hS (lv0 := [(0, .ref (q 0)), (1, .ref b), (2, .ref (A 0)), (3, .int (nI 0))]) ⟨A, fun _ _ => 0, rfl, hAD, ix_0, fun _ => rfl, hP, hQX⟩ (lv_sub hl [2, 3, 1, 0] rfl) ?_ ?_
  · intro _ H locs ls lv _ hS hLv hl
    obtain ⟨A, g, rfl, hAD, hI, hlv, hP, hQX⟩ := hLv
    obtain ⟨F, eF⟩ : ∃ F, F = 1 + z := ⟨_, rfl⟩
    rw [← eF] at hAD hI hP hQX hl ⊢
    have hFb := hI.b.1
    refine lv_iload_n hx hb dL_build_10 rfl (lv_at hl 3 rfl) ?_
    refine lv_iconst (v := nI 1) hx hb dL_build_11 (by decide) ?_
    refine lv_aload_n hx hb dL_build_12 rfl (lv_at hl 1 rfl) ?_
    refine lv_iconst (v := nI 0) hx hb dL_build_13 (by decide) ?_
    refine r_callRS (rest := [.int (nI 1), .int (nI F)]) Fx (m_L_cell l b L xs 0 hLL (by omega)) (va_cwS 2 Fx.2.2.2.2 gL_build_L_cell rfl rfl rfl (by decide +kernel) ⟨Nat.le_of_ble_eq_true rfl, Nat.le_of_ble_eq_true rfl⟩) XB.bl (XB.at hX hbz hS) rfl hl.1 rfl (Nat.le_of_ble_eq_true rfl) dL_build_14 ⟨by show _ ≤ 120; omega, by show _ ≤ 2200; omega⟩ ?_
    refine lv_iconst (v := nI 4) hx hb dL_build_17 (by decide) ?_
    refine r_callRS (rest := [.int (nI 1), .int (nI F)]) Fx (m_L_below l (cV xs L 0) 4 (by omega) (by omega)) (va_cwS 2 Fx.2.2.2.2 gL_build_L_below rfl rfl rfl (by decide +kernel) ⟨Nat.le_of_ble_eq_true rfl, Nat.le_of_ble_eq_true rfl⟩) (fun _ _ _ _ h => h) (fun _ _ _ => trivial) rfl hl.1 rfl (Nat.le_of_ble_eq_true rfl) dL_build_18 ⟨by show _ ≤ 120; omega, by show _ ≤ 2200; omega⟩ ?_
    rw [ez]
    refine r_iadd_n hx hb dL_build_21 ?_
    refine n_icmp_ge (tgt := 65) hx hb (by omega) (by omega) dL_build_22 (by decide) (fun h1 => ?_) (fun h1 => by omega)
    refine lv_iconst (v := nI 2) hx hb dL_build_65 (by decide) ?_
    refine lv_aload_n hx hb dL_build_66 rfl (lv_at hl 1 rfl) ?_
    refine lv_iconst (v := nI 0) hx hb dL_build_67 (by decide) ?_
    refine r_callRS (rest := [.int (nI 2)]) Fx (m_L_cell l b L xs 0 hLL (by omega)) (va_cwS 2 Fx.2.2.2.2 gL_build_L_cell rfl rfl rfl (by decide +kernel) ⟨Nat.le_of_ble_eq_true rfl, Nat.le_of_ble_eq_true rfl⟩) XB.bl (XB.at hX hbz hS) rfl hl.1 rfl (Nat.le_of_ble_eq_true rfl) dL_build_68 ⟨by show _ ≤ 120; omega, by show _ ≤ 2200; omega⟩ ?_
    refine lv_iconst (v := nI 4) hx hb dL_build_71 (by decide) ?_
    refine lv_ishr hx hb dL_build_72 ?_
    refine lv_bipush (v := nI 9) hx hb dL_build_73 (by decide) ?_
    refine r_callRS (rest := [.int (nI 2)]) Fx (m_L_below l ((cV xs L 0) >>> ((nI 4) &&& 31)) 9 (by omega) (by omega)) (va_cwS 2 Fx.2.2.2.2 gL_build_L_below rfl rfl rfl (by decide +kernel) ⟨Nat.le_of_ble_eq_true rfl, Nat.le_of_ble_eq_true rfl⟩) (fun _ _ _ _ h => h) (fun _ _ _ => trivial) rfl hl.1 rfl (Nat.le_of_ble_eq_true rfl) dL_build_75 ⟨by show _ ≤ 120; omega, by show _ ≤ 2200; omega⟩ ?_
    obtain ⟨z1, hz1, ez1⟩ : ∃ j, j < 9 ∧ bw ((cV xs L 0) >>> ((nI 4) &&& 31)) 9 = j := ⟨_, bw_lt (by omega), rfl⟩
    rw [ez1]
    refine r_iadd_n hx hb dL_build_78 ?_
    refine lv_istore_n (lv' := [(3, .int (nI (2 + z1))), (0, .ref (q 0)), (1, .ref b), (2, .ref (A 0))]) hx hb dL_build_79 rfl hl (by decide) rfl (fun ls hl => ?_)
    refine lv_iconst (v := nI 0) hx hb dL_build_80 (by decide) ?_
    refine lv_istore (lv' := [(4, .int (nI 0)), (3, .int (nI (2 + z1))), (0, .ref (q 0)), (1, .ref b), (2, .ref (A 0))]) hx hb dL_build_81 hl (by decide) rfl (fun ls hl => ?_)
    obtain ⟨np, enp⟩ : ∃ np, np = 2 + z1 := ⟨_, rfl⟩
    rw [← enp] at hl
    have hnp : np ≤ 10 := by omega
    refine mloop (nL := 11) (N := np) 3 23 (fun _ => True) (fun i H lv => ∃ A g, lv = [(0, .ref (q 0)), (1, .ref b), (2, .ref (A 0)), (3, .int (nI np)), (4, .int (nI i))] ∧ AD q sz A F i ∧ Ix 0 F i g ∧ (∀ p, g 3 p = 0) ∧ va_P D vwCl (w0 ci cz q F i g) H ∧ SS D ci cj A F i g H) (fun _ _ => True) trivial trivial hS (lv0 := [(0, .ref (q 0)), (1, .ref b), (2, .ref (A 0)), (3, .int (nI np)), (4, .int (nI 0))]) ⟨A, g, rfl, hAD, hI, hlv, hP, hQX⟩ (lv_sub hl [2, 3, 4, 1, 0] rfl) ?_ ?_
    · intro _ H locs ls lv _ hS hLv hl
      obtain ⟨A, g, rfl, hAD, hI, hlv, hP, hQX⟩ := hLv
      have hPb := hI.b.2
      refine lv_iload hx hb dL_build_83 (lv_at hl 4 rfl) ?_
      refine lv_iload_n hx hb dL_build_85 rfl (lv_at hl 3 rfl) ?_
      refine n_icmp_ge (tgt := 167) hx hb (by omega) (by omega) dL_build_86 (by decide) (fun h2 => ?_) (fun h2 => by omega)
      refine lv_iconst (v := nI 0) hx hb dL_build_167 (by decide) ?_
      refine lv_istore (lv' := [(4, .int (nI 0)), (0, .ref (q 0)), (1, .ref b), (2, .ref (A 0)), (3, .int (nI np))]) hx hb dL_build_168 hl (by decide) rfl (fun ls hl => ?_)
      refine mloop (nL := 11) (N := 12) 2 12 (fun _ => True) (fun i H lv => ∃ A g, lv = [(0, .ref (q 0)), (1, .ref b), (2, .ref (A 0)), (3, .int (nI np)), (4, .int (nI i))] ∧ AD q sz A F np ∧ Ix 0 F np g ∧ (∀ p, g 3 p = 0) ∧ va_P D vwCl (w0 ci cz q F np g) H ∧ SS D ci cj A F np g H) (fun _ _ => True) trivial trivial hS (lv0 := [(0, .ref (q 0)), (1, .ref b), (2, .ref (A 0)), (3, .int (nI np)), (4, .int (nI 0))]) ⟨A, g, rfl, hAD, hI, hlv, hP, hQX⟩ (lv_sub hl [1, 2, 3, 4, 0] rfl) ?_ ?_
      · intro _ H locs ls lv _ hS hLv hl
        obtain ⟨A, g, rfl, hAD, hI, hlv, hP, hQX⟩ := hLv
        refine lv_iload hx hb dL_build_170 (lv_at hl 4 rfl) ?_
        refine lv_bipush (v := nI 12) hx hb dL_build_172 (by decide) ?_
        refine n_icmp_ge (tgt := 361) hx hb (by omega) (by omega) dL_build_174 (by decide) (fun h3 => ?_) (fun h3 => by omega)
        refine lv_aload_n hx hb dL_build_361 rfl (lv_at hl 2 rfl) ?_
        exact m_aret hx hb hr (Or.inl ⟨_, rfl⟩) hlocks hS ⟨A, _, _, g, rfl, hAD, hI, by omega, by omega, hP, hQX⟩ (by omega) (by omega) dL_build_362
      · intro i hi _ ih H locs ls lv _ hS hLv hl
        obtain ⟨A, g, rfl, hAD, hI, hlv, hP, hQX⟩ := hLv
        exact bG (np := np) (z := z) hl0 Fx hL hX hbz hLL hq hqs hsz (by omega) (by omega) hAD hI hlv hP hQX hS hl hi (by omega) (by omega) (fun A' g' H locs ls hAD hI hlv hP hQX hS hl => ih trivial H locs ls _ trivial hS ⟨A', g', rfl, hAD, hI, hlv, hP, hQX⟩ hl)
    · intro i hi _ ih H locs ls lv _ hS hLv hl
      obtain ⟨A, g, rfl, hAD, hI, hlv, hP, hQX⟩ := hLv
      exact bP (z := z) (P := 0) hl0 Fx hL hX hbz hLL hq hqs hsz (by omega) (by omega) hAD hI hlv hP hQX hS hl hi hnp (fun A' g' H locs ls hAD hI hlv hP hQX hS hl => ih trivial H locs ls _ trivial hS ⟨A', g', rfl, hAD, hI, hlv, hP, hQX⟩ hl)
  · intro i hi _ ih H locs ls lv _ hS hLv hl
    obtain ⟨A, g, rfl, hAD, hI, hlv, hP, hQX⟩ := hLv
    exact bF (np := 0) (F := 0) (P := 0) hl0 Fx hL hX hbz hLL hq hqs hsz (by omega) (by omega) hAD hI hlv hP hQX hS hl hz4 ez hi (fun A' g' H locs ls hAD hI hlv hP hQX hS hl => ih trivial H locs ls _ trivial hS ⟨A', g', rfl, hAD, hI, hlv, hP, hQX⟩ hl)
end BUILD
