/-! FerryRights, V: dying -/
set_option maxHeartbeats 4000000 in
set_option maxRecDepth 100000 in
theorem m_X0_hand (l : Launch) {D : va_G} {ci cz : ClassId} {cj : ClassId × ClassId} {q : Nat → Nat} {F P : Nat} {g : Nat → Nat → Int32} (hq : DQ q 8) (hF : F ≤ 6) (hP12 : P ≤ 12) (k : Nat) (o : Nat) (c : Nat) (pl : Nat) (ha0 : k < 12) (ha1 : o < 12) (ha2 : c ≤ 12) (ha3 : pl ≤ 12) : Met l yX0_hand wsX0_hand ({ frames := 2, cells := 0, slots := 0, locals := 46 } : Room) (va_Pc [.ref (q 0), .int (nI k), .int (nI o), .int (nI c), .int (nI pl)] (B0 D ci cz cj q F P g)) (WQ none (fun H => va_P D vwCl (w0 ci cz q F P (gHnd g F k o c pl)) H) (aw q 8)) 0 0 (aw q 8) := by
  refine Met.ofWr (cc := cX0_hand) (maxL := 7) (ret := none) (by decide) rfl (Nat.le_of_ble_eq_true rfl) ?_
  intro pg en s m bl mt cd ls Fx hr hlocks hB hl
  obtain ⟨hP, hK, hE⟩ := hB
  have hl : lv_has ls 7 [(0, .ref (q 0)), (1, .int (nI k)), (2, .int (nI o)), (3, .int (nI c)), (4, .int (nI pl))] := hl
  have Fx : CallFix pg m cd cX0_hand 7 s _ wsX0_hand RX0 := Fx
  have hx := Fx.1
  have hb := Fx.2.1
  have hin : ∀ w ∈ wsX00, w ∈ wsX0_hand := by decide +kernel
  have hS : va_S (aw q 8) s.heap s.heap [] := va_S.rf
  have hP : va_P D vwCl (w0 ci cz q F P g) s.heap := hP
  refine lv_iconst (v := nI 0) hx hb dX0_hand_0 (by decide) ?_
  refine lv_istore (lv' := [(5, .int (nI 0)), (0, .ref (q 0)), (1, .int (nI k)), (2, .int (nI o)), (3, .int (nI c)), (4, .int (nI pl))]) hx hb dX0_hand_1 hl (by decide) rfl (fun ls hl => ?_)
  refine wloop (nL := 7) (N := F) (fun _ => True) (fun i => [(0, .ref (q 0)), (1, .int (nI k)), (2, .int (nI o)), (3, .int (nI c)), (4, .int (nI pl)), (5, .int (nI i))]) (fun i H => va_P D vwCl (w0 ci cz q F P (gHf g k o c pl i)) H) (trivial) (hP) hS (lv_sub hl [1, 2, 3, 4, 5, 0] rfl) ?_ ?_
  · intro h1 H locs ls hP hS hl
    have hl : lv_has ls 7 [(0, .ref (q 0)), (1, .int (nI k)), (2, .int (nI o)), (3, .int (nI c)), (4, .int (nI pl)), (5, .int (nI F))] := hl
    have hP : va_P D vwCl (w0 ci cz q F P (gHf g k o c pl F)) H := hP
    refine lv_iload hx hb dX0_hand_3 (lv_at hl 5 rfl) ?_
    refine lv_aload_n hx hb dX0_hand_5 rfl (lv_at hl 0 rfl) ?_
    refine r_get Fx hin hK hP 0 rfl 0 (by decide) (by decide +kernel) rfl rfl dX0_hand_6 ?_
    refine n_icmp_ge (tgt := 57) hx hb (by omega) (by omega) dX0_hand_9 (by decide) (fun h2 => ?_) (fun h2 => by omega)
    refine lv_aload_n hx hb dX0_hand_57 rfl (lv_at hl 0 rfl) ?_
    refine lv_iload_n hx hb dX0_hand_58 rfl (lv_at hl 2 rfl) ?_
    refine lv_aload_n hx hb dX0_hand_59 rfl (lv_at hl 0 rfl) ?_
    refine r_get Fx hin hK hP 0 rfl 6 (by decide) (by decide +kernel) rfl rfl dX0_hand_60 ?_
    refine lv_iload_n hx hb dX0_hand_63 rfl (lv_at hl 1 rfl) ?_
    refine r_iald Fx hK hP 5 0 rfl rfl (i := k) (by omega) (by decide) dX0_hand_64 ?_
    refine lv_iload_n hx hb dX0_hand_65 rfl (lv_at hl 3 rfl) ?_
    refine lv_iload hx hb dX0_hand_66 (lv_at hl 4 rfl) ?_
    refine r_callRS (rest := [.int (nI o), .ref (q 0)]) Fx (m_X0_partOf l (D := D) (ci := ci) (cz := cz) (cj := cj) (q := q) (F := F) (P := P) (g := gHf g k o c pl F) hF hP12 ((gHf g k o c pl F) 4 k) c pl (by omega) (by omega)) (va_cwS 3 Fx.2.2.2.2 gX0_hand_X0_partOf rfl rfl rfl (by decide +kernel) ⟨Nat.le_of_ble_eq_true rfl, Nat.le_of_ble_eq_true rfl⟩) BW.bl (BW.at hP hK hE hS) rfl hl.1 rfl (Nat.le_of_ble_eq_true rfl) dX0_hand_68 ⟨Nat.zero_le _, Nat.zero_le _⟩ ?_
    refine r_callW (rest := []) Fx (m_X0_addCoins l (D := D) (ci := ci) (cz := cz) (cj := cj) (q := q) (F := F) (P := P) (g := gHf g k o c pl F) hq hF hP12 o (sPar ((gHf g k o c pl F) 4 k) c pl) (by omega)) (cwV 2 Fx.2.2.2.2 gX0_hand_X0_addCoins rfl rfl rfl (by decide +kernel) ⟨Nat.le_of_ble_eq_true rfl, Nat.le_of_ble_eq_true rfl⟩) BW.bl (va_recv hK hP (ci := 0) (q0 := 0) rfl rfl) (BW.at hP hK hE hS) rfl hl.1 rfl (Nat.le_of_ble_eq_true rfl) dX0_hand_71 ⟨Nat.zero_le _, Nat.zero_le _⟩ hS (fun _ h => h) (fun H locs hP hS _ _ => ?_)
    have hP : va_P D vwCl (w0 ci cz q F P (gGet (gHf g k o c pl F) o (sPar ((gHf g k o c pl F) 4 k) c pl))) H := hP
    exact w_vret hx hb hr hlocks hS (hP) dX0_hand_74
  · intro i h4 h3 ih3 H locs ls hP hS hl
    have hl : lv_has ls 7 [(0, .ref (q 0)), (1, .int (nI k)), (2, .int (nI o)), (3, .int (nI c)), (4, .int (nI pl)), (5, .int (nI i))] := hl
    have hP : va_P D vwCl (w0 ci cz q F P (gHf g k o c pl i)) H := hP
    refine lv_iload hx hb dX0_hand_3 (lv_at hl 5 rfl) ?_
    refine lv_aload_n hx hb dX0_hand_5 rfl (lv_at hl 0 rfl) ?_
    refine r_get Fx hin hK hP 0 rfl 0 (by decide) (by decide +kernel) rfl rfl dX0_hand_6 ?_
    refine n_icmp_ge (tgt := 57) hx hb (by omega) (by omega) dX0_hand_9 (by decide) (fun h5 => by omega) (fun h5 => ?_)
    refine lv_iconst (v := nI 0) hx hb dX0_hand_12 (by decide) ?_
    refine lv_istore (lv' := [(6, .int (nI 0)), (0, .ref (q 0)), (1, .int (nI k)), (2, .int (nI o)), (3, .int (nI c)), (4, .int (nI pl)), (5, .int (nI i))]) hx hb dX0_hand_13 hl (by decide) rfl (fun ls hl => ?_)
    refine wloop (nL := 7) (N := 4) (fun _ => True) (fun i' => [(0, .ref (q 0)), (1, .int (nI k)), (2, .int (nI o)), (3, .int (nI c)), (4, .int (nI pl)), (5, .int (nI i)), (6, .int (nI i'))]) (fun i' H => va_P D vwCl (w0 ci cz q F P (gHw (gHf g k o c pl i) i k o c pl i')) H) (trivial) (hP) hS (lv_sub hl [1, 2, 3, 4, 5, 6, 0] rfl) ?_ ?_
    · intro h6 H locs ls hP hS hl
      have hl : lv_has ls 7 [(0, .ref (q 0)), (1, .int (nI k)), (2, .int (nI o)), (3, .int (nI c)), (4, .int (nI pl)), (5, .int (nI i)), (6, .int (nI 4))] := hl
      have hP : va_P D vwCl (w0 ci cz q F P (gHw (gHf g k o c pl i) i k o c pl 4)) H := hP
      refine lv_iload hx hb dX0_hand_15 (lv_at hl 6 rfl) ?_
      refine lv_iconst (v := nI 4) hx hb dX0_hand_17 (by decide) ?_
      refine n_icmp_ge (tgt := 51) hx hb (by omega) (by omega) dX0_hand_18 (by decide) (fun h7 => ?_) (fun h7 => by omega)
      refine lv_iinc (v := nI (i + 1)) (lv' := [(5, .int (nI (i + 1))), (0, .ref (q 0)), (1, .int (nI k)), (2, .int (nI o)), (3, .int (nI c)), (4, .int (nI pl)), (6, .int (nI 4))]) hx hb dX0_hand_51 hl (k := 5) rfl (nI_inc _ 1) (by decide) rfl (fun ls hl => ?_)
      refine lv_goto (tgt := 3) hx hb dX0_hand_54 (by decide) ?_
      exact ih3 (trivial) _ _ _ (hP) hS (lv_sub hl [1, 2, 3, 4, 5, 0] rfl)
    · intro i' h9 h8 ih15 H locs ls hP hS hl
      have hl : lv_has ls 7 [(0, .ref (q 0)), (1, .int (nI k)), (2, .int (nI o)), (3, .int (nI c)), (4, .int (nI pl)), (5, .int (nI i)), (6, .int (nI i'))] := hl
      have hP : va_P D vwCl (w0 ci cz q F P (gHw (gHf g k o c pl i) i k o c pl i')) H := hP
      refine lv_iload hx hb dX0_hand_15 (lv_at hl 6 rfl) ?_
      refine lv_iconst (v := nI 4) hx hb dX0_hand_17 (by decide) ?_
      refine n_icmp_ge (tgt := 51) hx hb (by omega) (by omega) dX0_hand_18 (by decide) (fun h10 => by omega) (fun h10 => ?_)
      refine lv_aload_n hx hb dX0_hand_21 rfl (lv_at hl 0 rfl) ?_
      refine lv_iload hx hb dX0_hand_22 (lv_at hl 5 rfl) ?_
      refine lv_iload hx hb dX0_hand_24 (lv_at hl 6 rfl) ?_
      refine lv_iload_n hx hb dX0_hand_26 rfl (lv_at hl 2 rfl) ?_
      refine lv_aload_n hx hb dX0_hand_27 rfl (lv_at hl 0 rfl) ?_
      refine lv_iload hx hb dX0_hand_28 (lv_at hl 5 rfl) ?_
      refine lv_iload hx hb dX0_hand_30 (lv_at hl 6 rfl) ?_
      refine lv_iload_n hx hb dX0_hand_32 rfl (lv_at hl 1 rfl) ?_
      refine r_callR (rest := [.int (nI o), .int (nI i'), .int (nI i), .ref (q 0)]) Fx (m_X0_owns l (D := D) (ci := ci) (cz := cz) (cj := cj) (q := q) (F := F) (P := P) (g := gHw (gHf g k o c pl i) i k o c pl i') hF hP12 i i' k (by omega) (by omega) (by omega)) (cwV 3 Fx.2.2.2.2 gX0_hand_X0_owns rfl rfl rfl (by decide +kernel) ⟨Nat.le_of_ble_eq_true rfl, Nat.le_of_ble_eq_true rfl⟩) BW.bl (va_recv hK hP (ci := 0) (q0 := 0) rfl rfl) (BW.at hP hK hE hS) rfl hl.1 rfl (Nat.le_of_ble_eq_true rfl) dX0_hand_33 ⟨Nat.zero_le _, Nat.zero_le _⟩ ?_
      refine lv_iload_n hx hb dX0_hand_36 rfl (lv_at hl 3 rfl) ?_
      refine lv_iload hx hb dX0_hand_37 (lv_at hl 4 rfl) ?_
      refine r_callRS (rest := [.int (nI o), .int (nI i'), .int (nI i), .ref (q 0)]) Fx (m_X0_partOf l (D := D) (ci := ci) (cz := cz) (cj := cj) (q := q) (F := F) (P := P) (g := gHw (gHf g k o c pl i) i k o c pl i') hF hP12 (own (gHw (gHf g k o c pl i) i k o c pl i') i i' k) c pl (by omega) (by omega)) (va_cwS 3 Fx.2.2.2.2 gX0_hand_X0_partOf rfl rfl rfl (by decide +kernel) ⟨Nat.le_of_ble_eq_true rfl, Nat.le_of_ble_eq_true rfl⟩) BW.bl (BW.at hP hK hE hS) rfl hl.1 rfl (Nat.le_of_ble_eq_true rfl) dX0_hand_39 ⟨Nat.zero_le _, Nat.zero_le _⟩ ?_
      refine r_callW (rest := []) Fx (m_X0_addShares l (D := D) (ci := ci) (cz := cz) (cj := cj) (q := q) (F := F) (P := P) (g := gHw (gHf g k o c pl i) i k o c pl i') hq hF hP12 i i' o (sPar (own (gHw (gHf g k o c pl i) i k o c pl i') i i' k) c pl) (by omega) (by omega) (by omega)) (cwV 4 Fx.2.2.2.2 gX0_hand_X0_addShares rfl rfl rfl (by decide +kernel) ⟨Nat.le_of_ble_eq_true rfl, Nat.le_of_ble_eq_true rfl⟩) BW.bl (va_recv hK hP (ci := 0) (q0 := 0) rfl rfl) (BW.at hP hK hE hS) rfl hl.1 rfl (Nat.le_of_ble_eq_true rfl) dX0_hand_42 ⟨Nat.zero_le _, Nat.zero_le _⟩ hS (fun _ h => h) (fun H locs hP hS _ _ => ?_)
      have hP : va_P D vwCl (w0 ci cz q F P (gAdd (gHw (gHf g k o c pl i) i k o c pl i') i i' o (sPar (own (gHw (gHf g k o c pl i) i k o c pl i') i i' k) c pl))) H := hP
      refine lv_iinc (v := nI (i' + 1)) (lv' := [(6, .int (nI (i' + 1))), (0, .ref (q 0)), (1, .int (nI k)), (2, .int (nI o)), (3, .int (nI c)), (4, .int (nI pl)), (5, .int (nI i))]) hx hb dX0_hand_45 hl (k := 6) rfl (nI_inc _ 1) (by decide) rfl (fun ls hl => ?_)
      refine lv_goto (tgt := 15) hx hb dX0_hand_48 (by decide) ?_
      exact ih15 (trivial) _ _ _ (hP) hS (lv_sub hl [1, 2, 3, 4, 5, 6, 0] rfl)
set_option maxHeartbeats 4000000 in
set_option maxRecDepth 100000 in
theorem m_X0_bury (l : Launch) {D : va_G} {ci cz : ClassId} {cj : ClassId × ClassId} {q : Nat → Nat} {F P : Nat} {g : Nat → Nat → Int32} (hq : DQ q 8) (hF : F ≤ 6) (hP12 : P ≤ 12) (k : Nat) (ha0 : k < 12) : Met l yX0_bury wsX0_bury ({ frames := 1, cells := 0, slots := 0, locals := 22 } : Room) (va_Pc [.ref (q 0), .int (nI k)] (B0 D ci cz cj q F P g)) (WQ none (fun H => va_P D vwCl (w0 ci cz q F P (gBur g F k)) H) (aw q 8)) 0 0 (aw q 8) := by
  refine Met.ofWr (cc := cX0_bury) (maxL := 4) (ret := none) (by decide) rfl (Nat.le_of_ble_eq_true rfl) ?_
  intro pg en s m bl mt cd ls Fx hr hlocks hB hl
  obtain ⟨hP, hK, hE⟩ := hB
  have hl : lv_has ls 4 [(0, .ref (q 0)), (1, .int (nI k))] := hl
  have Fx : CallFix pg m cd cX0_bury 4 s _ wsX0_bury RX0 := Fx
  have hx := Fx.1
  have hb := Fx.2.1
  have hin : ∀ w ∈ wsX00, w ∈ wsX0_bury := by decide +kernel
  have hS : va_S (aw q 8) s.heap s.heap [] := va_S.rf
  have hP : va_P D vwCl (w0 ci cz q F P g) s.heap := hP
  refine lv_iconst (v := nI 0) hx hb dX0_bury_0 (by decide) ?_
  refine lv_istore_n (lv' := [(2, .int (nI 0)), (0, .ref (q 0)), (1, .int (nI k))]) hx hb dX0_bury_1 rfl hl (by decide) rfl (fun ls hl => ?_)
  refine wloop (nL := 4) (N := F) (fun _ => True) (fun i => [(0, .ref (q 0)), (1, .int (nI k)), (2, .int (nI i))]) (fun i H => va_P D vwCl (w0 ci cz q F P (gBf g k i)) H) (trivial) (hP) hS (lv_sub hl [1, 2, 0] rfl) ?_ ?_
  · intro h1 H locs ls hP hS hl
    have hl : lv_has ls 4 [(0, .ref (q 0)), (1, .int (nI k)), (2, .int (nI F))] := hl
    have hP : va_P D vwCl (w0 ci cz q F P (gBf g k F)) H := hP
    refine lv_iload_n hx hb dX0_bury_2 rfl (lv_at hl 2 rfl) ?_
    refine lv_aload_n hx hb dX0_bury_3 rfl (lv_at hl 0 rfl) ?_
    refine r_get Fx hin hK hP 0 rfl 0 (by decide) (by decide +kernel) rfl rfl dX0_bury_4 ?_
    refine n_icmp_ge (tgt := 41) hx hb (by omega) (by omega) dX0_bury_7 (by decide) (fun h2 => ?_) (fun h2 => by omega)
    refine lv_aload_n hx hb dX0_bury_41 rfl (lv_at hl 0 rfl) ?_
    refine r_get Fx hin hK hP 0 rfl 6 (by decide) (by decide +kernel) rfl rfl dX0_bury_42 ?_
    refine lv_iload_n hx hb dX0_bury_45 rfl (lv_at hl 1 rfl) ?_
    refine lv_iconst (v := nI 0) hx hb dX0_bury_46 (by decide) ?_
    refine r_iast Fx hK hP (d0 hq) hS 5 0 rfl rfl (i := k) (by omega) (by decide) dX0_bury_47 (fun H locs hP hS => ?_)
    have hP : va_P D vwCl (w0 ci cz q F P (va_up (gBf g k F) 4 (upd ((gBf g k F) 4) k (nI 0)))) H := hP
    refine lv_aload_n hx hb dX0_bury_48 rfl (lv_at hl 0 rfl) ?_
    refine r_get Fx hin hK hP 0 rfl 5 (by decide) (by decide +kernel) rfl rfl dX0_bury_49 ?_
    refine lv_iload_n hx hb dX0_bury_52 rfl (lv_at hl 1 rfl) ?_
    refine lv_iconst (v := nI 0) hx hb dX0_bury_53 (by decide) ?_
    refine r_zast Fx hK hP (d0 hq) hS 4 1 rfl rfl (i := k) (by omega) (by decide) rfl dX0_bury_54 (fun H locs hP hS => ?_)
    have hP : va_P D vwCl (w0r ci cz q F P (upd (alv P (va_up (gBf g k F) 4 (upd ((gBf g k F) 4) k (nI 0)) 3)) k (nI 0)) (va_up (gBf g k F) 4 (upd ((gBf g k F) 4) k (nI 0)))) H := hP
    exact w_vret hx hb hr hlocks hS (by rw [bury_w] at hP; exact hP) dX0_bury_55
  · intro i h4 h3 ih2 H locs ls hP hS hl
    have hl : lv_has ls 4 [(0, .ref (q 0)), (1, .int (nI k)), (2, .int (nI i))] := hl
    have hP : va_P D vwCl (w0 ci cz q F P (gBf g k i)) H := hP
    refine lv_iload_n hx hb dX0_bury_2 rfl (lv_at hl 2 rfl) ?_
    refine lv_aload_n hx hb dX0_bury_3 rfl (lv_at hl 0 rfl) ?_
    refine r_get Fx hin hK hP 0 rfl 0 (by decide) (by decide +kernel) rfl rfl dX0_bury_4 ?_
    refine n_icmp_ge (tgt := 41) hx hb (by omega) (by omega) dX0_bury_7 (by decide) (fun h5 => by omega) (fun h5 => ?_)
    refine lv_iconst (v := nI 0) hx hb dX0_bury_10 (by decide) ?_
    refine lv_istore_n (lv' := [(3, .int (nI 0)), (0, .ref (q 0)), (1, .int (nI k)), (2, .int (nI i))]) hx hb dX0_bury_11 rfl hl (by decide) rfl (fun ls hl => ?_)
    refine wloop (nL := 4) (N := 4) (fun _ => True) (fun i' => [(0, .ref (q 0)), (1, .int (nI k)), (2, .int (nI i)), (3, .int (nI i'))]) (fun i' H => va_P D vwCl (w0 ci cz q F P (gBw (gBf g k i) i k i')) H) (trivial) (hP) hS (lv_sub hl [1, 2, 3, 0] rfl) ?_ ?_
    · intro h6 H locs ls hP hS hl
      have hl : lv_has ls 4 [(0, .ref (q 0)), (1, .int (nI k)), (2, .int (nI i)), (3, .int (nI 4))] := hl
      have hP : va_P D vwCl (w0 ci cz q F P (gBw (gBf g k i) i k 4)) H := hP
      refine lv_iload_n hx hb dX0_bury_12 rfl (lv_at hl 3 rfl) ?_
      refine lv_iconst (v := nI 4) hx hb dX0_bury_13 (by decide) ?_
      refine n_icmp_ge (tgt := 35) hx hb (by omega) (by omega) dX0_bury_14 (by decide) (fun h7 => ?_) (fun h7 => by omega)
      refine lv_iinc (v := nI (i + 1)) (lv' := [(2, .int (nI (i + 1))), (0, .ref (q 0)), (1, .int (nI k)), (3, .int (nI 4))]) hx hb dX0_bury_35 hl (k := 2) rfl (nI_inc _ 1) (by decide) rfl (fun ls hl => ?_)
      refine lv_goto (tgt := 2) hx hb dX0_bury_38 (by decide) ?_
      exact ih2 (trivial) _ _ _ (hP) hS (lv_sub hl [1, 2, 0] rfl)
    · intro i' h9 h8 ih12 H locs ls hP hS hl
      have hl : lv_has ls 4 [(0, .ref (q 0)), (1, .int (nI k)), (2, .int (nI i)), (3, .int (nI i'))] := hl
      have hP : va_P D vwCl (w0 ci cz q F P (gBw (gBf g k i) i k i')) H := hP
      refine lv_iload_n hx hb dX0_bury_12 rfl (lv_at hl 3 rfl) ?_
      refine lv_iconst (v := nI 4) hx hb dX0_bury_13 (by decide) ?_
      refine n_icmp_ge (tgt := 35) hx hb (by omega) (by omega) dX0_bury_14 (by decide) (fun h10 => by omega) (fun h10 => ?_)
      refine lv_aload_n hx hb dX0_bury_17 rfl (lv_at hl 0 rfl) ?_
      refine r_get Fx hin hK hP 0 rfl 3 (by decide) (by decide +kernel) rfl rfl dX0_bury_18 ?_
      refine lv_iload_n hx hb dX0_bury_21 rfl (lv_at hl 2 rfl) ?_
      refine lv_iload_n hx hb dX0_bury_22 rfl (lv_at hl 3 rfl) ?_
      refine lv_iload_n hx hb dX0_bury_23 rfl (lv_at hl 1 rfl) ?_
      refine r_callRS (rest := [.ref (q 3)]) Fx (m_X0_slot l (D := D) (ci := ci) (cz := cz) (cj := cj) (q := q) (F := F) (P := P) (g := gBw (gBf g k i) i k i') hF hP12 i i' k ) (va_cwS 3 Fx.2.2.2.2 gX0_bury_X0_slot rfl rfl rfl (by decide +kernel) ⟨Nat.le_of_ble_eq_true rfl, Nat.le_of_ble_eq_true rfl⟩) BW.bl (BW.at hP hK hE hS) rfl hl.1 rfl (Nat.le_of_ble_eq_true rfl) dX0_bury_24 ⟨Nat.zero_le _, Nat.zero_le _⟩ ?_
      refine lv_iconst (v := nI 0) hx hb dX0_bury_27 (by decide) ?_
      refine r_iast Fx hK hP (d0 hq) hS 3 0 rfl rfl (i := sl i i' k) (sl_lt (by omega) (by omega) (by omega)) (by decide) dX0_bury_28 (fun H locs hP hS => ?_)
      have hP : va_P D vwCl (w0 ci cz q F P (va_up (gBw (gBf g k i) i k i') 2 (upd ((gBw (gBf g k i) i k i') 2) (sl i i' k) (nI 0)))) H := hP
      refine lv_iinc (v := nI (i' + 1)) (lv' := [(3, .int (nI (i' + 1))), (0, .ref (q 0)), (1, .int (nI k)), (2, .int (nI i))]) hx hb dX0_bury_29 hl (k := 3) rfl (nI_inc _ 1) (by decide) rfl (fun ls hl => ?_)
      refine lv_goto (tgt := 12) hx hb dX0_bury_32 (by decide) ?_
      exact ih12 (trivial) _ _ _ (hP) hS (lv_sub hl [1, 2, 3, 0] rfl)
set_option maxHeartbeats 4000000 in
set_option maxRecDepth 100000 in
theorem m_X0_die (l : Launch) (hl0 : l.stackTraces = false) {D : va_G} {ci cz : ClassId} {cj : ClassId × ClassId} {q : Nat → Nat} {F P : Nat} {g : Nat → Nat → Int32} (hq : DQ q 8) (hF : F ≤ 6) (hP12 : P ≤ 12) (a : Int32) : vx_Met l yX0_die wsX0_die ({ frames := 7, cells := 1, slots := 6, locals := 103 } : Room) (va_Pc [.ref (q 0), .int a] (B0 D ci cz cj q F P g)) (PQ (k_die P g a) (some (.int (nI (sCHe g P (ix a))))) (fun H => va_P D vwCl (w0 ci cz q F P (gDie g F P (ix a))) H) (aw q 8)) (PX (k_die P g a) [xIO, xIS]) 1 6 (aw q 8) := by
  refine vx_ofX (cc := cX0_die) (maxL := 5) (ret := (some .int)) (by decide) rfl (Nat.le_of_ble_eq_true rfl) ?_
  intro pg en s m bl mt cd ls Fx hr hlocks hex hB hl
  obtain ⟨hP, hK, hE⟩ := hB
  have hl : lv_has ls 5 [(0, .ref (q 0)), (1, .int a)] := hl
  have Fx : CallFix pg m cd cX0_die 5 s _ wsX0_die RX0 := Fx
  have hx := Fx.1
  have hb := Fx.2.1
  have hin : ∀ w ∈ wsX00, w ∈ wsX0_die := by decide +kernel
  have hS : va_S (aw q 8) s.heap s.heap [] := va_S.rf
  have hP : va_P D vwCl (w0 ci cz q F P g) s.heap := hP
  refine lv_aload_n hx hb dX0_die_0 rfl (lv_at hl 0 rfl) ?_
  refine lv_iload_n hx hb dX0_die_1 rfl (lv_at hl 1 rfl) ?_
  by_cases h1 : inR a P
  rotate_left
  · refine r_callX (rest := []) Fx (m_X0_needPerson_x l hl0 (D := D) (ci := ci) (cz := cz) (cj := cj) (q := q) (F := F) (P := P) (g := g) hF hP12 a h1) (cwV 1 Fx.2.2.2.2 gX0_die_X0_needPerson rfl rfl rfl (by decide +kernel) ⟨Nat.le_of_ble_eq_true rfl, Nat.le_of_ble_eq_true rfl⟩) BW.bl (va_recv hK hP (ci := 0) (q0 := 0) rfl rfl) (BW.at hP hK hE hS) rfl hl.1 rfl (Nat.le_of_ble_eq_true rfl) dX0_die_2 ⟨Nat.le_of_ble_eq_true rfl, Nat.le_of_ble_eq_true rfl⟩ (fun ce q9 H1 hh hce hcv hcl => ?_)
    exact p_out hex hlocks hh hce hcv hcl ⟨0, (by simp [k_die, inR, inB, h1]), rfl⟩ (Nat.le_refl _) (Nat.le_refl _)
  obtain ⟨ja, h2, rfl⟩ := inR_of h1 (by omega)
  have h3 : ix (nI ja) = ja := ix_nI (by omega)
  refine r_callR (rest := []) Fx (m_X0_needPerson l (D := D) (ci := ci) (cz := cz) (cj := cj) (q := q) (F := F) (P := P) (g := g) hF hP12 ja (by omega)) (cwV 1 Fx.2.2.2.2 gX0_die_X0_needPerson rfl rfl rfl (by decide +kernel) ⟨Nat.le_of_ble_eq_true rfl, Nat.le_of_ble_eq_true rfl⟩) BW.bl (va_recv hK hP (ci := 0) (q0 := 0) rfl rfl) (BW.at hP hK hE hS) rfl hl.1 rfl (Nat.le_of_ble_eq_true rfl) dX0_die_2 ⟨Nat.zero_le _, Nat.zero_le _⟩ ?_
  refine lv_aload_n hx hb dX0_die_5 rfl (lv_at hl 0 rfl) ?_
  refine lv_iload_n hx hb dX0_die_6 rfl (lv_at hl 1 rfl) ?_
  by_cases h4 : lv g ja = true
  rotate_left
  · refine r_callX (rest := []) Fx (m_X0_needAlive_x l hl0 (D := D) (ci := ci) (cz := cz) (cj := cj) (q := q) (F := F) (P := P) (g := g) hF hP12 ja (by omega) h4) (cwV 1 Fx.2.2.2.2 gX0_die_X0_needAlive rfl rfl rfl (by decide +kernel) ⟨Nat.le_of_ble_eq_true rfl, Nat.le_of_ble_eq_true rfl⟩) BW.bl (va_recv hK hP (ci := 0) (q0 := 0) rfl rfl) (BW.at hP hK hE hS) rfl hl.1 rfl (Nat.le_of_ble_eq_true rfl) dX0_die_7 ⟨Nat.le_of_ble_eq_true rfl, Nat.le_of_ble_eq_true rfl⟩ (fun ce q9 H1 hh hce hcv hcl => ?_)
    exact p_out hex hlocks hh hce hcv hcl ⟨1, (by simp [k_die, inR, inB, h1, h2, h3, h4]), rfl⟩ (Nat.le_refl _) (Nat.le_refl _)
  refine r_callR (rest := []) Fx (m_X0_needAlive l (D := D) (ci := ci) (cz := cz) (cj := cj) (q := q) (F := F) (P := P) (g := g) hF hP12 ja (by omega) h4) (cwV 1 Fx.2.2.2.2 gX0_die_X0_needAlive rfl rfl rfl (by decide +kernel) ⟨Nat.le_of_ble_eq_true rfl, Nat.le_of_ble_eq_true rfl⟩) BW.bl (va_recv hK hP (ci := 0) (q0 := 0) rfl rfl) (BW.at hP hK hE hS) rfl hl.1 rfl (Nat.le_of_ble_eq_true rfl) dX0_die_7 ⟨Nat.zero_le _, Nat.zero_le _⟩ ?_
  refine lv_aload_n hx hb dX0_die_10 rfl (lv_at hl 0 rfl) ?_
  refine lv_iload_n hx hb dX0_die_11 rfl (lv_at hl 1 rfl) ?_
  refine r_callR (rest := []) Fx (m_X0_countHeirs l (D := D) (ci := ci) (cz := cz) (cj := cj) (q := q) (F := F) (P := P) (g := g) hF hP12 ja (by omega)) (cwV 1 Fx.2.2.2.2 gX0_die_X0_countHeirs rfl rfl rfl (by decide +kernel) ⟨Nat.le_of_ble_eq_true rfl, Nat.le_of_ble_eq_true rfl⟩) BW.bl (va_recv hK hP (ci := 0) (q0 := 0) rfl rfl) (BW.at hP hK hE hS) rfl hl.1 rfl (Nat.le_of_ble_eq_true rfl) dX0_die_12 ⟨Nat.zero_le _, Nat.zero_le _⟩ ?_
  have hcc : sCHe g P ja ≤ 12 := (Nat.le_trans (cn_le _ _) hP12)
  refine lv_istore_n (lv' := [(2, .int (nI (sCHe g P ja))), (0, .ref (q 0)), (1, .int (nI ja))]) hx hb dX0_die_15 rfl hl (by decide) rfl (fun ls hl => ?_)
  refine lv_iconst (v := nI 0) hx hb dX0_die_16 (by decide) ?_
  refine lv_istore_n (lv' := [(3, .int (nI 0)), (2, .int (nI (sCHe g P ja))), (0, .ref (q 0)), (1, .int (nI ja))]) hx hb dX0_die_17 rfl hl (by decide) rfl (fun ls hl => ?_)
  refine lv_iconst (v := nI 0) hx hb dX0_die_18 (by decide) ?_
  refine lv_istore (lv' := [(4, .int (nI 0)), (3, .int (nI 0)), (2, .int (nI (sCHe g P ja))), (0, .ref (q 0)), (1, .int (nI ja))]) hx hb dX0_die_19 hl (by decide) rfl (fun ls hl => ?_)
  refine wloop (nL := 5) (N := P) (fun _ => True) (fun i => [(0, .ref (q 0)), (1, .int (nI ja)), (2, .int (nI (sCHe g P ja))), (3, .int (nI (sCHB g P i ja))), (4, .int (nI i))]) (fun i H => va_P D vwCl (w0 ci cz q F P (gHr g F P ja (sCHe g P ja) i)) H) (trivial) (hP) hS (lv_sub hl [3, 4, 2, 1, 0] rfl) ?_ ?_
  · intro h5 H locs ls hP hS hl
    have hl : lv_has ls 5 [(0, .ref (q 0)), (1, .int (nI ja)), (2, .int (nI (sCHe g P ja))), (3, .int (nI (sCHB g P P ja))), (4, .int (nI P))] := hl
    have hP : va_P D vwCl (w0 ci cz q F P (gHr g F P ja (sCHe g P ja) P)) H := hP
    refine lv_iload hx hb dX0_die_21 (lv_at hl 4 rfl) ?_
    refine lv_aload_n hx hb dX0_die_23 rfl (lv_at hl 0 rfl) ?_
    refine r_get Fx hin hK hP 0 rfl 4 (by decide) (by decide +kernel) rfl rfl dX0_die_24 ?_
    refine n_icmp_ge (tgt := 58) hx hb (by omega) (by omega) dX0_die_27 (by decide) (fun h6 => ?_) (fun h6 => by omega)
    refine lv_iload_n hx hb dX0_die_58 rfl (lv_at hl 2 rfl) ?_
    refine n_if_ne (tgt := 77) hx hb (by omega) dX0_die_59 (by decide) (fun h7 => ?_) (fun h7 => ?_)
    · refine lv_aload_n hx hb dX0_die_77 rfl (lv_at hl 0 rfl) ?_
      refine lv_iload_n hx hb dX0_die_78 rfl (lv_at hl 1 rfl) ?_
      refine r_callW (rest := []) Fx (m_X0_bury l (D := D) (ci := ci) (cz := cz) (cj := cj) (q := q) (F := F) (P := P) (g := gHr g F P ja (sCHe g P ja) P) hq hF hP12 ja (by omega)) (cwV 1 Fx.2.2.2.2 gX0_die_X0_bury rfl rfl rfl (by decide +kernel) ⟨Nat.le_of_ble_eq_true rfl, Nat.le_of_ble_eq_true rfl⟩) BW.bl (va_recv hK hP (ci := 0) (q0 := 0) rfl rfl) (BW.at hP hK hE hS) rfl hl.1 rfl (Nat.le_of_ble_eq_true rfl) dX0_die_79 ⟨Nat.zero_le _, Nat.zero_le _⟩ hS (fun _ h => h) (fun H locs hP hS _ _ => ?_)
      have hP : va_P D vwCl (w0 ci cz q F P (gBur (gHr g F P ja (sCHe g P ja) P) F ja)) H := hP
      refine lv_iload_n hx hb dX0_die_82 rfl (lv_at hl 2 rfl) ?_
      exact p_iret hx hb hr hlocks hS (by show va_P D vwCl (w0 ci cz q F P (gDie g F P (ix (nI ja)))) H; have e9 : gDie g F P (ix (nI ja)) = gBur (gHr g F P ja (sCHe g P ja) P) F ja := (by simp [gDie, gDi1, h1, h2, h3, h4, h6, h7]); rw [e9]; exact hP) (by simp [k_die, inR, inB, h1, h2, h3, h4, h6, h7]) (by simp [k_die, h1, h2, h3, h4, h6, h7]) (Nat.zero_le _) (Nat.zero_le _) dX0_die_83
    · refine lv_aload_n hx hb dX0_die_62 rfl (lv_at hl 0 rfl) ?_
      refine lv_dup hx hb dX0_die_63 rfl ?_
      refine r_get Fx hin hK hP 0 rfl 9 (by decide) (by decide +kernel) rfl rfl dX0_die_64 ?_
      refine lv_aload_n hx hb dX0_die_67 rfl (lv_at hl 0 rfl) ?_
      refine r_get Fx hin hK hP 0 rfl 6 (by decide) (by decide +kernel) rfl rfl dX0_die_68 ?_
      refine lv_iload_n hx hb dX0_die_71 rfl (lv_at hl 1 rfl) ?_
      refine r_iald Fx hK hP 5 0 rfl rfl (i := ja) (by omega) (by decide) dX0_die_72 ?_
      refine lv_iadd hx hb dX0_die_73 ?_
      refine r_put Fx hin tyX0 tyX0_ok nmX0 hK hP (d0 hq) hS 0 rfl 9 (by decide) (by decide +kernel) rfl (by decide +kernel) rfl (Nat.le_of_ble_eq_true rfl) dX0_die_74 (fun H locs hP hS => ?_)
      have hP : va_P D vwCl (w0 ci cz q F P (gCro (gHr g F P ja (sCHe g P ja) P) (gHr g F P ja (sCHe g P ja) P 4 ja))) H := hP
      refine lv_aload_n hx hb dX0_die_77 rfl (lv_at hl 0 rfl) ?_
      refine lv_iload_n hx hb dX0_die_78 rfl (lv_at hl 1 rfl) ?_
      refine r_callW (rest := []) Fx (m_X0_bury l (D := D) (ci := ci) (cz := cz) (cj := cj) (q := q) (F := F) (P := P) (g := gCro (gHr g F P ja (sCHe g P ja) P) (gHr g F P ja (sCHe g P ja) P 4 ja)) hq hF hP12 ja (by omega)) (cwV 1 Fx.2.2.2.2 gX0_die_X0_bury rfl rfl rfl (by decide +kernel) ⟨Nat.le_of_ble_eq_true rfl, Nat.le_of_ble_eq_true rfl⟩) BW.bl (va_recv hK hP (ci := 0) (q0 := 0) rfl rfl) (BW.at hP hK hE hS) rfl hl.1 rfl (Nat.le_of_ble_eq_true rfl) dX0_die_79 ⟨Nat.zero_le _, Nat.zero_le _⟩ hS (fun _ h => h) (fun H locs hP hS _ _ => ?_)
      have hP : va_P D vwCl (w0 ci cz q F P (gBur (gCro (gHr g F P ja (sCHe g P ja) P) (gHr g F P ja (sCHe g P ja) P 4 ja)) F ja)) H := hP
      refine lv_iload_n hx hb dX0_die_82 rfl (lv_at hl 2 rfl) ?_
      exact p_iret hx hb hr hlocks hS (by show va_P D vwCl (w0 ci cz q F P (gDie g F P (ix (nI ja)))) H; have e9 : gDie g F P (ix (nI ja)) = gBur (gCro (gHr g F P ja (sCHe g P ja) P) (gHr g F P ja (sCHe g P ja) P 4 ja)) F ja := (by simp [gDie, gDi1, h1, h2, h3, h4, h6, h7]); rw [e9]; exact hP) (by simp [k_die, inR, inB, h1, h2, h3, h4, h6, h7]) (by simp [k_die, h1, h2, h3, h4, h6, h7]) (Nat.zero_le _) (Nat.zero_le _) dX0_die_83
  · intro i h9 h8 ih21 H locs ls hP hS hl
    have hl : lv_has ls 5 [(0, .ref (q 0)), (1, .int (nI ja)), (2, .int (nI (sCHe g P ja))), (3, .int (nI (sCHB g P i ja))), (4, .int (nI i))] := hl
    have hP : va_P D vwCl (w0 ci cz q F P (gHr g F P ja (sCHe g P ja) i)) H := hP
    refine lv_iload hx hb dX0_die_21 (lv_at hl 4 rfl) ?_
    refine lv_aload_n hx hb dX0_die_23 rfl (lv_at hl 0 rfl) ?_
    refine r_get Fx hin hK hP 0 rfl 4 (by decide) (by decide +kernel) rfl rfl dX0_die_24 ?_
    refine n_icmp_ge (tgt := 58) hx hb (by omega) (by omega) dX0_die_27 (by decide) (fun h10 => by omega) (fun h10 => ?_)
    refine lv_aload_n hx hb dX0_die_30 rfl (lv_at hl 0 rfl) ?_
    refine lv_iload hx hb dX0_die_31 (lv_at hl 4 rfl) ?_
    refine lv_iload_n hx hb dX0_die_33 rfl (lv_at hl 1 rfl) ?_
    refine r_callR (rest := []) Fx (m_X0_isHeir l (D := D) (ci := ci) (cz := cz) (cj := cj) (q := q) (F := F) (P := P) (g := gHr g F P ja (sCHe g P ja) i) hF hP12 i ja (by omega) (by omega)) (cwV 2 Fx.2.2.2.2 gX0_die_X0_isHeir rfl rfl rfl (by decide +kernel) ⟨Nat.le_of_ble_eq_true rfl, Nat.le_of_ble_eq_true rfl⟩) BW.bl (va_recv hK hP (ci := 0) (q0 := 0) rfl rfl) (BW.at hP hK hE hS) rfl hl.1 rfl (Nat.le_of_ble_eq_true rfl) dX0_die_34 ⟨Nat.zero_le _, Nat.zero_le _⟩ ?_
    rw [sIsH_eq (hr_36 _ _ _ _ _ _).1 (hr_36 _ _ _ _ _ _).2]
    refine b_if_eq (tgt := 52) hx hb dX0_die_37 (by decide) (fun h11 => ?_) (fun h11 => ?_)
    · refine lv_iinc (v := nI (i + 1)) (lv' := [(4, .int (nI (i + 1))), (0, .ref (q 0)), (1, .int (nI ja)), (2, .int (nI (sCHe g P ja))), (3, .int (nI (sCHB g P i ja)))]) hx hb dX0_die_52 hl (k := 4) rfl (nI_inc _ 1) (by decide) rfl (fun ls hl => ?_)
      refine lv_goto (tgt := 21) hx hb dX0_die_55 (by decide) ?_
      have e3_ : nI (sCHB g P i ja) = nI (sCHB g P (i + 1) ja) := by simp [sCHB, cn, h1, h2, h3, h4, h9, h10, h11]
      rw [e3_] at hl
      exact ih21 (trivial) _ _ _ (by have e9 : gHr g F P ja (sCHe g P ja) (i + 1) = gHr g F P ja (sCHe g P ja) i := (by simp [gHr, h1, h2, h3, h4, h9, h10, h11]); show va_P D vwCl (w0 ci cz q F P (gHr g F P ja (sCHe g P ja) (i + 1))) H; rw [e9]; exact hP) hS (lv_sub hl [1, 2, 3, 4, 0] rfl)
    · refine lv_aload_n hx hb dX0_die_40 rfl (lv_at hl 0 rfl) ?_
      refine lv_iload_n hx hb dX0_die_41 rfl (lv_at hl 1 rfl) ?_
      refine lv_iload hx hb dX0_die_42 (lv_at hl 4 rfl) ?_
      refine lv_iload_n hx hb dX0_die_44 rfl (lv_at hl 2 rfl) ?_
      refine lv_iload_n hx hb dX0_die_45 rfl (lv_at hl 3 rfl) ?_
      refine r_callW (rest := []) Fx (m_X0_hand l (D := D) (ci := ci) (cz := cz) (cj := cj) (q := q) (F := F) (P := P) (g := gHr g F P ja (sCHe g P ja) i) hq hF hP12 ja i (sCHe g P ja) (sCHB g P i ja) (by omega) (by omega) (Nat.le_trans (cn_le _ _) hP12) (Nat.le_trans (cn_le _ _) (by omega))) (cwV 4 Fx.2.2.2.2 gX0_die_X0_hand rfl rfl rfl (by decide +kernel) ⟨Nat.le_of_ble_eq_true rfl, Nat.le_of_ble_eq_true rfl⟩) BW.bl (va_recv hK hP (ci := 0) (q0 := 0) rfl rfl) (BW.at hP hK hE hS) rfl hl.1 rfl (Nat.le_of_ble_eq_true rfl) dX0_die_46 ⟨Nat.zero_le _, Nat.zero_le _⟩ hS (fun _ h => h) (fun H locs hP hS _ _ => ?_)
      have hP : va_P D vwCl (w0 ci cz q F P (gHnd (gHr g F P ja (sCHe g P ja) i) F ja i (sCHe g P ja) (sCHB g P i ja))) H := hP
      refine lv_iinc (v := nI (sCHB g P i ja + 1)) (lv' := [(3, .int (nI (sCHB g P i ja + 1))), (0, .ref (q 0)), (1, .int (nI ja)), (2, .int (nI (sCHe g P ja))), (4, .int (nI i))]) hx hb dX0_die_49 hl (k := 3) rfl (nI_inc _ 1) (by decide) rfl (fun ls hl => ?_)
      refine lv_iinc (v := nI (i + 1)) (lv' := [(4, .int (nI (i + 1))), (3, .int (nI (sCHB g P i ja + 1))), (0, .ref (q 0)), (1, .int (nI ja)), (2, .int (nI (sCHe g P ja)))]) hx hb dX0_die_52 hl (k := 4) rfl (nI_inc _ 1) (by decide) rfl (fun ls hl => ?_)
      refine lv_goto (tgt := 21) hx hb dX0_die_55 (by decide) ?_
      have e3_ : nI (sCHB g P i ja + 1) = nI (sCHB g P (i + 1) ja) := by simp [sCHB, cn, h1, h2, h3, h4, h9, h10, h11]
      rw [e3_] at hl
      exact ih21 (trivial) _ _ _ (by have e9 : gHr g F P ja (sCHe g P ja) (i + 1) = gHnd (gHr g F P ja (sCHe g P ja) i) F ja i (sCHe g P ja) (sCHB g P i ja) := (by simp [gHr, h1, h2, h3, h4, h9, h10, h11]); show va_P D vwCl (w0 ci cz q F P (gHr g F P ja (sCHe g P ja) (i + 1))) H; rw [e9]; exact hP) hS (lv_sub hl [2, 3, 4, 1, 0] rfl)
