/-! FerryRights, IV: what changes it -/
set_option maxHeartbeats 4000000 in
set_option maxRecDepth 100000 in
theorem m_X0_settle (l : Launch) {D : va_G} {ci cz : ClassId} {cj : ClassId × ClassId} {q : Nat → Nat} {F P : Nat} {g : Nat → Nat → Int32} (hq : DQ q 8) (hF : F ≤ 6) (hP12 : P ≤ 12) (x : Int32) (ha0 : P < 12) (ha1 : g 3 P = 0) : Met l yX0_settle wsX0_settle ({ frames := 0, cells := 0, slots := 0, locals := 0 } : Room) (va_Pc [.ref (q 0), .int x] (B0 D ci cz cj q F P g)) (WQ (some (.int (nI P))) (fun H => va_P D vwCl (w0 ci cz q F (P + 1) (gPar g P x)) H) (aw q 8)) 0 0 (aw q 8) := by
  refine Met.ofWr (cc := cX0_settle) (maxL := 3) (ret := (some .int)) (by decide) rfl (Nat.le_of_ble_eq_true rfl) ?_
  intro pg en s m bl mt cd ls Fx hr hlocks hB hl
  obtain ⟨hP, hK, hE⟩ := hB
  have hl : lv_has ls 3 [(0, .ref (q 0)), (1, .int x)] := hl
  have Fx : CallFix pg m cd cX0_settle 3 s _ wsX0_settle RX0 := Fx
  have hx := Fx.1
  have hb := Fx.2.1
  have hin : ∀ w ∈ wsX00, w ∈ wsX0_settle := by decide +kernel
  have hS : va_S (aw q 8) s.heap s.heap [] := va_S.rf
  have hP : va_P D vwCl (w0 ci cz q F P g) s.heap := hP
  refine lv_aload_n hx hb dX0_settle_0 rfl (lv_at hl 0 rfl) ?_
  refine r_get Fx hin hK hP 0 rfl 4 (by decide) (by decide +kernel) rfl rfl dX0_settle_1 ?_
  refine lv_istore_n (lv' := [(2, .int (nI P)), (0, .ref (q 0)), (1, .int x)]) hx hb dX0_settle_4 rfl hl (by decide) rfl (fun ls hl => ?_)
  refine lv_aload_n hx hb dX0_settle_5 rfl (lv_at hl 1 rfl) ?_
  refine r_get Fx hin hK hP 0 rfl 5 (by decide) (by decide +kernel) rfl rfl dX0_settle_6 ?_
  refine lv_iload_n hx hb dX0_settle_9 rfl (lv_at hl 0 rfl) ?_
  refine lv_iconst (v := nI 1) hx hb dX0_settle_10 (by decide) ?_
  refine r_zast Fx hK hP (d0 hq) hS 4 1 rfl rfl (i := P) (by omega) (by decide) rfl dX0_settle_11 (fun H locs hP hS => ?_)
  have hP : va_P D vwCl (w0r ci cz q F P (upd (alv P (g 3)) P (nI 1)) g) H := hP
  refine lv_aload_n hx hb dX0_settle_12 rfl (lv_at hl 1 rfl) ?_
  refine r_get Fx hin hK hP 0 rfl 8 (by decide) (by decide +kernel) rfl rfl dX0_settle_13 ?_
  refine lv_iload_n hx hb dX0_settle_16 rfl (lv_at hl 0 rfl) ?_
  refine lv_iload_n hx hb dX0_settle_17 rfl (lv_at hl 2 rfl) ?_
  refine r_iast Fx hK hP (d0 hq) hS 7 0 rfl rfl (i := P) (by omega) (by decide) dX0_settle_18 (fun H locs hP hS => ?_)
  have hP : va_P D vwCl (w0r ci cz q F P (upd (alv P (g 3)) P (nI 1)) (va_up g 6 (upd (g 6) P x))) H := hP
  refine lv_aload_n hx hb dX0_settle_19 rfl (lv_at hl 1 rfl) ?_
  refine lv_iload_n hx hb dX0_settle_20 rfl (lv_at hl 0 rfl) ?_
  refine lv_iconst (v := nI 1) hx hb dX0_settle_21 (by decide) ?_
  refine r_iadd_n hx hb dX0_settle_22 ?_
  refine r_put Fx hin tyX0 tyX0_ok nmX0 hK hP (d0 hq) hS 0 rfl 4 (by decide) (by decide +kernel) rfl (by decide +kernel) rfl (Nat.le_of_ble_eq_true rfl) dX0_settle_23 (fun H locs hP hS => ?_)
  have hP : va_P D vwCl (w0r ci cz q F (P + 1) (upd (alv P (g 3)) P (nI 1)) (va_up g 6 (upd (g 6) P x))) H := hP
  refine lv_iload_n hx hb dX0_settle_26 rfl (lv_at hl 0 rfl) ?_
  exact w_iret hx hb hr hlocks hS (by rw [settle_w ha1] at hP; exact hP) (rfl) dX0_settle_27
set_option maxHeartbeats 4000000 in
set_option maxRecDepth 100000 in
theorem m_X0_addCoins (l : Launch) {D : va_G} {ci cz : ClassId} {cj : ClassId × ClassId} {q : Nat → Nat} {F P : Nat} {g : Nat → Nat → Int32} (hq : DQ q 8) (hF : F ≤ 6) (hP12 : P ≤ 12) (k : Nat) (x : Int32) (ha0 : k < 12) : Met l yX0_addCoins wsX0_addCoins ({ frames := 1, cells := 0, slots := 0, locals := 17 } : Room) (va_Pc [.ref (q 0), .int (nI k), .int x] (B0 D ci cz cj q F P g)) (WQ none (fun H => va_P D vwCl (w0 ci cz q F P (gGet g k x)) H) (aw q 8)) 0 0 (aw q 8) := by
  refine Met.ofWr (cc := cX0_addCoins) (maxL := 3) (ret := none) (by decide) rfl (Nat.le_of_ble_eq_true rfl) ?_
  intro pg en s m bl mt cd ls Fx hr hlocks hB hl
  obtain ⟨hP, hK, hE⟩ := hB
  have hl : lv_has ls 3 [(0, .ref (q 0)), (1, .int (nI k)), (2, .int x)] := hl
  have Fx : CallFix pg m cd cX0_addCoins 3 s _ wsX0_addCoins RX0 := Fx
  have hx := Fx.1
  have hb := Fx.2.1
  have hin : ∀ w ∈ wsX00, w ∈ wsX0_addCoins := by decide +kernel
  have hS : va_S (aw q 8) s.heap s.heap [] := va_S.rf
  have hP : va_P D vwCl (w0 ci cz q F P g) s.heap := hP
  refine lv_aload_n hx hb dX0_addCoins_0 rfl (lv_at hl 0 rfl) ?_
  refine r_get Fx hin hK hP 0 rfl 6 (by decide) (by decide +kernel) rfl rfl dX0_addCoins_1 ?_
  refine lv_iload_n hx hb dX0_addCoins_4 rfl (lv_at hl 1 rfl) ?_
  refine lv_sipush (v := nI 9999) hx hb dX0_addCoins_5 (by decide) ?_
  refine lv_aload_n hx hb dX0_addCoins_8 rfl (lv_at hl 0 rfl) ?_
  refine r_get Fx hin hK hP 0 rfl 6 (by decide) (by decide +kernel) rfl rfl dX0_addCoins_9 ?_
  refine lv_iload_n hx hb dX0_addCoins_12 rfl (lv_at hl 1 rfl) ?_
  refine r_iald Fx hK hP 5 0 rfl rfl (i := k) (by omega) (by decide) dX0_addCoins_13 ?_
  refine lv_iload_n hx hb dX0_addCoins_14 rfl (lv_at hl 2 rfl) ?_
  refine lv_iadd hx hb dX0_addCoins_15 ?_
  refine va_mmin hx hb (Fx.2.2.1.trans hl.1.symm) Fx.2.2.2.1 (Fx.2.2.2.2 (.methodLink RX0 208 Lib.Math.min.name) (by decide +kernel)) (Fx.2.2.2.2 (.static Lib.Math.min.name) (by decide +kernel)) (Fx.2.2.2.2 (.initialized "java/lang/Math") (by decide +kernel)) (Fx.2.2.2.2 (.code Lib.Math.min.name Lib.Math.min.code 2 (some .int)) (by decide +kernel)) (Nat.le_of_ble_eq_true rfl) (Nat.le_of_ble_eq_true rfl) (Nat.zero_le _) (Nat.zero_le _) dX0_addCoins_16 ?_
  refine r_iast Fx hK hP (d0 hq) hS 5 0 rfl rfl (i := k) (by omega) (by decide) dX0_addCoins_19 (fun H locs hP hS => ?_)
  have hP : va_P D vwCl (w0 ci cz q F P (va_up g 4 (upd (g 4) k (mn (g 4 k + x))))) H := hP
  exact w_vret hx hb hr hlocks hS (hP) dX0_addCoins_20
set_option maxHeartbeats 4000000 in
set_option maxRecDepth 100000 in
theorem m_X0_addShares (l : Launch) {D : va_G} {ci cz : ClassId} {cj : ClassId × ClassId} {q : Nat → Nat} {F P : Nat} {g : Nat → Nat → Int32} (hq : DQ q 8) (hF : F ≤ 6) (hP12 : P ≤ 12) (f : Nat) (w : Nat) (k : Nat) (x : Int32) (ha0 : f < 6) (ha1 : w < 4) (ha2 : k < 12) : Met l yX0_addShares wsX0_addShares ({ frames := 1, cells := 0, slots := 0, locals := 22 } : Room) (va_Pc [.ref (q 0), .int (nI f), .int (nI w), .int (nI k), .int x] (B0 D ci cz cj q F P g)) (WQ none (fun H => va_P D vwCl (w0 ci cz q F P (gAdd g f w k x)) H) (aw q 8)) 0 0 (aw q 8) := by
  refine Met.ofWr (cc := cX0_addShares) (maxL := 5) (ret := none) (by decide) rfl (Nat.le_of_ble_eq_true rfl) ?_
  intro pg en s m bl mt cd ls Fx hr hlocks hB hl
  obtain ⟨hP, hK, hE⟩ := hB
  have hl : lv_has ls 5 [(0, .ref (q 0)), (1, .int (nI f)), (2, .int (nI w)), (3, .int (nI k)), (4, .int x)] := hl
  have Fx : CallFix pg m cd cX0_addShares 5 s _ wsX0_addShares RX0 := Fx
  have hx := Fx.1
  have hb := Fx.2.1
  have hin : ∀ w ∈ wsX00, w ∈ wsX0_addShares := by decide +kernel
  have hS : va_S (aw q 8) s.heap s.heap [] := va_S.rf
  have hP : va_P D vwCl (w0 ci cz q F P g) s.heap := hP
  refine lv_aload_n hx hb dX0_addShares_0 rfl (lv_at hl 0 rfl) ?_
  refine r_get Fx hin hK hP 0 rfl 3 (by decide) (by decide +kernel) rfl rfl dX0_addShares_1 ?_
  refine lv_iload_n hx hb dX0_addShares_4 rfl (lv_at hl 1 rfl) ?_
  refine lv_iload_n hx hb dX0_addShares_5 rfl (lv_at hl 2 rfl) ?_
  refine lv_iload_n hx hb dX0_addShares_6 rfl (lv_at hl 3 rfl) ?_
  refine r_callRS (rest := [.ref (q 3)]) Fx (m_X0_slot l (D := D) (ci := ci) (cz := cz) (cj := cj) (q := q) (F := F) (P := P) (g := g) hF hP12 f w k ) (va_cwS 3 Fx.2.2.2.2 gX0_addShares_X0_slot rfl rfl rfl (by decide +kernel) ⟨Nat.le_of_ble_eq_true rfl, Nat.le_of_ble_eq_true rfl⟩) BW.bl (BW.at hP hK hE hS) rfl hl.1 rfl (Nat.le_of_ble_eq_true rfl) dX0_addShares_7 ⟨Nat.zero_le _, Nat.zero_le _⟩ ?_
  refine lv_dup2_11 hx hb dX0_addShares_10 rfl rfl ?_
  refine r_iald Fx hK hP 3 0 rfl rfl (i := sl f w k) (sl_lt (by omega) (by omega) (by omega)) (by decide) dX0_addShares_11 ?_
  refine lv_iload hx hb dX0_addShares_12 (lv_at hl 4 rfl) ?_
  refine lv_iadd hx hb dX0_addShares_14 ?_
  refine r_iast Fx hK hP (d0 hq) hS 3 0 rfl rfl (i := sl f w k) (sl_lt (by omega) (by omega) (by omega)) (by decide) dX0_addShares_15 (fun H locs hP hS => ?_)
  have hP : va_P D vwCl (w0 ci cz q F P (va_up g 2 (upd (g 2) (sl f w k) ((g 2 (sl f w k)) + x)))) H := hP
  exact w_vret hx hb hr hlocks hS (hP) dX0_addShares_16
set_option maxHeartbeats 4000000 in
set_option maxRecDepth 100000 in
theorem m_X0_addFerry (l : Launch) (hl0 : l.stackTraces = false) {D : va_G} {ci cz : ClassId} {cj : ClassId × ClassId} {q : Nat → Nat} {F P : Nat} {g : Nat → Nat → Int32} (hq : DQ q 8) (hF : F ≤ 6) (hP12 : P ≤ 12) (a : Int32) : vx_Met l yX0_addFerry wsX0_addFerry ({ frames := 7, cells := 1, slots := 6, locals := 102 } : Room) (va_Pc [.ref (q 0), .int a] (B0 D ci cz cj q F P g)) (PQ (k_addFerry F a) (some (.int (nI F))) (fun H => va_P D vwCl (w0 ci cz q (F + 1) P (gTol g F a)) H) (aw q 8)) (PX (k_addFerry F a) [xIA, xIS]) 1 6 (aw q 8) := by
  refine vx_ofX (cc := cX0_addFerry) (maxL := 3) (ret := (some .int)) (by decide) rfl (Nat.le_of_ble_eq_true rfl) ?_
  intro pg en s m bl mt cd ls Fx hr hlocks hex hB hl
  obtain ⟨hP, hK, hE⟩ := hB
  have hl : lv_has ls 3 [(0, .ref (q 0)), (1, .int a)] := hl
  have Fx : CallFix pg m cd cX0_addFerry 3 s _ wsX0_addFerry RX0 := Fx
  have hx := Fx.1
  have hb := Fx.2.1
  have hin : ∀ w ∈ wsX00, w ∈ wsX0_addFerry := by decide +kernel
  have hS : va_S (aw q 8) s.heap s.heap [] := va_S.rf
  have hP : va_P D vwCl (w0 ci cz q F P g) s.heap := hP
  refine lv_iload_n hx hb dX0_addFerry_0 rfl (lv_at hl 1 rfl) ?_
  by_cases h1 : 0 ≤ a ∧ a ≤ nI 20
  rotate_left
  · refine r_callXS (rest := []) Fx (m_X0_needToll_x l hl0 (D := D) (ci := ci) (cz := cz) (cj := cj) (q := q) (F := F) (P := P) (g := g) hF hP12 a h1) (va_cwS 1 Fx.2.2.2.2 gX0_addFerry_X0_needToll rfl rfl rfl (by decide +kernel) ⟨Nat.le_of_ble_eq_true rfl, Nat.le_of_ble_eq_true rfl⟩) BW.bl (BW.at hP hK hE hS) rfl hl.1 rfl (Nat.le_of_ble_eq_true rfl) dX0_addFerry_1 ⟨Nat.le_of_ble_eq_true rfl, Nat.le_of_ble_eq_true rfl⟩ (fun ce q9 H1 hh hce hcv hcl => ?_)
    exact p_out hex hlocks hh hce hcv hcl ⟨0, (by simp [k_addFerry, inR, inB, h1]), rfl⟩ (Nat.le_refl _) (Nat.le_refl _)
  refine r_callRS (rest := []) Fx (m_X0_needToll l (D := D) (ci := ci) (cz := cz) (cj := cj) (q := q) (F := F) (P := P) (g := g) hF hP12 a h1) (va_cwS 1 Fx.2.2.2.2 gX0_addFerry_X0_needToll rfl rfl rfl (by decide +kernel) ⟨Nat.le_of_ble_eq_true rfl, Nat.le_of_ble_eq_true rfl⟩) BW.bl (BW.at hP hK hE hS) rfl hl.1 rfl (Nat.le_of_ble_eq_true rfl) dX0_addFerry_1 ⟨Nat.zero_le _, Nat.zero_le _⟩ ?_
  refine lv_aload_n hx hb dX0_addFerry_4 rfl (lv_at hl 0 rfl) ?_
  refine r_get Fx hin hK hP 0 rfl 0 (by decide) (by decide +kernel) rfl rfl dX0_addFerry_5 ?_
  refine lv_bipush (v := nI 6) hx hb dX0_addFerry_8 (by decide) ?_
  refine n_icmp_lt (tgt := 23) hx hb (by omega) (by omega) dX0_addFerry_10 (by decide) (fun h2 => ?_) (fun h2 => ?_)
  · refine lv_aload_n hx hb dX0_addFerry_23 rfl (lv_at hl 0 rfl) ?_
    refine r_get Fx hin hK hP 0 rfl 0 (by decide) (by decide +kernel) rfl rfl dX0_addFerry_24 ?_
    refine lv_istore_n (lv' := [(2, .int (nI F)), (0, .ref (q 0)), (1, .int a)]) hx hb dX0_addFerry_27 rfl hl (by decide) rfl (fun ls hl => ?_)
    refine lv_aload_n hx hb dX0_addFerry_28 rfl (lv_at hl 1 rfl) ?_
    refine r_get Fx hin hK hP 0 rfl 1 (by decide) (by decide +kernel) rfl rfl dX0_addFerry_29 ?_
    refine lv_iload_n hx hb dX0_addFerry_32 rfl (lv_at hl 0 rfl) ?_
    refine lv_iload_n hx hb dX0_addFerry_33 rfl (lv_at hl 2 rfl) ?_
    refine r_iast Fx hK hP (d0 hq) hS 1 0 rfl rfl (i := F) (by omega) (by decide) dX0_addFerry_34 (fun H locs hP hS => ?_)
    have hP : va_P D vwCl (w0 ci cz q F P (va_up g 0 (upd (g 0) F a))) H := hP
    refine lv_aload_n hx hb dX0_addFerry_35 rfl (lv_at hl 1 rfl) ?_
    refine lv_iload_n hx hb dX0_addFerry_36 rfl (lv_at hl 0 rfl) ?_
    refine lv_iconst (v := nI 1) hx hb dX0_addFerry_37 (by decide) ?_
    refine r_iadd_n hx hb dX0_addFerry_38 ?_
    refine r_put Fx hin tyX0 tyX0_ok nmX0 hK hP (d0 hq) hS 0 rfl 0 (by decide) (by decide +kernel) rfl (by decide +kernel) rfl (Nat.le_of_ble_eq_true rfl) dX0_addFerry_39 (fun H locs hP hS => ?_)
    have hP : va_P D vwCl (w0 ci cz q (F + 1) P (va_up g 0 (upd (g 0) F a))) H := hP
    refine lv_iload_n hx hb dX0_addFerry_42 rfl (lv_at hl 0 rfl) ?_
    exact p_iret hx hb hr hlocks hS (hP) (by simp [k_addFerry, inR, inB, h1, h2, Nat.not_le.mpr h2, Nat.ne_of_gt h2]) (by simp [k_addFerry, h1, h2, Nat.not_le.mpr h2, Nat.ne_of_gt h2]) (Nat.zero_le _) (Nat.zero_le _) dX0_addFerry_43
  · exact x0_throw (cls := xIS) (text := "there are 6 ferries") Fx hl0 hE hS hex hlocks (by decide +kernel) (by decide +kernel) (by decide +kernel) (by decide +kernel) (by decide +kernel) hl.1 dX0_addFerry_13 dX0_addFerry_16 dX0_addFerry_17 dX0_addFerry_19 dX0_addFerry_22 (Nat.le_of_ble_eq_true rfl) (Nat.le_of_ble_eq_true rfl) (Nat.le_of_ble_eq_true rfl) (Nat.le_of_ble_eq_true rfl) (fun t ht => ⟨⟨1, (by simp [k_addFerry, inR, inB, h1, h2, Nat.not_lt.mpr h2]), rfl⟩, ht⟩) nin (Nat.le_refl _) (Nat.le_refl _)
set_option maxHeartbeats 4000000 in
set_option maxRecDepth 100000 in
theorem m_X0_addPerson (l : Launch) (hl0 : l.stackTraces = false) {D : va_G} {ci cz : ClassId} {cj : ClassId × ClassId} {q : Nat → Nat} {F P : Nat} {g : Nat → Nat → Int32} (hq : DQ q 8) (hF : F ≤ 6) (hP12 : P ≤ 12) (ha0 : ∀ z, P ≤ z → g 3 z = 0) : vx_Met l yX0_addPerson wsX0_addPerson ({ frames := 7, cells := 1, slots := 6, locals := 102 } : Room) (va_Pc [.ref (q 0)] (B0 D ci cz cj q F P g)) (PQ (k_addPerson P) (some (.int (nI P))) (fun H => va_P D vwCl (w0 ci cz q F (P + 1) (gPar g P (-1))) H) (aw q 8)) (PX (k_addPerson P) [xIS]) 1 6 (aw q 8) := by
  refine vx_ofX (cc := cX0_addPerson) (maxL := 1) (ret := (some .int)) (by decide) rfl (Nat.le_of_ble_eq_true rfl) ?_
  intro pg en s m bl mt cd ls Fx hr hlocks hex hB hl
  obtain ⟨hP, hK, hE⟩ := hB
  have hl : lv_has ls 1 [(0, .ref (q 0))] := hl
  have Fx : CallFix pg m cd cX0_addPerson 1 s _ wsX0_addPerson RX0 := Fx
  have hx := Fx.1
  have hb := Fx.2.1
  have hS : va_S (aw q 8) s.heap s.heap [] := va_S.rf
  have hP : va_P D vwCl (w0 ci cz q F P g) s.heap := hP
  refine lv_aload_n hx hb dX0_addPerson_0 rfl (lv_at hl 0 rfl) ?_
  by_cases h1 : P < 12
  rotate_left
  · refine r_callX (rest := []) Fx (m_X0_needRoomForPerson_x l hl0 (D := D) (ci := ci) (cz := cz) (cj := cj) (q := q) (F := F) (P := P) (g := g) hF hP12  h1) (cwV 0 Fx.2.2.2.2 gX0_addPerson_X0_needRoomForPerson rfl rfl rfl (by decide +kernel) ⟨Nat.le_of_ble_eq_true rfl, Nat.le_of_ble_eq_true rfl⟩) BW.bl (va_recv hK hP (ci := 0) (q0 := 0) rfl rfl) (BW.at hP hK hE hS) rfl hl.1 rfl (Nat.le_of_ble_eq_true rfl) dX0_addPerson_1 ⟨Nat.le_of_ble_eq_true rfl, Nat.le_of_ble_eq_true rfl⟩ (fun ce q9 H1 hh hce hcv hcl => ?_)
    exact p_out hex hlocks hh hce hcv hcl ⟨0, (by simp [k_addPerson, inR, inB, h1]), rfl⟩ (Nat.le_refl _) (Nat.le_refl _)
  refine r_callR (rest := []) Fx (m_X0_needRoomForPerson l (D := D) (ci := ci) (cz := cz) (cj := cj) (q := q) (F := F) (P := P) (g := g) hF hP12  h1) (cwV 0 Fx.2.2.2.2 gX0_addPerson_X0_needRoomForPerson rfl rfl rfl (by decide +kernel) ⟨Nat.le_of_ble_eq_true rfl, Nat.le_of_ble_eq_true rfl⟩) BW.bl (va_recv hK hP (ci := 0) (q0 := 0) rfl rfl) (BW.at hP hK hE hS) rfl hl.1 rfl (Nat.le_of_ble_eq_true rfl) dX0_addPerson_1 ⟨Nat.zero_le _, Nat.zero_le _⟩ ?_
  refine lv_aload_n hx hb dX0_addPerson_4 rfl (lv_at hl 0 rfl) ?_
  refine lv_iconst (v := -1) hx hb dX0_addPerson_5 (by decide) ?_
  refine r_callW (rest := []) Fx (m_X0_settle l (D := D) (ci := ci) (cz := cz) (cj := cj) (q := q) (F := F) (P := P) (g := g) hq hF hP12 (-1) (by omega) (ha0 _ (Nat.le_refl _))) (cwV 1 Fx.2.2.2.2 gX0_addPerson_X0_settle rfl rfl rfl (by decide +kernel) ⟨Nat.le_of_ble_eq_true rfl, Nat.le_of_ble_eq_true rfl⟩) BW.bl (va_recv hK hP (ci := 0) (q0 := 0) rfl rfl) (BW.at hP hK hE hS) rfl hl.1 rfl (Nat.le_of_ble_eq_true rfl) dX0_addPerson_6 ⟨Nat.zero_le _, Nat.zero_le _⟩ hS (fun _ h => h) (fun H locs hP hS _ _ => ?_)
  have hP : va_P D vwCl (w0 ci cz q F (P + 1) (gPar g P (-1))) H := hP
  exact p_iret hx hb hr hlocks hS (hP) (by simp [k_addPerson, inR, inB, h1]) (by simp [k_addPerson, h1]) (Nat.zero_le _) (Nat.zero_le _) dX0_addPerson_9
set_option maxHeartbeats 4000000 in
set_option maxRecDepth 100000 in
theorem m_X0_addChild (l : Launch) (hl0 : l.stackTraces = false) {D : va_G} {ci cz : ClassId} {cj : ClassId × ClassId} {q : Nat → Nat} {F P : Nat} {g : Nat → Nat → Int32} (hq : DQ q 8) (hF : F ≤ 6) (hP12 : P ≤ 12) (a : Int32) (ha0 : ∀ z, P ≤ z → g 3 z = 0) : vx_Met l yX0_addChild wsX0_addChild ({ frames := 7, cells := 1, slots := 6, locals := 103 } : Room) (va_Pc [.ref (q 0), .int a] (B0 D ci cz cj q F P g)) (PQ (k_addChild P g a) (some (.int (nI P))) (fun H => va_P D vwCl (w0 ci cz q F (P + 1) (gPar g P a)) H) (aw q 8)) (PX (k_addChild P g a) [xIO, xIS]) 1 6 (aw q 8) := by
  refine vx_ofX (cc := cX0_addChild) (maxL := 2) (ret := (some .int)) (by decide) rfl (Nat.le_of_ble_eq_true rfl) ?_
  intro pg en s m bl mt cd ls Fx hr hlocks hex hB hl
  obtain ⟨hP, hK, hE⟩ := hB
  have hl : lv_has ls 2 [(0, .ref (q 0)), (1, .int a)] := hl
  have Fx : CallFix pg m cd cX0_addChild 2 s _ wsX0_addChild RX0 := Fx
  have hx := Fx.1
  have hb := Fx.2.1
  have hS : va_S (aw q 8) s.heap s.heap [] := va_S.rf
  have hP : va_P D vwCl (w0 ci cz q F P g) s.heap := hP
  refine lv_aload_n hx hb dX0_addChild_0 rfl (lv_at hl 0 rfl) ?_
  refine lv_iload_n hx hb dX0_addChild_1 rfl (lv_at hl 1 rfl) ?_
  by_cases h1 : inR a P
  rotate_left
  · refine r_callX (rest := []) Fx (m_X0_needPerson_x l hl0 (D := D) (ci := ci) (cz := cz) (cj := cj) (q := q) (F := F) (P := P) (g := g) hF hP12 a h1) (cwV 1 Fx.2.2.2.2 gX0_addChild_X0_needPerson rfl rfl rfl (by decide +kernel) ⟨Nat.le_of_ble_eq_true rfl, Nat.le_of_ble_eq_true rfl⟩) BW.bl (va_recv hK hP (ci := 0) (q0 := 0) rfl rfl) (BW.at hP hK hE hS) rfl hl.1 rfl (Nat.le_of_ble_eq_true rfl) dX0_addChild_2 ⟨Nat.le_of_ble_eq_true rfl, Nat.le_of_ble_eq_true rfl⟩ (fun ce q9 H1 hh hce hcv hcl => ?_)
    exact p_out hex hlocks hh hce hcv hcl ⟨0, (by simp [k_addChild, inR, inB, h1]), rfl⟩ (Nat.le_refl _) (Nat.le_refl _)
  obtain ⟨ja, h2, rfl⟩ := inR_of h1 (by omega)
  have h3 : ix (nI ja) = ja := ix_nI (by omega)
  refine r_callR (rest := []) Fx (m_X0_needPerson l (D := D) (ci := ci) (cz := cz) (cj := cj) (q := q) (F := F) (P := P) (g := g) hF hP12 ja (by omega)) (cwV 1 Fx.2.2.2.2 gX0_addChild_X0_needPerson rfl rfl rfl (by decide +kernel) ⟨Nat.le_of_ble_eq_true rfl, Nat.le_of_ble_eq_true rfl⟩) BW.bl (va_recv hK hP (ci := 0) (q0 := 0) rfl rfl) (BW.at hP hK hE hS) rfl hl.1 rfl (Nat.le_of_ble_eq_true rfl) dX0_addChild_2 ⟨Nat.zero_le _, Nat.zero_le _⟩ ?_
  refine lv_aload_n hx hb dX0_addChild_5 rfl (lv_at hl 0 rfl) ?_
  refine lv_iload_n hx hb dX0_addChild_6 rfl (lv_at hl 1 rfl) ?_
  by_cases h4 : lv g ja = true
  rotate_left
  · refine r_callX (rest := []) Fx (m_X0_needAlive_x l hl0 (D := D) (ci := ci) (cz := cz) (cj := cj) (q := q) (F := F) (P := P) (g := g) hF hP12 ja (by omega) h4) (cwV 1 Fx.2.2.2.2 gX0_addChild_X0_needAlive rfl rfl rfl (by decide +kernel) ⟨Nat.le_of_ble_eq_true rfl, Nat.le_of_ble_eq_true rfl⟩) BW.bl (va_recv hK hP (ci := 0) (q0 := 0) rfl rfl) (BW.at hP hK hE hS) rfl hl.1 rfl (Nat.le_of_ble_eq_true rfl) dX0_addChild_7 ⟨Nat.le_of_ble_eq_true rfl, Nat.le_of_ble_eq_true rfl⟩ (fun ce q9 H1 hh hce hcv hcl => ?_)
    exact p_out hex hlocks hh hce hcv hcl ⟨1, (by simp [k_addChild, inR, inB, h1, h2, h3, h4]), rfl⟩ (Nat.le_refl _) (Nat.le_refl _)
  refine r_callR (rest := []) Fx (m_X0_needAlive l (D := D) (ci := ci) (cz := cz) (cj := cj) (q := q) (F := F) (P := P) (g := g) hF hP12 ja (by omega) h4) (cwV 1 Fx.2.2.2.2 gX0_addChild_X0_needAlive rfl rfl rfl (by decide +kernel) ⟨Nat.le_of_ble_eq_true rfl, Nat.le_of_ble_eq_true rfl⟩) BW.bl (va_recv hK hP (ci := 0) (q0 := 0) rfl rfl) (BW.at hP hK hE hS) rfl hl.1 rfl (Nat.le_of_ble_eq_true rfl) dX0_addChild_7 ⟨Nat.zero_le _, Nat.zero_le _⟩ ?_
  refine lv_aload_n hx hb dX0_addChild_10 rfl (lv_at hl 0 rfl) ?_
  by_cases h5 : P < 12
  rotate_left
  · refine r_callX (rest := []) Fx (m_X0_needRoomForPerson_x l hl0 (D := D) (ci := ci) (cz := cz) (cj := cj) (q := q) (F := F) (P := P) (g := g) hF hP12  h5) (cwV 0 Fx.2.2.2.2 gX0_addChild_X0_needRoomForPerson rfl rfl rfl (by decide +kernel) ⟨Nat.le_of_ble_eq_true rfl, Nat.le_of_ble_eq_true rfl⟩) BW.bl (va_recv hK hP (ci := 0) (q0 := 0) rfl rfl) (BW.at hP hK hE hS) rfl hl.1 rfl (Nat.le_of_ble_eq_true rfl) dX0_addChild_11 ⟨Nat.le_of_ble_eq_true rfl, Nat.le_of_ble_eq_true rfl⟩ (fun ce q9 H1 hh hce hcv hcl => ?_)
    exact p_out hex hlocks hh hce hcv hcl ⟨1, (by simp [k_addChild, inR, inB, h1, h2, h3, h4, h5]), rfl⟩ (Nat.le_refl _) (Nat.le_refl _)
  refine r_callR (rest := []) Fx (m_X0_needRoomForPerson l (D := D) (ci := ci) (cz := cz) (cj := cj) (q := q) (F := F) (P := P) (g := g) hF hP12  h5) (cwV 0 Fx.2.2.2.2 gX0_addChild_X0_needRoomForPerson rfl rfl rfl (by decide +kernel) ⟨Nat.le_of_ble_eq_true rfl, Nat.le_of_ble_eq_true rfl⟩) BW.bl (va_recv hK hP (ci := 0) (q0 := 0) rfl rfl) (BW.at hP hK hE hS) rfl hl.1 rfl (Nat.le_of_ble_eq_true rfl) dX0_addChild_11 ⟨Nat.zero_le _, Nat.zero_le _⟩ ?_
  refine lv_aload_n hx hb dX0_addChild_14 rfl (lv_at hl 0 rfl) ?_
  refine lv_iload_n hx hb dX0_addChild_15 rfl (lv_at hl 1 rfl) ?_
  refine r_callW (rest := []) Fx (m_X0_settle l (D := D) (ci := ci) (cz := cz) (cj := cj) (q := q) (F := F) (P := P) (g := g) hq hF hP12 (nI ja) (by omega) (ha0 _ (Nat.le_refl _))) (cwV 1 Fx.2.2.2.2 gX0_addChild_X0_settle rfl rfl rfl (by decide +kernel) ⟨Nat.le_of_ble_eq_true rfl, Nat.le_of_ble_eq_true rfl⟩) BW.bl (va_recv hK hP (ci := 0) (q0 := 0) rfl rfl) (BW.at hP hK hE hS) rfl hl.1 rfl (Nat.le_of_ble_eq_true rfl) dX0_addChild_16 ⟨Nat.zero_le _, Nat.zero_le _⟩ hS (fun _ h => h) (fun H locs hP hS _ _ => ?_)
  have hP : va_P D vwCl (w0 ci cz q F (P + 1) (gPar g P (nI ja))) H := hP
  exact p_iret hx hb hr hlocks hS (hP) (by simp [k_addChild, inR, inB, h1, h2, h3, h4, h5]) (by simp [k_addChild, h1, h2, h3, h4, h5]) (Nat.zero_le _) (Nat.zero_le _) dX0_addChild_19
set_option maxHeartbeats 4000000 in
set_option maxRecDepth 100000 in
theorem m_X0_pay (l : Launch) (hl0 : l.stackTraces = false) {D : va_G} {ci cz : ClassId} {cj : ClassId × ClassId} {q : Nat → Nat} {F P : Nat} {g : Nat → Nat → Int32} (hq : DQ q 8) (hF : F ≤ 6) (hP12 : P ≤ 12) (a : Int32) (b : Int32) : vx_Met l yX0_pay wsX0_pay ({ frames := 7, cells := 1, slots := 6, locals := 103 } : Room) (va_Pc [.ref (q 0), .int a, .int b] (B0 D ci cz cj q F P g)) (PQ (k_pay P g a b) (some (.int (mn (g 4 (ix a) + b)))) (fun H => va_P D vwCl (w0 ci cz q F P (gGet g (ix a) b)) H) (aw q 8)) (PX (k_pay P g a b) [xIO, xIA, xIS]) 1 6 (aw q 8) := by
  refine vx_ofX (cc := cX0_pay) (maxL := 3) (ret := (some .int)) (by decide) rfl (Nat.le_of_ble_eq_true rfl) ?_
  intro pg en s m bl mt cd ls Fx hr hlocks hex hB hl
  obtain ⟨hP, hK, hE⟩ := hB
  have hl : lv_has ls 3 [(0, .ref (q 0)), (1, .int a), (2, .int b)] := hl
  have Fx : CallFix pg m cd cX0_pay 3 s _ wsX0_pay RX0 := Fx
  have hx := Fx.1
  have hb := Fx.2.1
  have hin : ∀ w ∈ wsX00, w ∈ wsX0_pay := by decide +kernel
  have hS : va_S (aw q 8) s.heap s.heap [] := va_S.rf
  have hP : va_P D vwCl (w0 ci cz q F P g) s.heap := hP
  refine lv_aload_n hx hb dX0_pay_0 rfl (lv_at hl 0 rfl) ?_
  refine lv_iload_n hx hb dX0_pay_1 rfl (lv_at hl 1 rfl) ?_
  by_cases h1 : inR a P
  rotate_left
  · refine r_callX (rest := []) Fx (m_X0_needPerson_x l hl0 (D := D) (ci := ci) (cz := cz) (cj := cj) (q := q) (F := F) (P := P) (g := g) hF hP12 a h1) (cwV 1 Fx.2.2.2.2 gX0_pay_X0_needPerson rfl rfl rfl (by decide +kernel) ⟨Nat.le_of_ble_eq_true rfl, Nat.le_of_ble_eq_true rfl⟩) BW.bl (va_recv hK hP (ci := 0) (q0 := 0) rfl rfl) (BW.at hP hK hE hS) rfl hl.1 rfl (Nat.le_of_ble_eq_true rfl) dX0_pay_2 ⟨Nat.le_of_ble_eq_true rfl, Nat.le_of_ble_eq_true rfl⟩ (fun ce q9 H1 hh hce hcv hcl => ?_)
    exact p_out hex hlocks hh hce hcv hcl ⟨0, (by simp [k_pay, inR, inB, h1]), rfl⟩ (Nat.le_refl _) (Nat.le_refl _)
  obtain ⟨ja, h2, rfl⟩ := inR_of h1 (by omega)
  have h3 : ix (nI ja) = ja := ix_nI (by omega)
  refine r_callR (rest := []) Fx (m_X0_needPerson l (D := D) (ci := ci) (cz := cz) (cj := cj) (q := q) (F := F) (P := P) (g := g) hF hP12 ja (by omega)) (cwV 1 Fx.2.2.2.2 gX0_pay_X0_needPerson rfl rfl rfl (by decide +kernel) ⟨Nat.le_of_ble_eq_true rfl, Nat.le_of_ble_eq_true rfl⟩) BW.bl (va_recv hK hP (ci := 0) (q0 := 0) rfl rfl) (BW.at hP hK hE hS) rfl hl.1 rfl (Nat.le_of_ble_eq_true rfl) dX0_pay_2 ⟨Nat.zero_le _, Nat.zero_le _⟩ ?_
  refine lv_iload_n hx hb dX0_pay_5 rfl (lv_at hl 2 rfl) ?_
  refine lv_iconst (v := nI 1) hx hb dX0_pay_6 (by decide) ?_
  refine lv_icmp_lt (tgt := 17) hx hb dX0_pay_7 (by decide) (fun h4 => ?_) (fun h4 => ?_)
  · exact x0_throw (cls := xIA) (text := "coins is not 1 to 9999") Fx hl0 hE hS hex hlocks (by decide +kernel) (by decide +kernel) (by decide +kernel) (by decide +kernel) (by decide +kernel) hl.1 dX0_pay_17 dX0_pay_20 dX0_pay_21 dX0_pay_23 dX0_pay_26 (Nat.le_of_ble_eq_true rfl) (Nat.le_of_ble_eq_true rfl) (Nat.le_of_ble_eq_true rfl) (Nat.le_of_ble_eq_true rfl) (fun t ht => ⟨⟨1, (by simp [k_pay, inR, inB, h1, h2, h3, h4, Int32.not_le.mpr h4]), rfl⟩, ht⟩) nin (Nat.le_refl _) (Nat.le_refl _)
  · have h4 := Int32.not_lt.mp h4
    refine lv_iload_n hx hb dX0_pay_10 rfl (lv_at hl 2 rfl) ?_
    refine lv_sipush (v := nI 9999) hx hb dX0_pay_11 (by decide) ?_
    refine lv_icmp_le (tgt := 27) hx hb dX0_pay_14 (by decide) (fun h5 => ?_) (fun h5 => ?_)
    · refine lv_aload_n hx hb dX0_pay_27 rfl (lv_at hl 0 rfl) ?_
      refine lv_iload_n hx hb dX0_pay_28 rfl (lv_at hl 1 rfl) ?_
      by_cases h6 : lv g ja = true
      rotate_left
      · refine r_callX (rest := []) Fx (m_X0_needAlive_x l hl0 (D := D) (ci := ci) (cz := cz) (cj := cj) (q := q) (F := F) (P := P) (g := g) hF hP12 ja (by omega) h6) (cwV 1 Fx.2.2.2.2 gX0_pay_X0_needAlive rfl rfl rfl (by decide +kernel) ⟨Nat.le_of_ble_eq_true rfl, Nat.le_of_ble_eq_true rfl⟩) BW.bl (va_recv hK hP (ci := 0) (q0 := 0) rfl rfl) (BW.at hP hK hE hS) rfl hl.1 rfl (Nat.le_of_ble_eq_true rfl) dX0_pay_29 ⟨Nat.le_of_ble_eq_true rfl, Nat.le_of_ble_eq_true rfl⟩ (fun ce q9 H1 hh hce hcv hcl => ?_)
        exact p_out hex hlocks hh hce hcv hcl ⟨2, (by simp [k_pay, inR, inB, h1, h2, h3, h4, Int32.not_lt.mpr h4, h5, Int32.not_lt.mpr h5, h6]), rfl⟩ (Nat.le_refl _) (Nat.le_refl _)
      refine r_callR (rest := []) Fx (m_X0_needAlive l (D := D) (ci := ci) (cz := cz) (cj := cj) (q := q) (F := F) (P := P) (g := g) hF hP12 ja (by omega) h6) (cwV 1 Fx.2.2.2.2 gX0_pay_X0_needAlive rfl rfl rfl (by decide +kernel) ⟨Nat.le_of_ble_eq_true rfl, Nat.le_of_ble_eq_true rfl⟩) BW.bl (va_recv hK hP (ci := 0) (q0 := 0) rfl rfl) (BW.at hP hK hE hS) rfl hl.1 rfl (Nat.le_of_ble_eq_true rfl) dX0_pay_29 ⟨Nat.zero_le _, Nat.zero_le _⟩ ?_
      refine lv_aload_n hx hb dX0_pay_32 rfl (lv_at hl 0 rfl) ?_
      refine lv_iload_n hx hb dX0_pay_33 rfl (lv_at hl 1 rfl) ?_
      refine lv_iload_n hx hb dX0_pay_34 rfl (lv_at hl 2 rfl) ?_
      refine r_callW (rest := []) Fx (m_X0_addCoins l (D := D) (ci := ci) (cz := cz) (cj := cj) (q := q) (F := F) (P := P) (g := g) hq hF hP12 ja b (by omega)) (cwV 2 Fx.2.2.2.2 gX0_pay_X0_addCoins rfl rfl rfl (by decide +kernel) ⟨Nat.le_of_ble_eq_true rfl, Nat.le_of_ble_eq_true rfl⟩) BW.bl (va_recv hK hP (ci := 0) (q0 := 0) rfl rfl) (BW.at hP hK hE hS) rfl hl.1 rfl (Nat.le_of_ble_eq_true rfl) dX0_pay_35 ⟨Nat.zero_le _, Nat.zero_le _⟩ hS (fun _ h => h) (fun H locs hP hS _ _ => ?_)
      have hP : va_P D vwCl (w0 ci cz q F P (gGet g ja b)) H := hP
      refine lv_aload_n hx hb dX0_pay_38 rfl (lv_at hl 0 rfl) ?_
      refine r_get Fx hin hK hP 0 rfl 6 (by decide) (by decide +kernel) rfl rfl dX0_pay_39 ?_
      refine lv_iload_n hx hb dX0_pay_42 rfl (lv_at hl 1 rfl) ?_
      refine r_iald Fx hK hP 5 0 rfl rfl (i := ja) (by omega) (by decide) dX0_pay_43 ?_
      exact p_iret hx hb hr hlocks hS (by simp only [h3]; exact hP) (by simp [k_pay, inR, inB, h1, h2, h3, h4, Int32.not_lt.mpr h4, h5, Int32.not_lt.mpr h5, h6]) (by simp [gGet, va_up, upd, h1, h2, h3, h4, Int32.not_lt.mpr h4, h5, Int32.not_lt.mpr h5, h6]) (Nat.zero_le _) (Nat.zero_le _) dX0_pay_44
    · have h5 := Int32.not_le.mp h5
      exact x0_throw (cls := xIA) (text := "coins is not 1 to 9999") Fx hl0 hE hS hex hlocks (by decide +kernel) (by decide +kernel) (by decide +kernel) (by decide +kernel) (by decide +kernel) hl.1 dX0_pay_17 dX0_pay_20 dX0_pay_21 dX0_pay_23 dX0_pay_26 (Nat.le_of_ble_eq_true rfl) (Nat.le_of_ble_eq_true rfl) (Nat.le_of_ble_eq_true rfl) (Nat.le_of_ble_eq_true rfl) (fun t ht => ⟨⟨1, (by simp [k_pay, inR, inB, h1, h2, h3, h4, Int32.not_lt.mpr h4, h5, Int32.not_le.mpr h5]), rfl⟩, ht⟩) nin (Nat.le_refl _) (Nat.le_refl _)
set_option maxHeartbeats 4000000 in
set_option maxRecDepth 100000 in
theorem m_X0_grant (l : Launch) (hl0 : l.stackTraces = false) {D : va_G} {ci cz : ClassId} {cj : ClassId × ClassId} {q : Nat → Nat} {F P : Nat} {g : Nat → Nat → Int32} (hq : DQ q 8) (hF : F ≤ 6) (hP12 : P ≤ 12) (f : Int32) (w : Int32) (a : Int32) (b : Int32) : vx_Met l yX0_grant wsX0_grant ({ frames := 7, cells := 1, slots := 6, locals := 103 } : Room) (va_Pc [.ref (q 0), .int f, .int w, .int a, .int b] (B0 D ci cz cj q F P g)) (PQ (k_grant F P g f w a b) (some (.int (sCro (gAdd g (ix f) (ix w) (ix a) b) P (ix f) (ix w)))) (fun H => va_P D vwCl (w0 ci cz q F P (gAdd g (ix f) (ix w) (ix a) b)) H) (aw q 8)) (PX (k_grant F P g f w a b) [xIO, xIA, xIS]) 1 6 (aw q 8) := by
  refine vx_ofX (cc := cX0_grant) (maxL := 5) (ret := (some .int)) (by decide) rfl (Nat.le_of_ble_eq_true rfl) ?_
  intro pg en s m bl mt cd ls Fx hr hlocks hex hB hl
  obtain ⟨hP, hK, hE⟩ := hB
  have hl : lv_has ls 5 [(0, .ref (q 0)), (1, .int f), (2, .int w), (3, .int a), (4, .int b)] := hl
  have Fx : CallFix pg m cd cX0_grant 5 s _ wsX0_grant RX0 := Fx
  have hx := Fx.1
  have hb := Fx.2.1
  have hS : va_S (aw q 8) s.heap s.heap [] := va_S.rf
  have hP : va_P D vwCl (w0 ci cz q F P g) s.heap := hP
  refine lv_aload_n hx hb dX0_grant_0 rfl (lv_at hl 0 rfl) ?_
  refine lv_iload_n hx hb dX0_grant_1 rfl (lv_at hl 1 rfl) ?_
  by_cases h1 : inR f F
  rotate_left
  · refine r_callX (rest := []) Fx (m_X0_needFerry_x l hl0 (D := D) (ci := ci) (cz := cz) (cj := cj) (q := q) (F := F) (P := P) (g := g) hF hP12 f h1) (cwV 1 Fx.2.2.2.2 gX0_grant_X0_needFerry rfl rfl rfl (by decide +kernel) ⟨Nat.le_of_ble_eq_true rfl, Nat.le_of_ble_eq_true rfl⟩) BW.bl (va_recv hK hP (ci := 0) (q0 := 0) rfl rfl) (BW.at hP hK hE hS) rfl hl.1 rfl (Nat.le_of_ble_eq_true rfl) dX0_grant_2 ⟨Nat.le_of_ble_eq_true rfl, Nat.le_of_ble_eq_true rfl⟩ (fun ce q9 H1 hh hce hcv hcl => ?_)
    exact p_out hex hlocks hh hce hcv hcl ⟨0, (by simp [k_grant, inR, inB, h1]), rfl⟩ (Nat.le_refl _) (Nat.le_refl _)
  obtain ⟨jf, h2, rfl⟩ := inR_of h1 (by omega)
  have h3 : ix (nI jf) = jf := ix_nI (by omega)
  refine r_callR (rest := []) Fx (m_X0_needFerry l (D := D) (ci := ci) (cz := cz) (cj := cj) (q := q) (F := F) (P := P) (g := g) hF hP12 jf (by omega)) (cwV 1 Fx.2.2.2.2 gX0_grant_X0_needFerry rfl rfl rfl (by decide +kernel) ⟨Nat.le_of_ble_eq_true rfl, Nat.le_of_ble_eq_true rfl⟩) BW.bl (va_recv hK hP (ci := 0) (q0 := 0) rfl rfl) (BW.at hP hK hE hS) rfl hl.1 rfl (Nat.le_of_ble_eq_true rfl) dX0_grant_2 ⟨Nat.zero_le _, Nat.zero_le _⟩ ?_
  refine lv_iload_n hx hb dX0_grant_5 rfl (lv_at hl 2 rfl) ?_
  by_cases h4 : inR w 4
  rotate_left
  · refine r_callXS (rest := []) Fx (m_X0_needWatch_x l hl0 (D := D) (ci := ci) (cz := cz) (cj := cj) (q := q) (F := F) (P := P) (g := g) hF hP12 w h4) (va_cwS 1 Fx.2.2.2.2 gX0_grant_X0_needWatch rfl rfl rfl (by decide +kernel) ⟨Nat.le_of_ble_eq_true rfl, Nat.le_of_ble_eq_true rfl⟩) BW.bl (BW.at hP hK hE hS) rfl hl.1 rfl (Nat.le_of_ble_eq_true rfl) dX0_grant_6 ⟨Nat.le_of_ble_eq_true rfl, Nat.le_of_ble_eq_true rfl⟩ (fun ce q9 H1 hh hce hcv hcl => ?_)
    exact p_out hex hlocks hh hce hcv hcl ⟨0, (by simp [k_grant, inR, inB, h1, h2, h3, h4]), rfl⟩ (Nat.le_refl _) (Nat.le_refl _)
  obtain ⟨jw, h5, rfl⟩ := inR_of h4 (by omega)
  have h6 : ix (nI jw) = jw := ix_nI (by omega)
  refine r_callRS (rest := []) Fx (m_X0_needWatch l (D := D) (ci := ci) (cz := cz) (cj := cj) (q := q) (F := F) (P := P) (g := g) hF hP12 jw (by omega)) (va_cwS 1 Fx.2.2.2.2 gX0_grant_X0_needWatch rfl rfl rfl (by decide +kernel) ⟨Nat.le_of_ble_eq_true rfl, Nat.le_of_ble_eq_true rfl⟩) BW.bl (BW.at hP hK hE hS) rfl hl.1 rfl (Nat.le_of_ble_eq_true rfl) dX0_grant_6 ⟨Nat.zero_le _, Nat.zero_le _⟩ ?_
  refine lv_aload_n hx hb dX0_grant_9 rfl (lv_at hl 0 rfl) ?_
  refine lv_iload_n hx hb dX0_grant_10 rfl (lv_at hl 3 rfl) ?_
  by_cases h7 : inR a P
  rotate_left
  · refine r_callX (rest := []) Fx (m_X0_needPerson_x l hl0 (D := D) (ci := ci) (cz := cz) (cj := cj) (q := q) (F := F) (P := P) (g := g) hF hP12 a h7) (cwV 1 Fx.2.2.2.2 gX0_grant_X0_needPerson rfl rfl rfl (by decide +kernel) ⟨Nat.le_of_ble_eq_true rfl, Nat.le_of_ble_eq_true rfl⟩) BW.bl (va_recv hK hP (ci := 0) (q0 := 0) rfl rfl) (BW.at hP hK hE hS) rfl hl.1 rfl (Nat.le_of_ble_eq_true rfl) dX0_grant_11 ⟨Nat.le_of_ble_eq_true rfl, Nat.le_of_ble_eq_true rfl⟩ (fun ce q9 H1 hh hce hcv hcl => ?_)
    exact p_out hex hlocks hh hce hcv hcl ⟨0, (by simp [k_grant, inR, inB, h1, h2, h3, h4, h5, h6, h7]), rfl⟩ (Nat.le_refl _) (Nat.le_refl _)
  obtain ⟨ja, h8, rfl⟩ := inR_of h7 (by omega)
  have h9 : ix (nI ja) = ja := ix_nI (by omega)
  refine r_callR (rest := []) Fx (m_X0_needPerson l (D := D) (ci := ci) (cz := cz) (cj := cj) (q := q) (F := F) (P := P) (g := g) hF hP12 ja (by omega)) (cwV 1 Fx.2.2.2.2 gX0_grant_X0_needPerson rfl rfl rfl (by decide +kernel) ⟨Nat.le_of_ble_eq_true rfl, Nat.le_of_ble_eq_true rfl⟩) BW.bl (va_recv hK hP (ci := 0) (q0 := 0) rfl rfl) (BW.at hP hK hE hS) rfl hl.1 rfl (Nat.le_of_ble_eq_true rfl) dX0_grant_11 ⟨Nat.zero_le _, Nat.zero_le _⟩ ?_
  refine lv_iload hx hb dX0_grant_14 (lv_at hl 4 rfl) ?_
  by_cases h10 : inB 1 64 b
  rotate_left
  · refine r_callXS (rest := []) Fx (m_X0_needShares_x l hl0 (D := D) (ci := ci) (cz := cz) (cj := cj) (q := q) (F := F) (P := P) (g := g) hF hP12 b h10) (va_cwS 1 Fx.2.2.2.2 gX0_grant_X0_needShares rfl rfl rfl (by decide +kernel) ⟨Nat.le_of_ble_eq_true rfl, Nat.le_of_ble_eq_true rfl⟩) BW.bl (BW.at hP hK hE hS) rfl hl.1 rfl (Nat.le_of_ble_eq_true rfl) dX0_grant_16 ⟨Nat.le_of_ble_eq_true rfl, Nat.le_of_ble_eq_true rfl⟩ (fun ce q9 H1 hh hce hcv hcl => ?_)
    exact p_out hex hlocks hh hce hcv hcl ⟨1, (by simp [k_grant, inR, inB, h1, h2, h3, h4, h5, h6, h7, h8, h9, h10]), rfl⟩ (Nat.le_refl _) (Nat.le_refl _)
  refine r_callRS (rest := []) Fx (m_X0_needShares l (D := D) (ci := ci) (cz := cz) (cj := cj) (q := q) (F := F) (P := P) (g := g) hF hP12 b h10) (va_cwS 1 Fx.2.2.2.2 gX0_grant_X0_needShares rfl rfl rfl (by decide +kernel) ⟨Nat.le_of_ble_eq_true rfl, Nat.le_of_ble_eq_true rfl⟩) BW.bl (BW.at hP hK hE hS) rfl hl.1 rfl (Nat.le_of_ble_eq_true rfl) dX0_grant_16 ⟨Nat.zero_le _, Nat.zero_le _⟩ ?_
  refine lv_aload_n hx hb dX0_grant_19 rfl (lv_at hl 0 rfl) ?_
  refine lv_iload_n hx hb dX0_grant_20 rfl (lv_at hl 3 rfl) ?_
  by_cases h11 : lv g ja = true
  rotate_left
  · refine r_callX (rest := []) Fx (m_X0_needAlive_x l hl0 (D := D) (ci := ci) (cz := cz) (cj := cj) (q := q) (F := F) (P := P) (g := g) hF hP12 ja (by omega) h11) (cwV 1 Fx.2.2.2.2 gX0_grant_X0_needAlive rfl rfl rfl (by decide +kernel) ⟨Nat.le_of_ble_eq_true rfl, Nat.le_of_ble_eq_true rfl⟩) BW.bl (va_recv hK hP (ci := 0) (q0 := 0) rfl rfl) (BW.at hP hK hE hS) rfl hl.1 rfl (Nat.le_of_ble_eq_true rfl) dX0_grant_21 ⟨Nat.le_of_ble_eq_true rfl, Nat.le_of_ble_eq_true rfl⟩ (fun ce q9 H1 hh hce hcv hcl => ?_)
    exact p_out hex hlocks hh hce hcv hcl ⟨2, (by simp [k_grant, inR, inB, h1, h2, h3, h4, h5, h6, h7, h8, h9, h10, h11]), rfl⟩ (Nat.le_refl _) (Nat.le_refl _)
  refine r_callR (rest := []) Fx (m_X0_needAlive l (D := D) (ci := ci) (cz := cz) (cj := cj) (q := q) (F := F) (P := P) (g := g) hF hP12 ja (by omega) h11) (cwV 1 Fx.2.2.2.2 gX0_grant_X0_needAlive rfl rfl rfl (by decide +kernel) ⟨Nat.le_of_ble_eq_true rfl, Nat.le_of_ble_eq_true rfl⟩) BW.bl (va_recv hK hP (ci := 0) (q0 := 0) rfl rfl) (BW.at hP hK hE hS) rfl hl.1 rfl (Nat.le_of_ble_eq_true rfl) dX0_grant_21 ⟨Nat.zero_le _, Nat.zero_le _⟩ ?_
  refine lv_aload_n hx hb dX0_grant_24 rfl (lv_at hl 0 rfl) ?_
  refine lv_iload_n hx hb dX0_grant_25 rfl (lv_at hl 1 rfl) ?_
  refine lv_iload_n hx hb dX0_grant_26 rfl (lv_at hl 2 rfl) ?_
  refine r_callR (rest := []) Fx (m_X0_crownOwns l (D := D) (ci := ci) (cz := cz) (cj := cj) (q := q) (F := F) (P := P) (g := g) hF hP12 jf jw (by omega) (by omega)) (cwV 2 Fx.2.2.2.2 gX0_grant_X0_crownOwns rfl rfl rfl (by decide +kernel) ⟨Nat.le_of_ble_eq_true rfl, Nat.le_of_ble_eq_true rfl⟩) BW.bl (va_recv hK hP (ci := 0) (q0 := 0) rfl rfl) (BW.at hP hK hE hS) rfl hl.1 rfl (Nat.le_of_ble_eq_true rfl) dX0_grant_27 ⟨Nat.zero_le _, Nat.zero_le _⟩ ?_
  refine lv_iload hx hb dX0_grant_30 (lv_at hl 4 rfl) ?_
  refine lv_icmp_ge (tgt := 45) hx hb dX0_grant_32 (by decide) (fun h12 => ?_) (fun h12 => ?_)
  · refine lv_aload_n hx hb dX0_grant_45 rfl (lv_at hl 0 rfl) ?_
    refine lv_iload_n hx hb dX0_grant_46 rfl (lv_at hl 1 rfl) ?_
    refine lv_iload_n hx hb dX0_grant_47 rfl (lv_at hl 2 rfl) ?_
    refine lv_iload_n hx hb dX0_grant_48 rfl (lv_at hl 3 rfl) ?_
    refine lv_iload hx hb dX0_grant_49 (lv_at hl 4 rfl) ?_
    refine r_callW (rest := []) Fx (m_X0_addShares l (D := D) (ci := ci) (cz := cz) (cj := cj) (q := q) (F := F) (P := P) (g := g) hq hF hP12 jf jw ja b (by omega) (by omega) (by omega)) (cwV 4 Fx.2.2.2.2 gX0_grant_X0_addShares rfl rfl rfl (by decide +kernel) ⟨Nat.le_of_ble_eq_true rfl, Nat.le_of_ble_eq_true rfl⟩) BW.bl (va_recv hK hP (ci := 0) (q0 := 0) rfl rfl) (BW.at hP hK hE hS) rfl hl.1 rfl (Nat.le_of_ble_eq_true rfl) dX0_grant_51 ⟨Nat.zero_le _, Nat.zero_le _⟩ hS (fun _ h => h) (fun H locs hP hS _ _ => ?_)
    have hP : va_P D vwCl (w0 ci cz q F P (gAdd g jf jw ja b)) H := hP
    refine lv_aload_n hx hb dX0_grant_54 rfl (lv_at hl 0 rfl) ?_
    refine lv_iload_n hx hb dX0_grant_55 rfl (lv_at hl 1 rfl) ?_
    refine lv_iload_n hx hb dX0_grant_56 rfl (lv_at hl 2 rfl) ?_
    refine r_callR (rest := []) Fx (m_X0_crownOwns l (D := D) (ci := ci) (cz := cz) (cj := cj) (q := q) (F := F) (P := P) (g := gAdd g jf jw ja b) hF hP12 jf jw (by omega) (by omega)) (cwV 2 Fx.2.2.2.2 gX0_grant_X0_crownOwns rfl rfl rfl (by decide +kernel) ⟨Nat.le_of_ble_eq_true rfl, Nat.le_of_ble_eq_true rfl⟩) BW.bl (va_recv hK hP (ci := 0) (q0 := 0) rfl rfl) (BW.at hP hK hE hS) rfl hl.1 rfl (Nat.le_of_ble_eq_true rfl) dX0_grant_57 ⟨Nat.zero_le _, Nat.zero_le _⟩ ?_
    exact p_iret hx hb hr hlocks hS (by simp only [h3, h6, h9]; exact hP) (by simp [k_grant, inR, inB, h1, h2, h3, h4, h5, h6, h7, h8, h9, h10, h11, h12, Int32.not_lt.mpr h12]) (by simp [k_grant, h1, h2, h3, h4, h5, h6, h7, h8, h9, h10, h11, h12, Int32.not_lt.mpr h12]) (Nat.zero_le _) (Nat.zero_le _) dX0_grant_60
  · have h12 := Int32.not_le.mp h12
    exact x0_throw (cls := xIS) (text := "the crown has not so many shares") Fx hl0 hE hS hex hlocks (by decide +kernel) (by decide +kernel) (by decide +kernel) (by decide +kernel) (by decide +kernel) hl.1 dX0_grant_35 dX0_grant_38 dX0_grant_39 dX0_grant_41 dX0_grant_44 (Nat.le_of_ble_eq_true rfl) (Nat.le_of_ble_eq_true rfl) (Nat.le_of_ble_eq_true rfl) (Nat.le_of_ble_eq_true rfl) (fun t ht => ⟨⟨2, (by simp [k_grant, inR, inB, h1, h2, h3, h4, h5, h6, h7, h8, h9, h10, h11, h12, Int32.not_le.mpr h12]), rfl⟩, ht⟩) nin (Nat.le_refl _) (Nat.le_refl _)
set_option maxHeartbeats 4000000 in
set_option maxRecDepth 100000 in
theorem m_X0_give (l : Launch) (hl0 : l.stackTraces = false) {D : va_G} {ci cz : ClassId} {cj : ClassId × ClassId} {q : Nat → Nat} {F P : Nat} {g : Nat → Nat → Int32} (hq : DQ q 8) (hF : F ≤ 6) (hP12 : P ≤ 12) (a : Int32) (b : Int32) (f : Int32) (w : Int32) (n : Int32) : vx_Met l yX0_give wsX0_give ({ frames := 7, cells := 1, slots := 6, locals := 103 } : Room) (va_Pc [.ref (q 0), .int a, .int b, .int f, .int w, .int n] (B0 D ci cz cj q F P g)) (PQ (k_give F P g a b f w n) (some (.int (own (gGiv g (ix a) (ix b) (ix f) (ix w) n) (ix f) (ix w) (ix b)))) (fun H => va_P D vwCl (w0 ci cz q F P (gGiv g (ix a) (ix b) (ix f) (ix w) n)) H) (aw q 8)) (PX (k_give F P g a b f w n) [xIO, xIA, xIS]) 1 6 (aw q 8) := by
  refine vx_ofX (cc := cX0_give) (maxL := 6) (ret := (some .int)) (by decide) rfl (Nat.le_of_ble_eq_true rfl) ?_
  intro pg en s m bl mt cd ls Fx hr hlocks hex hB hl
  obtain ⟨hP, hK, hE⟩ := hB
  have hl : lv_has ls 6 [(0, .ref (q 0)), (1, .int a), (2, .int b), (3, .int f), (4, .int w), (5, .int n)] := hl
  have Fx : CallFix pg m cd cX0_give 6 s _ wsX0_give RX0 := Fx
  have hx := Fx.1
  have hb := Fx.2.1
  have hS : va_S (aw q 8) s.heap s.heap [] := va_S.rf
  have hP : va_P D vwCl (w0 ci cz q F P g) s.heap := hP
  refine lv_aload_n hx hb dX0_give_0 rfl (lv_at hl 0 rfl) ?_
  refine lv_iload_n hx hb dX0_give_1 rfl (lv_at hl 1 rfl) ?_
  by_cases h1 : inR a P
  rotate_left
  · refine r_callX (rest := []) Fx (m_X0_needPerson_x l hl0 (D := D) (ci := ci) (cz := cz) (cj := cj) (q := q) (F := F) (P := P) (g := g) hF hP12 a h1) (cwV 1 Fx.2.2.2.2 gX0_give_X0_needPerson rfl rfl rfl (by decide +kernel) ⟨Nat.le_of_ble_eq_true rfl, Nat.le_of_ble_eq_true rfl⟩) BW.bl (va_recv hK hP (ci := 0) (q0 := 0) rfl rfl) (BW.at hP hK hE hS) rfl hl.1 rfl (Nat.le_of_ble_eq_true rfl) dX0_give_2 ⟨Nat.le_of_ble_eq_true rfl, Nat.le_of_ble_eq_true rfl⟩ (fun ce q9 H1 hh hce hcv hcl => ?_)
    exact p_out hex hlocks hh hce hcv hcl ⟨0, (by simp [k_give, inR, inB, h1]), rfl⟩ (Nat.le_refl _) (Nat.le_refl _)
  obtain ⟨ja, h2, rfl⟩ := inR_of h1 (by omega)
  have h3 : ix (nI ja) = ja := ix_nI (by omega)
  refine r_callR (rest := []) Fx (m_X0_needPerson l (D := D) (ci := ci) (cz := cz) (cj := cj) (q := q) (F := F) (P := P) (g := g) hF hP12 ja (by omega)) (cwV 1 Fx.2.2.2.2 gX0_give_X0_needPerson rfl rfl rfl (by decide +kernel) ⟨Nat.le_of_ble_eq_true rfl, Nat.le_of_ble_eq_true rfl⟩) BW.bl (va_recv hK hP (ci := 0) (q0 := 0) rfl rfl) (BW.at hP hK hE hS) rfl hl.1 rfl (Nat.le_of_ble_eq_true rfl) dX0_give_2 ⟨Nat.zero_le _, Nat.zero_le _⟩ ?_
  refine lv_aload_n hx hb dX0_give_5 rfl (lv_at hl 0 rfl) ?_
  refine lv_iload_n hx hb dX0_give_6 rfl (lv_at hl 2 rfl) ?_
  by_cases h4 : inR b P
  rotate_left
  · refine r_callX (rest := []) Fx (m_X0_needPerson_x l hl0 (D := D) (ci := ci) (cz := cz) (cj := cj) (q := q) (F := F) (P := P) (g := g) hF hP12 b h4) (cwV 1 Fx.2.2.2.2 gX0_give_X0_needPerson rfl rfl rfl (by decide +kernel) ⟨Nat.le_of_ble_eq_true rfl, Nat.le_of_ble_eq_true rfl⟩) BW.bl (va_recv hK hP (ci := 0) (q0 := 0) rfl rfl) (BW.at hP hK hE hS) rfl hl.1 rfl (Nat.le_of_ble_eq_true rfl) dX0_give_7 ⟨Nat.le_of_ble_eq_true rfl, Nat.le_of_ble_eq_true rfl⟩ (fun ce q9 H1 hh hce hcv hcl => ?_)
    exact p_out hex hlocks hh hce hcv hcl ⟨0, (by simp [k_give, inR, inB, h1, h2, h3, h4]), rfl⟩ (Nat.le_refl _) (Nat.le_refl _)
  obtain ⟨jb, h5, rfl⟩ := inR_of h4 (by omega)
  have h6 : ix (nI jb) = jb := ix_nI (by omega)
  refine r_callR (rest := []) Fx (m_X0_needPerson l (D := D) (ci := ci) (cz := cz) (cj := cj) (q := q) (F := F) (P := P) (g := g) hF hP12 jb (by omega)) (cwV 1 Fx.2.2.2.2 gX0_give_X0_needPerson rfl rfl rfl (by decide +kernel) ⟨Nat.le_of_ble_eq_true rfl, Nat.le_of_ble_eq_true rfl⟩) BW.bl (va_recv hK hP (ci := 0) (q0 := 0) rfl rfl) (BW.at hP hK hE hS) rfl hl.1 rfl (Nat.le_of_ble_eq_true rfl) dX0_give_7 ⟨Nat.zero_le _, Nat.zero_le _⟩ ?_
  refine lv_aload_n hx hb dX0_give_10 rfl (lv_at hl 0 rfl) ?_
  refine lv_iload_n hx hb dX0_give_11 rfl (lv_at hl 3 rfl) ?_
  by_cases h7 : inR f F
  rotate_left
  · refine r_callX (rest := []) Fx (m_X0_needFerry_x l hl0 (D := D) (ci := ci) (cz := cz) (cj := cj) (q := q) (F := F) (P := P) (g := g) hF hP12 f h7) (cwV 1 Fx.2.2.2.2 gX0_give_X0_needFerry rfl rfl rfl (by decide +kernel) ⟨Nat.le_of_ble_eq_true rfl, Nat.le_of_ble_eq_true rfl⟩) BW.bl (va_recv hK hP (ci := 0) (q0 := 0) rfl rfl) (BW.at hP hK hE hS) rfl hl.1 rfl (Nat.le_of_ble_eq_true rfl) dX0_give_12 ⟨Nat.le_of_ble_eq_true rfl, Nat.le_of_ble_eq_true rfl⟩ (fun ce q9 H1 hh hce hcv hcl => ?_)
    exact p_out hex hlocks hh hce hcv hcl ⟨0, (by simp [k_give, inR, inB, h1, h2, h3, h4, h5, h6, h7]), rfl⟩ (Nat.le_refl _) (Nat.le_refl _)
  obtain ⟨jf, h8, rfl⟩ := inR_of h7 (by omega)
  have h9 : ix (nI jf) = jf := ix_nI (by omega)
  refine r_callR (rest := []) Fx (m_X0_needFerry l (D := D) (ci := ci) (cz := cz) (cj := cj) (q := q) (F := F) (P := P) (g := g) hF hP12 jf (by omega)) (cwV 1 Fx.2.2.2.2 gX0_give_X0_needFerry rfl rfl rfl (by decide +kernel) ⟨Nat.le_of_ble_eq_true rfl, Nat.le_of_ble_eq_true rfl⟩) BW.bl (va_recv hK hP (ci := 0) (q0 := 0) rfl rfl) (BW.at hP hK hE hS) rfl hl.1 rfl (Nat.le_of_ble_eq_true rfl) dX0_give_12 ⟨Nat.zero_le _, Nat.zero_le _⟩ ?_
  refine lv_iload hx hb dX0_give_15 (lv_at hl 4 rfl) ?_
  by_cases h10 : inR w 4
  rotate_left
  · refine r_callXS (rest := []) Fx (m_X0_needWatch_x l hl0 (D := D) (ci := ci) (cz := cz) (cj := cj) (q := q) (F := F) (P := P) (g := g) hF hP12 w h10) (va_cwS 1 Fx.2.2.2.2 gX0_give_X0_needWatch rfl rfl rfl (by decide +kernel) ⟨Nat.le_of_ble_eq_true rfl, Nat.le_of_ble_eq_true rfl⟩) BW.bl (BW.at hP hK hE hS) rfl hl.1 rfl (Nat.le_of_ble_eq_true rfl) dX0_give_17 ⟨Nat.le_of_ble_eq_true rfl, Nat.le_of_ble_eq_true rfl⟩ (fun ce q9 H1 hh hce hcv hcl => ?_)
    exact p_out hex hlocks hh hce hcv hcl ⟨0, (by simp [k_give, inR, inB, h1, h2, h3, h4, h5, h6, h7, h8, h9, h10]), rfl⟩ (Nat.le_refl _) (Nat.le_refl _)
  obtain ⟨jw, h11, rfl⟩ := inR_of h10 (by omega)
  have h12 : ix (nI jw) = jw := ix_nI (by omega)
  refine r_callRS (rest := []) Fx (m_X0_needWatch l (D := D) (ci := ci) (cz := cz) (cj := cj) (q := q) (F := F) (P := P) (g := g) hF hP12 jw (by omega)) (va_cwS 1 Fx.2.2.2.2 gX0_give_X0_needWatch rfl rfl rfl (by decide +kernel) ⟨Nat.le_of_ble_eq_true rfl, Nat.le_of_ble_eq_true rfl⟩) BW.bl (BW.at hP hK hE hS) rfl hl.1 rfl (Nat.le_of_ble_eq_true rfl) dX0_give_17 ⟨Nat.zero_le _, Nat.zero_le _⟩ ?_
  refine lv_iload hx hb dX0_give_20 (lv_at hl 5 rfl) ?_
  by_cases h13 : inB 1 64 n
  rotate_left
  · refine r_callXS (rest := []) Fx (m_X0_needShares_x l hl0 (D := D) (ci := ci) (cz := cz) (cj := cj) (q := q) (F := F) (P := P) (g := g) hF hP12 n h13) (va_cwS 1 Fx.2.2.2.2 gX0_give_X0_needShares rfl rfl rfl (by decide +kernel) ⟨Nat.le_of_ble_eq_true rfl, Nat.le_of_ble_eq_true rfl⟩) BW.bl (BW.at hP hK hE hS) rfl hl.1 rfl (Nat.le_of_ble_eq_true rfl) dX0_give_22 ⟨Nat.le_of_ble_eq_true rfl, Nat.le_of_ble_eq_true rfl⟩ (fun ce q9 H1 hh hce hcv hcl => ?_)
    exact p_out hex hlocks hh hce hcv hcl ⟨1, (by simp [k_give, inR, inB, h1, h2, h3, h4, h5, h6, h7, h8, h9, h10, h11, h12, h13]), rfl⟩ (Nat.le_refl _) (Nat.le_refl _)
  refine r_callRS (rest := []) Fx (m_X0_needShares l (D := D) (ci := ci) (cz := cz) (cj := cj) (q := q) (F := F) (P := P) (g := g) hF hP12 n h13) (va_cwS 1 Fx.2.2.2.2 gX0_give_X0_needShares rfl rfl rfl (by decide +kernel) ⟨Nat.le_of_ble_eq_true rfl, Nat.le_of_ble_eq_true rfl⟩) BW.bl (BW.at hP hK hE hS) rfl hl.1 rfl (Nat.le_of_ble_eq_true rfl) dX0_give_22 ⟨Nat.zero_le _, Nat.zero_le _⟩ ?_
  refine lv_iload_n hx hb dX0_give_25 rfl (lv_at hl 1 rfl) ?_
  refine lv_iload_n hx hb dX0_give_26 rfl (lv_at hl 2 rfl) ?_
  refine n_icmp_ne (tgt := 40) hx hb (by omega) (by omega) dX0_give_27 (by decide) (fun h14 => ?_) (fun h14 => ?_)
  · have h15 : ¬ nI ja = nI jb := fun e9 => h14 ((nI_eq (by omega) (by omega)).mp e9)
    refine lv_aload_n hx hb dX0_give_40 rfl (lv_at hl 0 rfl) ?_
    refine lv_iload_n hx hb dX0_give_41 rfl (lv_at hl 2 rfl) ?_
    by_cases h16 : lv g jb = true
    rotate_left
    · refine r_callX (rest := []) Fx (m_X0_needAlive_x l hl0 (D := D) (ci := ci) (cz := cz) (cj := cj) (q := q) (F := F) (P := P) (g := g) hF hP12 jb (by omega) h16) (cwV 1 Fx.2.2.2.2 gX0_give_X0_needAlive rfl rfl rfl (by decide +kernel) ⟨Nat.le_of_ble_eq_true rfl, Nat.le_of_ble_eq_true rfl⟩) BW.bl (va_recv hK hP (ci := 0) (q0 := 0) rfl rfl) (BW.at hP hK hE hS) rfl hl.1 rfl (Nat.le_of_ble_eq_true rfl) dX0_give_42 ⟨Nat.le_of_ble_eq_true rfl, Nat.le_of_ble_eq_true rfl⟩ (fun ce q9 H1 hh hce hcv hcl => ?_)
      exact p_out hex hlocks hh hce hcv hcl ⟨2, (by simp [k_give, inR, inB, h1, h2, h3, h4, h5, h6, h7, h8, h9, h10, h11, h12, h13, h14, h15, h16]), rfl⟩ (Nat.le_refl _) (Nat.le_refl _)
    refine r_callR (rest := []) Fx (m_X0_needAlive l (D := D) (ci := ci) (cz := cz) (cj := cj) (q := q) (F := F) (P := P) (g := g) hF hP12 jb (by omega) h16) (cwV 1 Fx.2.2.2.2 gX0_give_X0_needAlive rfl rfl rfl (by decide +kernel) ⟨Nat.le_of_ble_eq_true rfl, Nat.le_of_ble_eq_true rfl⟩) BW.bl (va_recv hK hP (ci := 0) (q0 := 0) rfl rfl) (BW.at hP hK hE hS) rfl hl.1 rfl (Nat.le_of_ble_eq_true rfl) dX0_give_42 ⟨Nat.zero_le _, Nat.zero_le _⟩ ?_
    refine lv_aload_n hx hb dX0_give_45 rfl (lv_at hl 0 rfl) ?_
    refine lv_iload_n hx hb dX0_give_46 rfl (lv_at hl 3 rfl) ?_
    refine lv_iload hx hb dX0_give_47 (lv_at hl 4 rfl) ?_
    refine lv_iload_n hx hb dX0_give_49 rfl (lv_at hl 1 rfl) ?_
    refine r_callR (rest := []) Fx (m_X0_owns l (D := D) (ci := ci) (cz := cz) (cj := cj) (q := q) (F := F) (P := P) (g := g) hF hP12 jf jw ja (by omega) (by omega) (by omega)) (cwV 3 Fx.2.2.2.2 gX0_give_X0_owns rfl rfl rfl (by decide +kernel) ⟨Nat.le_of_ble_eq_true rfl, Nat.le_of_ble_eq_true rfl⟩) BW.bl (va_recv hK hP (ci := 0) (q0 := 0) rfl rfl) (BW.at hP hK hE hS) rfl hl.1 rfl (Nat.le_of_ble_eq_true rfl) dX0_give_50 ⟨Nat.zero_le _, Nat.zero_le _⟩ ?_
    refine lv_iload hx hb dX0_give_53 (lv_at hl 5 rfl) ?_
    refine lv_icmp_ge (tgt := 68) hx hb dX0_give_55 (by decide) (fun h17 => ?_) (fun h17 => ?_)
    · refine lv_aload_n hx hb dX0_give_68 rfl (lv_at hl 0 rfl) ?_
      refine lv_iload_n hx hb dX0_give_69 rfl (lv_at hl 3 rfl) ?_
      refine lv_iload hx hb dX0_give_70 (lv_at hl 4 rfl) ?_
      refine lv_iload_n hx hb dX0_give_72 rfl (lv_at hl 1 rfl) ?_
      refine lv_iload hx hb dX0_give_73 (lv_at hl 5 rfl) ?_
      refine lv_ineg hx hb dX0_give_75 ?_
      refine r_callW (rest := []) Fx (m_X0_addShares l (D := D) (ci := ci) (cz := cz) (cj := cj) (q := q) (F := F) (P := P) (g := g) hq hF hP12 jf jw ja (-n) (by omega) (by omega) (by omega)) (cwV 4 Fx.2.2.2.2 gX0_give_X0_addShares rfl rfl rfl (by decide +kernel) ⟨Nat.le_of_ble_eq_true rfl, Nat.le_of_ble_eq_true rfl⟩) BW.bl (va_recv hK hP (ci := 0) (q0 := 0) rfl rfl) (BW.at hP hK hE hS) rfl hl.1 rfl (Nat.le_of_ble_eq_true rfl) dX0_give_76 ⟨Nat.zero_le _, Nat.zero_le _⟩ hS (fun _ h => h) (fun H locs hP hS _ _ => ?_)
      have hP : va_P D vwCl (w0 ci cz q F P (gAdd g jf jw ja (-n))) H := hP
      refine lv_aload_n hx hb dX0_give_79 rfl (lv_at hl 0 rfl) ?_
      refine lv_iload_n hx hb dX0_give_80 rfl (lv_at hl 3 rfl) ?_
      refine lv_iload hx hb dX0_give_81 (lv_at hl 4 rfl) ?_
      refine lv_iload_n hx hb dX0_give_83 rfl (lv_at hl 2 rfl) ?_
      refine lv_iload hx hb dX0_give_84 (lv_at hl 5 rfl) ?_
      refine r_callW (rest := []) Fx (m_X0_addShares l (D := D) (ci := ci) (cz := cz) (cj := cj) (q := q) (F := F) (P := P) (g := gAdd g jf jw ja (-n)) hq hF hP12 jf jw jb n (by omega) (by omega) (by omega)) (cwV 4 Fx.2.2.2.2 gX0_give_X0_addShares rfl rfl rfl (by decide +kernel) ⟨Nat.le_of_ble_eq_true rfl, Nat.le_of_ble_eq_true rfl⟩) BW.bl (va_recv hK hP (ci := 0) (q0 := 0) rfl rfl) (BW.at hP hK hE hS) rfl hl.1 rfl (Nat.le_of_ble_eq_true rfl) dX0_give_86 ⟨Nat.zero_le _, Nat.zero_le _⟩ hS (fun _ h => h) (fun H locs hP hS _ _ => ?_)
      have hP : va_P D vwCl (w0 ci cz q F P (gAdd (gAdd g jf jw ja (-n)) jf jw jb n)) H := hP
      refine lv_aload_n hx hb dX0_give_89 rfl (lv_at hl 0 rfl) ?_
      refine lv_iload_n hx hb dX0_give_90 rfl (lv_at hl 3 rfl) ?_
      refine lv_iload hx hb dX0_give_91 (lv_at hl 4 rfl) ?_
      refine lv_iload_n hx hb dX0_give_93 rfl (lv_at hl 2 rfl) ?_
      refine r_callR (rest := []) Fx (m_X0_owns l (D := D) (ci := ci) (cz := cz) (cj := cj) (q := q) (F := F) (P := P) (g := gAdd (gAdd g jf jw ja (-n)) jf jw jb n) hF hP12 jf jw jb (by omega) (by omega) (by omega)) (cwV 3 Fx.2.2.2.2 gX0_give_X0_owns rfl rfl rfl (by decide +kernel) ⟨Nat.le_of_ble_eq_true rfl, Nat.le_of_ble_eq_true rfl⟩) BW.bl (va_recv hK hP (ci := 0) (q0 := 0) rfl rfl) (BW.at hP hK hE hS) rfl hl.1 rfl (Nat.le_of_ble_eq_true rfl) dX0_give_94 ⟨Nat.zero_le _, Nat.zero_le _⟩ ?_
      exact p_iret hx hb hr hlocks hS (by simp only [h3, h6, h9, h12]; exact hP) (by simp [k_give, inR, inB, h1, h2, h3, h4, h5, h6, h7, h8, h9, h10, h11, h12, h13, h14, h15, h16, h17, Int32.not_lt.mpr h17]) (by simp [gGiv, h1, h2, h3, h4, h5, h6, h7, h8, h9, h10, h11, h12, h13, h14, h15, h16, h17, Int32.not_lt.mpr h17]) (Nat.zero_le _) (Nat.zero_le _) dX0_give_97
    · have h17 := Int32.not_le.mp h17
      exact x0_throw (cls := xIS) (text := "the one who gives has not so many shares") Fx hl0 hE hS hex hlocks (by decide +kernel) (by decide +kernel) (by decide +kernel) (by decide +kernel) (by decide +kernel) hl.1 dX0_give_58 dX0_give_61 dX0_give_62 dX0_give_64 dX0_give_67 (Nat.le_of_ble_eq_true rfl) (Nat.le_of_ble_eq_true rfl) (Nat.le_of_ble_eq_true rfl) (Nat.le_of_ble_eq_true rfl) (fun t ht => ⟨⟨2, (by simp [k_give, inR, inB, h1, h2, h3, h4, h5, h6, h7, h8, h9, h10, h11, h12, h13, h14, h15, h16, h17, Int32.not_le.mpr h17]), rfl⟩, ht⟩) nin (Nat.le_refl _) (Nat.le_refl _)
  · exact x0_throw (cls := xIA) (text := "both people are the same") Fx hl0 hE hS hex hlocks (by decide +kernel) (by decide +kernel) (by decide +kernel) (by decide +kernel) (by decide +kernel) hl.1 dX0_give_30 dX0_give_33 dX0_give_34 dX0_give_36 dX0_give_39 (Nat.le_of_ble_eq_true rfl) (Nat.le_of_ble_eq_true rfl) (Nat.le_of_ble_eq_true rfl) (Nat.le_of_ble_eq_true rfl) (fun t ht => ⟨⟨1, (by simp [k_give, inR, inB, h1, h2, h3, h4, h5, h6, h7, h8, h9, h10, h11, h12, h13, h14]), rfl⟩, ht⟩) nin (Nat.le_refl _) (Nat.le_refl _)
set_option maxHeartbeats 4000000 in
set_option maxRecDepth 100000 in
theorem m_X0_buy (l : Launch) (hl0 : l.stackTraces = false) {D : va_G} {ci cz : ClassId} {cj : ClassId × ClassId} {q : Nat → Nat} {F P : Nat} {g : Nat → Nat → Int32} (hq : DQ q 8) (hF : F ≤ 6) (hP12 : P ≤ 12) (a : Int32) (b : Int32) (f : Int32) (w : Int32) : vx_Met l yX0_buy wsX0_buy ({ frames := 8, cells := 1, slots := 6, locals := 127 } : Room) (va_Pc [.ref (q 0), .int a, .int b, .int f, .int w] (B0 D ci cz cj q F P g)) (PQ (k_buy F P g a b f w) (some (.int (sPri g (ix f) (ix w) (ix b)))) (fun H => va_P D vwCl (w0 ci cz q F P (gBuy g (ix a) (ix b) (ix f) (ix w))) H) (aw q 8)) (PX (k_buy F P g a b f w) [xIO, xIS]) 1 6 (aw q 8) := by
  refine vx_ofX (cc := cX0_buy) (maxL := 7) (ret := (some .int)) (by decide) rfl (Nat.le_of_ble_eq_true rfl) ?_
  intro pg en s m bl mt cd ls Fx hr hlocks hex hB hl
  obtain ⟨hP, hK, hE⟩ := hB
  have hl : lv_has ls 7 [(0, .ref (q 0)), (1, .int a), (2, .int b), (3, .int f), (4, .int w)] := hl
  have Fx : CallFix pg m cd cX0_buy 7 s _ wsX0_buy RX0 := Fx
  have hx := Fx.1
  have hb := Fx.2.1
  have hin : ∀ w ∈ wsX00, w ∈ wsX0_buy := by decide +kernel
  have hS : va_S (aw q 8) s.heap s.heap [] := va_S.rf
  have hP : va_P D vwCl (w0 ci cz q F P g) s.heap := hP
  refine lv_aload_n hx hb dX0_buy_0 rfl (lv_at hl 0 rfl) ?_
  refine lv_iload_n hx hb dX0_buy_1 rfl (lv_at hl 1 rfl) ?_
  refine lv_iload_n hx hb dX0_buy_2 rfl (lv_at hl 2 rfl) ?_
  refine lv_iload_n hx hb dX0_buy_3 rfl (lv_at hl 3 rfl) ?_
  refine lv_iload hx hb dX0_buy_4 (lv_at hl 4 rfl) ?_
  by_cases h1 : inR a P ∧ inR b P ∧ inR f F ∧ inR w 4
  rotate_left
  · refine r_callX (rest := []) Fx (m_X0_needSale_x l hl0 (D := D) (ci := ci) (cz := cz) (cj := cj) (q := q) (F := F) (P := P) (g := g) hF hP12 a b f w h1) (cwV 4 Fx.2.2.2.2 gX0_buy_X0_needSale rfl rfl rfl (by decide +kernel) ⟨Nat.le_of_ble_eq_true rfl, Nat.le_of_ble_eq_true rfl⟩) BW.bl (va_recv hK hP (ci := 0) (q0 := 0) rfl rfl) (BW.at hP hK hE hS) rfl hl.1 rfl (Nat.le_of_ble_eq_true rfl) dX0_buy_6 ⟨Nat.le_of_ble_eq_true rfl, Nat.le_of_ble_eq_true rfl⟩ (fun ce q9 H1 hh hce hcv hcl => ?_)
    exact p_out hex hlocks hh hce hcv hcl ⟨0, (by simp [k_buy, inR, inB, h1]), rfl⟩ (Nat.le_refl _) (Nat.le_refl _)
  obtain ⟨ja, h2, rfl⟩ := inR_of h1.1 (by omega)
  have h3 : ix (nI ja) = ja := ix_nI (by omega)
  obtain ⟨jb, h4, rfl⟩ := inR_of h1.2.1 (by omega)
  have h5 : ix (nI jb) = jb := ix_nI (by omega)
  obtain ⟨jf, h6, rfl⟩ := inR_of h1.2.2.1 (by omega)
  have h7 : ix (nI jf) = jf := ix_nI (by omega)
  obtain ⟨jw, h8, rfl⟩ := inR_of h1.2.2.2 (by omega)
  have h9 : ix (nI jw) = jw := ix_nI (by omega)
  refine r_callR (rest := []) Fx (m_X0_needSale l (D := D) (ci := ci) (cz := cz) (cj := cj) (q := q) (F := F) (P := P) (g := g) hF hP12 ja jb jf jw (by omega) (by omega) (by omega) (by omega)) (cwV 4 Fx.2.2.2.2 gX0_buy_X0_needSale rfl rfl rfl (by decide +kernel) ⟨Nat.le_of_ble_eq_true rfl, Nat.le_of_ble_eq_true rfl⟩) BW.bl (va_recv hK hP (ci := 0) (q0 := 0) rfl rfl) (BW.at hP hK hE hS) rfl hl.1 rfl (Nat.le_of_ble_eq_true rfl) dX0_buy_6 ⟨Nat.zero_le _, Nat.zero_le _⟩ ?_
  refine lv_aload_n hx hb dX0_buy_9 rfl (lv_at hl 0 rfl) ?_
  refine lv_iload_n hx hb dX0_buy_10 rfl (lv_at hl 1 rfl) ?_
  refine lv_iload_n hx hb dX0_buy_11 rfl (lv_at hl 2 rfl) ?_
  refine lv_iload_n hx hb dX0_buy_12 rfl (lv_at hl 3 rfl) ?_
  refine lv_iload hx hb dX0_buy_13 (lv_at hl 4 rfl) ?_
  refine r_callR (rest := []) Fx (m_X0_mayBuy l (D := D) (ci := ci) (cz := cz) (cj := cj) (q := q) (F := F) (P := P) (g := g) hF hP12 ja jb jf jw (by omega) (by omega) (by omega) (by omega)) (cwV 4 Fx.2.2.2.2 gX0_buy_X0_mayBuy rfl rfl rfl (by decide +kernel) ⟨Nat.le_of_ble_eq_true rfl, Nat.le_of_ble_eq_true rfl⟩) BW.bl (va_recv hK hP (ci := 0) (q0 := 0) rfl rfl) (BW.at hP hK hE hS) rfl hl.1 rfl (Nat.le_of_ble_eq_true rfl) dX0_buy_15 ⟨Nat.zero_le _, Nat.zero_le _⟩ ?_
  refine b_if_ne (tgt := 31) hx hb dX0_buy_18 (by decide) (fun h10 => ?_) (fun h10 => ?_)
  · refine lv_aload_n hx hb dX0_buy_31 rfl (lv_at hl 0 rfl) ?_
    refine lv_iload_n hx hb dX0_buy_32 rfl (lv_at hl 2 rfl) ?_
    refine lv_iload_n hx hb dX0_buy_33 rfl (lv_at hl 3 rfl) ?_
    refine lv_iload hx hb dX0_buy_34 (lv_at hl 4 rfl) ?_
    refine r_callR (rest := []) Fx (m_X0_priceOf l (D := D) (ci := ci) (cz := cz) (cj := cj) (q := q) (F := F) (P := P) (g := g) hF hP12 jb jf jw (by omega) (by omega) (by omega)) (cwV 3 Fx.2.2.2.2 gX0_buy_X0_priceOf rfl rfl rfl (by decide +kernel) ⟨Nat.le_of_ble_eq_true rfl, Nat.le_of_ble_eq_true rfl⟩) BW.bl (va_recv hK hP (ci := 0) (q0 := 0) rfl rfl) (BW.at hP hK hE hS) rfl hl.1 rfl (Nat.le_of_ble_eq_true rfl) dX0_buy_36 ⟨Nat.zero_le _, Nat.zero_le _⟩ ?_
    refine lv_istore (lv' := [(5, .int (sPri g jf jw jb)), (0, .ref (q 0)), (1, .int (nI ja)), (2, .int (nI jb)), (3, .int (nI jf)), (4, .int (nI jw))]) hx hb dX0_buy_39 hl (by decide) rfl (fun ls hl => ?_)
    refine lv_aload_n hx hb dX0_buy_41 rfl (lv_at hl 1 rfl) ?_
    refine lv_iload_n hx hb dX0_buy_42 rfl (lv_at hl 4 rfl) ?_
    refine lv_iload hx hb dX0_buy_43 (lv_at hl 5 rfl) ?_
    refine lv_iload_n hx hb dX0_buy_45 rfl (lv_at hl 3 rfl) ?_
    refine r_callR (rest := []) Fx (m_X0_owns l (D := D) (ci := ci) (cz := cz) (cj := cj) (q := q) (F := F) (P := P) (g := g) hF hP12 jf jw jb (by omega) (by omega) (by omega)) (cwV 3 Fx.2.2.2.2 gX0_buy_X0_owns rfl rfl rfl (by decide +kernel) ⟨Nat.le_of_ble_eq_true rfl, Nat.le_of_ble_eq_true rfl⟩) BW.bl (va_recv hK hP (ci := 0) (q0 := 0) rfl rfl) (BW.at hP hK hE hS) rfl hl.1 rfl (Nat.le_of_ble_eq_true rfl) dX0_buy_46 ⟨Nat.zero_le _, Nat.zero_le _⟩ ?_
    refine lv_istore (lv' := [(6, .int (own g jf jw jb)), (5, .int (sPri g jf jw jb)), (0, .ref (q 0)), (1, .int (nI ja)), (2, .int (nI jb)), (3, .int (nI jf)), (4, .int (nI jw))]) hx hb dX0_buy_49 hl (by decide) rfl (fun ls hl => ?_)
    refine lv_aload_n hx hb dX0_buy_51 rfl (lv_at hl 2 rfl) ?_
    refine r_get Fx hin hK hP 0 rfl 6 (by decide) (by decide +kernel) rfl rfl dX0_buy_52 ?_
    refine lv_iload_n hx hb dX0_buy_55 rfl (lv_at hl 3 rfl) ?_
    refine lv_dup2_11 hx hb dX0_buy_56 rfl rfl ?_
    refine r_iald Fx hK hP 5 0 rfl rfl (i := ja) (by omega) (by decide) dX0_buy_57 ?_
    refine lv_iload hx hb dX0_buy_58 (lv_at hl 1 rfl) ?_
    refine lv_isub hx hb dX0_buy_60 ?_
    refine r_iast Fx hK hP (d0 hq) hS 5 0 rfl rfl (i := ja) (by omega) (by decide) dX0_buy_61 (fun H locs hP hS => ?_)
    have hP : va_P D vwCl (w0 ci cz q F P (va_up g 4 (upd (g 4) ja ((g 4 ja) - (sPri g jf jw jb))))) H := hP
    refine lv_aload_n hx hb dX0_buy_62 rfl (lv_at hl 2 rfl) ?_
    refine lv_iload_n hx hb dX0_buy_63 rfl (lv_at hl 4 rfl) ?_
    refine lv_iload hx hb dX0_buy_64 (lv_at hl 1 rfl) ?_
    refine r_callW (rest := []) Fx (m_X0_addCoins l (D := D) (ci := ci) (cz := cz) (cj := cj) (q := q) (F := F) (P := P) (g := va_up g 4 (upd (g 4) ja ((g 4 ja) - (sPri g jf jw jb)))) hq hF hP12 jb (sPri g jf jw jb) (by omega)) (cwV 2 Fx.2.2.2.2 gX0_buy_X0_addCoins rfl rfl rfl (by decide +kernel) ⟨Nat.le_of_ble_eq_true rfl, Nat.le_of_ble_eq_true rfl⟩) BW.bl (va_recv hK hP (ci := 0) (q0 := 0) rfl rfl) (BW.at hP hK hE hS) rfl hl.1 rfl (Nat.le_of_ble_eq_true rfl) dX0_buy_66 ⟨Nat.zero_le _, Nat.zero_le _⟩ hS (fun _ h => h) (fun H locs hP hS _ _ => ?_)
    have hP : va_P D vwCl (w0 ci cz q F P (gGet (va_up g 4 (upd (g 4) ja ((g 4 ja) - (sPri g jf jw jb)))) jb (sPri g jf jw jb))) H := hP
    refine lv_aload_n hx hb dX0_buy_69 rfl (lv_at hl 2 rfl) ?_
    refine lv_iload_n hx hb dX0_buy_70 rfl (lv_at hl 5 rfl) ?_
    refine lv_iload hx hb dX0_buy_71 (lv_at hl 6 rfl) ?_
    refine lv_iload_n hx hb dX0_buy_73 rfl (lv_at hl 4 rfl) ?_
    refine lv_iload hx hb dX0_buy_74 (lv_at hl 0 rfl) ?_
    refine lv_ineg hx hb dX0_buy_76 ?_
    refine r_callW (rest := []) Fx (m_X0_addShares l (D := D) (ci := ci) (cz := cz) (cj := cj) (q := q) (F := F) (P := P) (g := gGet (va_up g 4 (upd (g 4) ja ((g 4 ja) - (sPri g jf jw jb)))) jb (sPri g jf jw jb)) hq hF hP12 jf jw jb (-(own g jf jw jb)) (by omega) (by omega) (by omega)) (cwV 4 Fx.2.2.2.2 gX0_buy_X0_addShares rfl rfl rfl (by decide +kernel) ⟨Nat.le_of_ble_eq_true rfl, Nat.le_of_ble_eq_true rfl⟩) BW.bl (va_recv hK hP (ci := 0) (q0 := 0) rfl rfl) (BW.at hP hK hE hS) rfl hl.1 rfl (Nat.le_of_ble_eq_true rfl) dX0_buy_77 ⟨Nat.zero_le _, Nat.zero_le _⟩ hS (fun _ h => h) (fun H locs hP hS _ _ => ?_)
    have hP : va_P D vwCl (w0 ci cz q F P (gAdd (gGet (va_up g 4 (upd (g 4) ja ((g 4 ja) - (sPri g jf jw jb)))) jb (sPri g jf jw jb)) jf jw jb (-(own g jf jw jb)))) H := hP
    refine lv_aload_n hx hb dX0_buy_80 rfl (lv_at hl 2 rfl) ?_
    refine lv_iload_n hx hb dX0_buy_81 rfl (lv_at hl 5 rfl) ?_
    refine lv_iload hx hb dX0_buy_82 (lv_at hl 6 rfl) ?_
    refine lv_iload_n hx hb dX0_buy_84 rfl (lv_at hl 3 rfl) ?_
    refine lv_iload hx hb dX0_buy_85 (lv_at hl 0 rfl) ?_
    refine r_callW (rest := []) Fx (m_X0_addShares l (D := D) (ci := ci) (cz := cz) (cj := cj) (q := q) (F := F) (P := P) (g := gAdd (gGet (va_up g 4 (upd (g 4) ja ((g 4 ja) - (sPri g jf jw jb)))) jb (sPri g jf jw jb)) jf jw jb (-(own g jf jw jb))) hq hF hP12 jf jw ja (own g jf jw jb) (by omega) (by omega) (by omega)) (cwV 4 Fx.2.2.2.2 gX0_buy_X0_addShares rfl rfl rfl (by decide +kernel) ⟨Nat.le_of_ble_eq_true rfl, Nat.le_of_ble_eq_true rfl⟩) BW.bl (va_recv hK hP (ci := 0) (q0 := 0) rfl rfl) (BW.at hP hK hE hS) rfl hl.1 rfl (Nat.le_of_ble_eq_true rfl) dX0_buy_87 ⟨Nat.zero_le _, Nat.zero_le _⟩ hS (fun _ h => h) (fun H locs hP hS _ _ => ?_)
    have hP : va_P D vwCl (w0 ci cz q F P (gAdd (gAdd (gGet (va_up g 4 (upd (g 4) ja ((g 4 ja) - (sPri g jf jw jb)))) jb (sPri g jf jw jb)) jf jw jb (-(own g jf jw jb))) jf jw ja (own g jf jw jb))) H := hP
    refine lv_iload hx hb dX0_buy_90 (lv_at hl 1 rfl) ?_
    exact p_iret hx hb hr hlocks hS (by simp only [h3, h5, h7, h9]; exact hP) (by simp [k_buy, inR, inB, h1, h2, h3, h4, h5, h6, h7, h8, h9, h10]) (by simp [k_buy, h1, h2, h3, h4, h5, h6, h7, h8, h9, h10]) (Nat.zero_le _) (Nat.zero_le _) dX0_buy_92
  · exact x0_throw (cls := xIS) (text := "this buyer cannot buy them") Fx hl0 hE hS hex hlocks (by decide +kernel) (by decide +kernel) (by decide +kernel) (by decide +kernel) (by decide +kernel) hl.1 dX0_buy_21 dX0_buy_24 dX0_buy_25 dX0_buy_27 dX0_buy_30 (Nat.le_of_ble_eq_true rfl) (Nat.le_of_ble_eq_true rfl) (Nat.le_of_ble_eq_true rfl) (Nat.le_of_ble_eq_true rfl) (fun t ht => ⟨⟨1, (by simp [k_buy, inR, inB, h1, h2, h3, h4, h5, h6, h7, h8, h9, h10]), rfl⟩, ht⟩) nin (Nat.le_refl _) (Nat.le_refl _)
set_option maxHeartbeats 4000000 in
set_option maxRecDepth 100000 in
theorem m_X0_setToll (l : Launch) (hl0 : l.stackTraces = false) {D : va_G} {ci cz : ClassId} {cj : ClassId × ClassId} {q : Nat → Nat} {F P : Nat} {g : Nat → Nat → Int32} (hq : DQ q 8) (hF : F ≤ 6) (hP12 : P ≤ 12) (f : Int32) (a : Int32) (n : Int32) : vx_Met l yX0_setToll wsX0_setToll ({ frames := 7, cells := 1, slots := 6, locals := 103 } : Room) (va_Pc [.ref (q 0), .int f, .int a, .int n] (B0 D ci cz cj q F P g)) (PQ (k_setToll F P g f a n) (some (.int (g 0 (ix f)))) (fun H => va_P D vwCl (w0 ci cz q F P (gTol g (ix f) n)) H) (aw q 8)) (PX (k_setToll F P g f a n) [xIO, xIA, xIS]) 1 6 (aw q 8) := by
  refine vx_ofX (cc := cX0_setToll) (maxL := 5) (ret := (some .int)) (by decide) rfl (Nat.le_of_ble_eq_true rfl) ?_
  intro pg en s m bl mt cd ls Fx hr hlocks hex hB hl
  obtain ⟨hP, hK, hE⟩ := hB
  have hl : lv_has ls 5 [(0, .ref (q 0)), (1, .int f), (2, .int a), (3, .int n)] := hl
  have Fx : CallFix pg m cd cX0_setToll 5 s _ wsX0_setToll RX0 := Fx
  have hx := Fx.1
  have hb := Fx.2.1
  have hin : ∀ w ∈ wsX00, w ∈ wsX0_setToll := by decide +kernel
  have hS : va_S (aw q 8) s.heap s.heap [] := va_S.rf
  have hP : va_P D vwCl (w0 ci cz q F P g) s.heap := hP
  refine lv_aload_n hx hb dX0_setToll_0 rfl (lv_at hl 0 rfl) ?_
  refine lv_iload_n hx hb dX0_setToll_1 rfl (lv_at hl 1 rfl) ?_
  by_cases h1 : inR f F
  rotate_left
  · refine r_callX (rest := []) Fx (m_X0_needFerry_x l hl0 (D := D) (ci := ci) (cz := cz) (cj := cj) (q := q) (F := F) (P := P) (g := g) hF hP12 f h1) (cwV 1 Fx.2.2.2.2 gX0_setToll_X0_needFerry rfl rfl rfl (by decide +kernel) ⟨Nat.le_of_ble_eq_true rfl, Nat.le_of_ble_eq_true rfl⟩) BW.bl (va_recv hK hP (ci := 0) (q0 := 0) rfl rfl) (BW.at hP hK hE hS) rfl hl.1 rfl (Nat.le_of_ble_eq_true rfl) dX0_setToll_2 ⟨Nat.le_of_ble_eq_true rfl, Nat.le_of_ble_eq_true rfl⟩ (fun ce q9 H1 hh hce hcv hcl => ?_)
    exact p_out hex hlocks hh hce hcv hcl ⟨0, (by simp [k_setToll, inR, inB, h1]), rfl⟩ (Nat.le_refl _) (Nat.le_refl _)
  obtain ⟨jf, h2, rfl⟩ := inR_of h1 (by omega)
  have h3 : ix (nI jf) = jf := ix_nI (by omega)
  refine r_callR (rest := []) Fx (m_X0_needFerry l (D := D) (ci := ci) (cz := cz) (cj := cj) (q := q) (F := F) (P := P) (g := g) hF hP12 jf (by omega)) (cwV 1 Fx.2.2.2.2 gX0_setToll_X0_needFerry rfl rfl rfl (by decide +kernel) ⟨Nat.le_of_ble_eq_true rfl, Nat.le_of_ble_eq_true rfl⟩) BW.bl (va_recv hK hP (ci := 0) (q0 := 0) rfl rfl) (BW.at hP hK hE hS) rfl hl.1 rfl (Nat.le_of_ble_eq_true rfl) dX0_setToll_2 ⟨Nat.zero_le _, Nat.zero_le _⟩ ?_
  refine lv_aload_n hx hb dX0_setToll_5 rfl (lv_at hl 0 rfl) ?_
  refine lv_iload_n hx hb dX0_setToll_6 rfl (lv_at hl 2 rfl) ?_
  by_cases h4 : inR a P
  rotate_left
  · refine r_callX (rest := []) Fx (m_X0_needPerson_x l hl0 (D := D) (ci := ci) (cz := cz) (cj := cj) (q := q) (F := F) (P := P) (g := g) hF hP12 a h4) (cwV 1 Fx.2.2.2.2 gX0_setToll_X0_needPerson rfl rfl rfl (by decide +kernel) ⟨Nat.le_of_ble_eq_true rfl, Nat.le_of_ble_eq_true rfl⟩) BW.bl (va_recv hK hP (ci := 0) (q0 := 0) rfl rfl) (BW.at hP hK hE hS) rfl hl.1 rfl (Nat.le_of_ble_eq_true rfl) dX0_setToll_7 ⟨Nat.le_of_ble_eq_true rfl, Nat.le_of_ble_eq_true rfl⟩ (fun ce q9 H1 hh hce hcv hcl => ?_)
    exact p_out hex hlocks hh hce hcv hcl ⟨0, (by simp [k_setToll, inR, inB, h1, h2, h3, h4]), rfl⟩ (Nat.le_refl _) (Nat.le_refl _)
  obtain ⟨ja, h5, rfl⟩ := inR_of h4 (by omega)
  have h6 : ix (nI ja) = ja := ix_nI (by omega)
  refine r_callR (rest := []) Fx (m_X0_needPerson l (D := D) (ci := ci) (cz := cz) (cj := cj) (q := q) (F := F) (P := P) (g := g) hF hP12 ja (by omega)) (cwV 1 Fx.2.2.2.2 gX0_setToll_X0_needPerson rfl rfl rfl (by decide +kernel) ⟨Nat.le_of_ble_eq_true rfl, Nat.le_of_ble_eq_true rfl⟩) BW.bl (va_recv hK hP (ci := 0) (q0 := 0) rfl rfl) (BW.at hP hK hE hS) rfl hl.1 rfl (Nat.le_of_ble_eq_true rfl) dX0_setToll_7 ⟨Nat.zero_le _, Nat.zero_le _⟩ ?_
  refine lv_iload_n hx hb dX0_setToll_10 rfl (lv_at hl 3 rfl) ?_
  by_cases h7 : 0 ≤ n ∧ n ≤ nI 20
  rotate_left
  · refine r_callXS (rest := []) Fx (m_X0_needToll_x l hl0 (D := D) (ci := ci) (cz := cz) (cj := cj) (q := q) (F := F) (P := P) (g := g) hF hP12 n h7) (va_cwS 1 Fx.2.2.2.2 gX0_setToll_X0_needToll rfl rfl rfl (by decide +kernel) ⟨Nat.le_of_ble_eq_true rfl, Nat.le_of_ble_eq_true rfl⟩) BW.bl (BW.at hP hK hE hS) rfl hl.1 rfl (Nat.le_of_ble_eq_true rfl) dX0_setToll_11 ⟨Nat.le_of_ble_eq_true rfl, Nat.le_of_ble_eq_true rfl⟩ (fun ce q9 H1 hh hce hcv hcl => ?_)
    exact p_out hex hlocks hh hce hcv hcl ⟨1, (by simp [k_setToll, inR, inB, h1, h2, h3, h4, h5, h6, h7]), rfl⟩ (Nat.le_refl _) (Nat.le_refl _)
  refine r_callRS (rest := []) Fx (m_X0_needToll l (D := D) (ci := ci) (cz := cz) (cj := cj) (q := q) (F := F) (P := P) (g := g) hF hP12 n h7) (va_cwS 1 Fx.2.2.2.2 gX0_setToll_X0_needToll rfl rfl rfl (by decide +kernel) ⟨Nat.le_of_ble_eq_true rfl, Nat.le_of_ble_eq_true rfl⟩) BW.bl (BW.at hP hK hE hS) rfl hl.1 rfl (Nat.le_of_ble_eq_true rfl) dX0_setToll_11 ⟨Nat.zero_le _, Nat.zero_le _⟩ ?_
  refine lv_aload_n hx hb dX0_setToll_14 rfl (lv_at hl 0 rfl) ?_
  refine lv_iload_n hx hb dX0_setToll_15 rfl (lv_at hl 1 rfl) ?_
  refine r_callR (rest := []) Fx (m_X0_findMaster l (D := D) (ci := ci) (cz := cz) (cj := cj) (q := q) (F := F) (P := P) (g := g) hF hP12 jf (by omega)) (cwV 1 Fx.2.2.2.2 gX0_setToll_X0_findMaster rfl rfl rfl (by decide +kernel) ⟨Nat.le_of_ble_eq_true rfl, Nat.le_of_ble_eq_true rfl⟩) BW.bl (va_recv hK hP (ci := 0) (q0 := 0) rfl rfl) (BW.at hP hK hE hS) rfl hl.1 rfl (Nat.le_of_ble_eq_true rfl) dX0_setToll_16 ⟨Nat.zero_le _, Nat.zero_le _⟩ ?_
  refine lv_iload_n hx hb dX0_setToll_19 rfl (lv_at hl 2 rfl) ?_
  refine lv_icmp_eq (tgt := 33) hx hb dX0_setToll_20 (by decide) (fun h8 => ?_) (fun h8 => ?_)
  · refine lv_aload_n hx hb dX0_setToll_33 rfl (lv_at hl 0 rfl) ?_
    refine r_get Fx hin hK hP 0 rfl 1 (by decide) (by decide +kernel) rfl rfl dX0_setToll_34 ?_
    refine lv_iload_n hx hb dX0_setToll_37 rfl (lv_at hl 1 rfl) ?_
    refine r_iald Fx hK hP 1 0 rfl rfl (i := jf) (by omega) (by decide) dX0_setToll_38 ?_
    refine lv_istore (lv' := [(4, .int (g 0 jf)), (0, .ref (q 0)), (1, .int (nI jf)), (2, .int (nI ja)), (3, .int n)]) hx hb dX0_setToll_39 hl (by decide) rfl (fun ls hl => ?_)
    refine lv_aload_n hx hb dX0_setToll_41 rfl (lv_at hl 1 rfl) ?_
    refine r_get Fx hin hK hP 0 rfl 1 (by decide) (by decide +kernel) rfl rfl dX0_setToll_42 ?_
    refine lv_iload_n hx hb dX0_setToll_45 rfl (lv_at hl 2 rfl) ?_
    refine lv_iload_n hx hb dX0_setToll_46 rfl (lv_at hl 4 rfl) ?_
    refine r_iast Fx hK hP (d0 hq) hS 1 0 rfl rfl (i := jf) (by omega) (by decide) dX0_setToll_47 (fun H locs hP hS => ?_)
    have hP : va_P D vwCl (w0 ci cz q F P (va_up g 0 (upd (g 0) jf n))) H := hP
    refine lv_iload hx hb dX0_setToll_48 (lv_at hl 0 rfl) ?_
    exact p_iret hx hb hr hlocks hS (by simp only [h3, h6]; exact hP) (by simp [k_setToll, inR, inB, h1, h2, h3, h4, h5, h6, h7, h8]) (by simp [k_setToll, h1, h2, h3, h4, h5, h6, h7, h8]) (Nat.zero_le _) (Nat.zero_le _) dX0_setToll_50
  · exact x0_throw (cls := xIS) (text := "this person is not the master of the ferry") Fx hl0 hE hS hex hlocks (by decide +kernel) (by decide +kernel) (by decide +kernel) (by decide +kernel) (by decide +kernel) hl.1 dX0_setToll_23 dX0_setToll_26 dX0_setToll_27 dX0_setToll_29 dX0_setToll_32 (Nat.le_of_ble_eq_true rfl) (Nat.le_of_ble_eq_true rfl) (Nat.le_of_ble_eq_true rfl) (Nat.le_of_ble_eq_true rfl) (fun t ht => ⟨⟨2, (by simp [k_setToll, inR, inB, h1, h2, h3, h4, h5, h6, h7, h8]), rfl⟩, ht⟩) nin (Nat.le_refl _) (Nat.le_refl _)
set_option maxHeartbeats 4000000 in
set_option maxRecDepth 100000 in
theorem m_X0_carry (l : Launch) (hl0 : l.stackTraces = false) {D : va_G} {ci cz : ClassId} {cj : ClassId × ClassId} {q : Nat → Nat} {F P : Nat} {g : Nat → Nat → Int32} (hq : DQ q 8) (hF : F ≤ 6) (hP12 : P ≤ 12) (f : Int32) (h : Int32) (x : Int32) : vx_Met l yX0_carry wsX0_carry ({ frames := 7, cells := 1, slots := 6, locals := 103 } : Room) (va_Pc [.ref (q 0), .int f, .int h, .int x] (B0 D ci cz cj q F P g)) (PQ (k_carry F f h x) (some (.int (lCar g (ix f) (ix h / 6) x P))) (fun H => va_P D vwCl (w0 ci cz q F P (gCry g P (ix f) (ix h / 6) x)) H) (aw q 8)) (PX (k_carry F f h x) [xIO, xIA]) 1 6 (aw q 8) := by
  refine vx_ofX (cc := cX0_carry) (maxL := 8) (ret := (some .int)) (by decide) rfl (Nat.le_of_ble_eq_true rfl) ?_
  intro pg en s m bl mt cd ls Fx hr hlocks hex hB hl
  obtain ⟨hP, hK, hE⟩ := hB
  have hl : lv_has ls 8 [(0, .ref (q 0)), (1, .int f), (2, .int h), (3, .int x)] := hl
  have Fx : CallFix pg m cd cX0_carry 8 s _ wsX0_carry RX0 := Fx
  have hx := Fx.1
  have hb := Fx.2.1
  have hin : ∀ w ∈ wsX00, w ∈ wsX0_carry := by decide +kernel
  have hS : va_S (aw q 8) s.heap s.heap [] := va_S.rf
  have hP : va_P D vwCl (w0 ci cz q F P g) s.heap := hP
  refine lv_aload_n hx hb dX0_carry_0 rfl (lv_at hl 0 rfl) ?_
  refine lv_iload_n hx hb dX0_carry_1 rfl (lv_at hl 1 rfl) ?_
  by_cases h1 : inR f F
  rotate_left
  · refine r_callX (rest := []) Fx (m_X0_needFerry_x l hl0 (D := D) (ci := ci) (cz := cz) (cj := cj) (q := q) (F := F) (P := P) (g := g) hF hP12 f h1) (cwV 1 Fx.2.2.2.2 gX0_carry_X0_needFerry rfl rfl rfl (by decide +kernel) ⟨Nat.le_of_ble_eq_true rfl, Nat.le_of_ble_eq_true rfl⟩) BW.bl (va_recv hK hP (ci := 0) (q0 := 0) rfl rfl) (BW.at hP hK hE hS) rfl hl.1 rfl (Nat.le_of_ble_eq_true rfl) dX0_carry_2 ⟨Nat.le_of_ble_eq_true rfl, Nat.le_of_ble_eq_true rfl⟩ (fun ce q9 H1 hh hce hcv hcl => ?_)
    exact p_out hex hlocks hh hce hcv hcl ⟨0, (by simp [k_carry, inR, inB, h1]), rfl⟩ (Nat.le_refl _) (Nat.le_refl _)
  obtain ⟨jf, h2, rfl⟩ := inR_of h1 (by omega)
  have h3 : ix (nI jf) = jf := ix_nI (by omega)
  refine r_callR (rest := []) Fx (m_X0_needFerry l (D := D) (ci := ci) (cz := cz) (cj := cj) (q := q) (F := F) (P := P) (g := g) hF hP12 jf (by omega)) (cwV 1 Fx.2.2.2.2 gX0_carry_X0_needFerry rfl rfl rfl (by decide +kernel) ⟨Nat.le_of_ble_eq_true rfl, Nat.le_of_ble_eq_true rfl⟩) BW.bl (va_recv hK hP (ci := 0) (q0 := 0) rfl rfl) (BW.at hP hK hE hS) rfl hl.1 rfl (Nat.le_of_ble_eq_true rfl) dX0_carry_2 ⟨Nat.zero_le _, Nat.zero_le _⟩ ?_
  refine lv_iload_n hx hb dX0_carry_5 rfl (lv_at hl 2 rfl) ?_
  by_cases h4 : inR h 24
  rotate_left
  · refine r_callXS (rest := []) Fx (m_X0_needHour_x l hl0 (D := D) (ci := ci) (cz := cz) (cj := cj) (q := q) (F := F) (P := P) (g := g) hF hP12 h h4) (va_cwS 1 Fx.2.2.2.2 gX0_carry_X0_needHour rfl rfl rfl (by decide +kernel) ⟨Nat.le_of_ble_eq_true rfl, Nat.le_of_ble_eq_true rfl⟩) BW.bl (BW.at hP hK hE hS) rfl hl.1 rfl (Nat.le_of_ble_eq_true rfl) dX0_carry_6 ⟨Nat.le_of_ble_eq_true rfl, Nat.le_of_ble_eq_true rfl⟩ (fun ce q9 H1 hh hce hcv hcl => ?_)
    exact p_out hex hlocks hh hce hcv hcl ⟨0, (by simp [k_carry, inR, inB, h1, h2, h3, h4]), rfl⟩ (Nat.le_refl _) (Nat.le_refl _)
  obtain ⟨jh, h5, rfl⟩ := inR_of h4 (by omega)
  have h6 : ix (nI jh) = jh := ix_nI (by omega)
  refine r_callRS (rest := []) Fx (m_X0_needHour l (D := D) (ci := ci) (cz := cz) (cj := cj) (q := q) (F := F) (P := P) (g := g) hF hP12 jh (by omega)) (va_cwS 1 Fx.2.2.2.2 gX0_carry_X0_needHour rfl rfl rfl (by decide +kernel) ⟨Nat.le_of_ble_eq_true rfl, Nat.le_of_ble_eq_true rfl⟩) BW.bl (BW.at hP hK hE hS) rfl hl.1 rfl (Nat.le_of_ble_eq_true rfl) dX0_carry_6 ⟨Nat.zero_le _, Nat.zero_le _⟩ ?_
  refine lv_iload_n hx hb dX0_carry_9 rfl (lv_at hl 3 rfl) ?_
  by_cases h7 : inB 1 200 x
  rotate_left
  · refine r_callXS (rest := []) Fx (m_X0_needPassengers_x l hl0 (D := D) (ci := ci) (cz := cz) (cj := cj) (q := q) (F := F) (P := P) (g := g) hF hP12 x h7) (va_cwS 1 Fx.2.2.2.2 gX0_carry_X0_needPassengers rfl rfl rfl (by decide +kernel) ⟨Nat.le_of_ble_eq_true rfl, Nat.le_of_ble_eq_true rfl⟩) BW.bl (BW.at hP hK hE hS) rfl hl.1 rfl (Nat.le_of_ble_eq_true rfl) dX0_carry_10 ⟨Nat.le_of_ble_eq_true rfl, Nat.le_of_ble_eq_true rfl⟩ (fun ce q9 H1 hh hce hcv hcl => ?_)
    exact p_out hex hlocks hh hce hcv hcl ⟨1, (by simp [k_carry, inR, inB, h1, h2, h3, h4, h5, h6, h7]), rfl⟩ (Nat.le_refl _) (Nat.le_refl _)
  refine r_callRS (rest := []) Fx (m_X0_needPassengers l (D := D) (ci := ci) (cz := cz) (cj := cj) (q := q) (F := F) (P := P) (g := g) hF hP12 x h7) (va_cwS 1 Fx.2.2.2.2 gX0_carry_X0_needPassengers rfl rfl rfl (by decide +kernel) ⟨Nat.le_of_ble_eq_true rfl, Nat.le_of_ble_eq_true rfl⟩) BW.bl (BW.at hP hK hE hS) rfl hl.1 rfl (Nat.le_of_ble_eq_true rfl) dX0_carry_10 ⟨Nat.zero_le _, Nat.zero_le _⟩ ?_
  refine lv_iload_n hx hb dX0_carry_13 rfl (lv_at hl 2 rfl) ?_
  refine lv_bipush (v := nI 6) hx hb dX0_carry_14 (by decide) ?_
  refine r_idiv_n hx hb (by omega) (by omega) (by omega) dX0_carry_16 ?_
  refine lv_istore (lv' := [(4, .int (nI (jh / 6))), (0, .ref (q 0)), (1, .int (nI jf)), (2, .int (nI jh)), (3, .int x)]) hx hb dX0_carry_17 hl (by decide) rfl (fun ls hl => ?_)
  refine lv_aload_n hx hb dX0_carry_19 rfl (lv_at hl 1 rfl) ?_
  refine r_get Fx hin hK hP 0 rfl 1 (by decide) (by decide +kernel) rfl rfl dX0_carry_20 ?_
  refine lv_iload_n hx hb dX0_carry_23 rfl (lv_at hl 2 rfl) ?_
  refine r_iald Fx hK hP 1 0 rfl rfl (i := jf) (by omega) (by decide) dX0_carry_24 ?_
  refine lv_iload_n hx hb dX0_carry_25 rfl (lv_at hl 4 rfl) ?_
  refine lv_imul hx hb dX0_carry_26 ?_
  refine lv_istore (lv' := [(5, .int ((g 0 jf) * x)), (4, .int (nI (jh / 6))), (0, .ref (q 0)), (1, .int (nI jf)), (2, .int (nI jh)), (3, .int x)]) hx hb dX0_carry_27 hl (by decide) rfl (fun ls hl => ?_)
  refine lv_iconst (v := nI 0) hx hb dX0_carry_29 (by decide) ?_
  refine lv_istore (lv' := [(6, .int (nI 0)), (5, .int ((g 0 jf) * x)), (4, .int (nI (jh / 6))), (0, .ref (q 0)), (1, .int (nI jf)), (2, .int (nI jh)), (3, .int x)]) hx hb dX0_carry_30 hl (by decide) rfl (fun ls hl => ?_)
  refine wloop (nL := 8) (N := P) (fun _ => True) (fun i => [(0, .ref (q 0)), (1, .int (nI jf)), (2, .int (nI jh)), (3, .int x), (4, .int (nI (jh / 6))), (5, .int (lCar g jf (jh / 6) x i)), (6, .int (nI i))]) (fun i H => va_P D vwCl (w0 ci cz q F P (gCar g jf (jh / 6) x i)) H) (trivial) (hP) hS (lv_sub hl [3, 4, 5, 6, 2, 1, 0] rfl) ?_ ?_
  · intro h8 H locs ls hP hS hl
    have hl : lv_has ls 8 [(0, .ref (q 0)), (1, .int (nI jf)), (2, .int (nI jh)), (3, .int x), (4, .int (nI (jh / 6))), (5, .int (lCar g jf (jh / 6) x P)), (6, .int (nI P))] := hl
    have hP : va_P D vwCl (w0 ci cz q F P (gCar g jf (jh / 6) x P)) H := hP
    refine lv_iload hx hb dX0_carry_32 (lv_at hl 6 rfl) ?_
    refine lv_aload_n hx hb dX0_carry_34 rfl (lv_at hl 0 rfl) ?_
    refine r_get Fx hin hK hP 0 rfl 4 (by decide) (by decide +kernel) rfl rfl dX0_carry_35 ?_
    refine n_icmp_ge (tgt := 86) hx hb (by omega) (by omega) dX0_carry_38 (by decide) (fun h9 => ?_) (fun h9 => by omega)
    refine lv_aload_n hx hb dX0_carry_86 rfl (lv_at hl 0 rfl) ?_
    refine lv_dup hx hb dX0_carry_87 rfl ?_
    refine r_get Fx hin hK hP 0 rfl 9 (by decide) (by decide +kernel) rfl rfl dX0_carry_88 ?_
    refine lv_iload hx hb dX0_carry_91 (lv_at hl 5 rfl) ?_
    refine lv_iadd hx hb dX0_carry_93 ?_
    refine r_put Fx hin tyX0 tyX0_ok nmX0 hK hP (d0 hq) hS 0 rfl 9 (by decide) (by decide +kernel) rfl (by decide +kernel) rfl (Nat.le_of_ble_eq_true rfl) dX0_carry_94 (fun H locs hP hS => ?_)
    have hP : va_P D vwCl (w0 ci cz q F P (gCro (gCar g jf (jh / 6) x P) (lCar g jf (jh / 6) x P))) H := hP
    refine lv_aload_n hx hb dX0_carry_97 rfl (lv_at hl 0 rfl) ?_
    refine r_get Fx hin hK hP 0 rfl 2 (by decide) (by decide +kernel) rfl rfl dX0_carry_98 ?_
    refine lv_iload_n hx hb dX0_carry_101 rfl (lv_at hl 1 rfl) ?_
    refine lv_dup2_11 hx hb dX0_carry_102 rfl rfl ?_
    refine r_iald Fx hK hP 2 0 rfl rfl (i := jf) (by omega) (by decide) dX0_carry_103 ?_
    refine lv_iload_n hx hb dX0_carry_104 rfl (lv_at hl 3 rfl) ?_
    refine lv_iadd hx hb dX0_carry_105 ?_
    refine r_iast Fx hK hP (d0 hq) hS 2 0 rfl rfl (i := jf) (by omega) (by decide) dX0_carry_106 (fun H locs hP hS => ?_)
    have hP : va_P D vwCl (w0 ci cz q F P (gCad (gCro (gCar g jf (jh / 6) x P) (lCar g jf (jh / 6) x P)) jf x)) H := hP
    refine lv_iload hx hb dX0_carry_107 (lv_at hl 5 rfl) ?_
    exact p_iret hx hb hr hlocks hS (by simp only [h3, h6]; exact hP) (by simp [k_carry, inR, inB, h1, h2, h3, h4, h5, h6, h7, h9]) (by simp [k_carry, h1, h2, h3, h4, h5, h6, h7, h9]) (Nat.zero_le _) (Nat.zero_le _) dX0_carry_109
  · intro i h11 h10 ih32 H locs ls hP hS hl
    have hl : lv_has ls 8 [(0, .ref (q 0)), (1, .int (nI jf)), (2, .int (nI jh)), (3, .int x), (4, .int (nI (jh / 6))), (5, .int (lCar g jf (jh / 6) x i)), (6, .int (nI i))] := hl
    have hP : va_P D vwCl (w0 ci cz q F P (gCar g jf (jh / 6) x i)) H := hP
    refine lv_iload hx hb dX0_carry_32 (lv_at hl 6 rfl) ?_
    refine lv_aload_n hx hb dX0_carry_34 rfl (lv_at hl 0 rfl) ?_
    refine r_get Fx hin hK hP 0 rfl 4 (by decide) (by decide +kernel) rfl rfl dX0_carry_35 ?_
    refine n_icmp_ge (tgt := 86) hx hb (by omega) (by omega) dX0_carry_38 (by decide) (fun h12 => by omega) (fun h12 => ?_)
    refine lv_aload_n hx hb dX0_carry_41 rfl (lv_at hl 0 rfl) ?_
    refine lv_iload hx hb dX0_carry_42 (lv_at hl 6 rfl) ?_
    refine lv_iload_n hx hb dX0_carry_44 rfl (lv_at hl 1 rfl) ?_
    refine lv_iload hx hb dX0_carry_45 (lv_at hl 4 rfl) ?_
    refine lv_iload_n hx hb dX0_carry_47 rfl (lv_at hl 3 rfl) ?_
    refine r_callR (rest := []) Fx (m_X0_fareOf l (D := D) (ci := ci) (cz := cz) (cj := cj) (q := q) (F := F) (P := P) (g := gCar g jf (jh / 6) x i) hF hP12 i jf (jh / 6) x (by omega) (by omega) (by omega)) (cwV 4 Fx.2.2.2.2 gX0_carry_X0_fareOf rfl rfl rfl (by decide +kernel) ⟨Nat.le_of_ble_eq_true rfl, Nat.le_of_ble_eq_true rfl⟩) BW.bl (va_recv hK hP (ci := 0) (q0 := 0) rfl rfl) (BW.at hP hK hE hS) rfl hl.1 rfl (Nat.le_of_ble_eq_true rfl) dX0_carry_48 ⟨Nat.zero_le _, Nat.zero_le _⟩ ?_
    refine lv_istore (lv' := [(7, .int (sFar (gCar g jf (jh / 6) x i) jf (jh / 6) i x)), (0, .ref (q 0)), (1, .int (nI jf)), (2, .int (nI jh)), (3, .int x), (4, .int (nI (jh / 6))), (5, .int (lCar g jf (jh / 6) x i)), (6, .int (nI i))]) hx hb dX0_carry_51 hl (by decide) rfl (fun ls hl => ?_)
    refine lv_aload_n hx hb dX0_carry_53 rfl (lv_at hl 1 rfl) ?_
    refine r_get Fx hin hK hP 0 rfl 7 (by decide) (by decide +kernel) rfl rfl dX0_carry_54 ?_
    refine lv_iload hx hb dX0_carry_57 (lv_at hl 7 rfl) ?_
    refine lv_dup2_11 hx hb dX0_carry_59 rfl rfl ?_
    refine r_iald Fx hK hP 6 0 rfl rfl (i := i) (by omega) (by decide) dX0_carry_60 ?_
    refine lv_iload hx hb dX0_carry_61 (lv_at hl 0 rfl) ?_
    refine lv_iadd hx hb dX0_carry_63 ?_
    refine r_iast Fx hK hP (d0 hq) hS 6 0 rfl rfl (i := i) (by omega) (by decide) dX0_carry_64 (fun H locs hP hS => ?_)
    have hP : va_P D vwCl (w0 ci cz q F P (gEar (gCar g jf (jh / 6) x i) i (sFar (gCar g jf (jh / 6) x i) jf (jh / 6) i x))) H := hP
    refine lv_aload_n hx hb dX0_carry_65 rfl (lv_at hl 1 rfl) ?_
    refine lv_iload hx hb dX0_carry_66 (lv_at hl 7 rfl) ?_
    refine lv_iload hx hb dX0_carry_68 (lv_at hl 0 rfl) ?_
    refine r_callW (rest := []) Fx (m_X0_addCoins l (D := D) (ci := ci) (cz := cz) (cj := cj) (q := q) (F := F) (P := P) (g := gEar (gCar g jf (jh / 6) x i) i (sFar (gCar g jf (jh / 6) x i) jf (jh / 6) i x)) hq hF hP12 i (sFar (gCar g jf (jh / 6) x i) jf (jh / 6) i x) (by omega)) (cwV 2 Fx.2.2.2.2 gX0_carry_X0_addCoins rfl rfl rfl (by decide +kernel) ⟨Nat.le_of_ble_eq_true rfl, Nat.le_of_ble_eq_true rfl⟩) BW.bl (va_recv hK hP (ci := 0) (q0 := 0) rfl rfl) (BW.at hP hK hE hS) rfl hl.1 rfl (Nat.le_of_ble_eq_true rfl) dX0_carry_70 ⟨Nat.zero_le _, Nat.zero_le _⟩ hS (fun _ h => h) (fun H locs hP hS _ _ => ?_)
    have hP : va_P D vwCl (w0 ci cz q F P (gGet (gEar (gCar g jf (jh / 6) x i) i (sFar (gCar g jf (jh / 6) x i) jf (jh / 6) i x)) i (sFar (gCar g jf (jh / 6) x i) jf (jh / 6) i x))) H := hP
    refine lv_iload hx hb dX0_carry_73 (lv_at hl 6 rfl) ?_
    refine lv_iload hx hb dX0_carry_75 (lv_at hl 0 rfl) ?_
    refine lv_isub hx hb dX0_carry_77 ?_
    refine lv_istore (lv' := [(5, .int ((lCar g jf (jh / 6) x i) - (sFar (gCar g jf (jh / 6) x i) jf (jh / 6) i x))), (7, .int (sFar (gCar g jf (jh / 6) x i) jf (jh / 6) i x)), (0, .ref (q 0)), (1, .int (nI jf)), (2, .int (nI jh)), (3, .int x), (4, .int (nI (jh / 6))), (6, .int (nI i))]) hx hb dX0_carry_78 hl (by decide) rfl (fun ls hl => ?_)
    refine lv_iinc (v := nI (i + 1)) (lv' := [(6, .int (nI (i + 1))), (5, .int ((lCar g jf (jh / 6) x i) - (sFar (gCar g jf (jh / 6) x i) jf (jh / 6) i x))), (7, .int (sFar (gCar g jf (jh / 6) x i) jf (jh / 6) i x)), (0, .ref (q 0)), (1, .int (nI jf)), (2, .int (nI jh)), (3, .int x), (4, .int (nI (jh / 6)))]) hx hb dX0_carry_80 hl (k := 7) rfl (nI_inc _ 1) (by decide) rfl (fun ls hl => ?_)
    refine lv_goto (tgt := 32) hx hb dX0_carry_83 (by decide) ?_
    exact ih32 (trivial) _ _ _ (hP) hS (lv_sub hl [3, 4, 5, 6, 7, 1, 0] rfl)
