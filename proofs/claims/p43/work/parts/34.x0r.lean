/-! what the face of a FerryRights answers where nothing is thrown -/
set_option maxHeartbeats 4000000 in
set_option maxRecDepth 100000 in
theorem m_X0_toll_r (l : Launch) {D : va_G} {ci cz : ClassId} {cj : ClassId × ClassId} {q : Nat → Nat} {F P : Nat} {g : Nat → Nat → Int32} (hF : F ≤ 6) (hP12 : P ≤ 12) (a : Nat) (ha0 : a < F) : Met l yX0_toll wsX0_toll ({ frames := 1, cells := 0, slots := 0, locals := 21 } : Room) (va_Pc [.ref (q 0), .int (nI a)] (B0 D ci cz cj q F P g)) (RQ (some (.int (g 0 a)))) 0 0 none_ := by
  refine Met.ofR (cc := cX0_toll) (maxL := 2) (ret := (some .int)) (by decide) rfl (Nat.le_of_ble_eq_true rfl) ?_
  intro pg en s m bl mt cd ls Fx hr hlocks hB hl
  obtain ⟨hP, hK, hE⟩ := hB
  have hl : lv_has ls 2 [(0, .ref (q 0)), (1, .int (nI a))] := hl
  have Fx : CallFix pg m cd cX0_toll 2 s _ wsX0_toll RX0 := Fx
  have hx := Fx.1
  have hb := Fx.2.1
  have hin : ∀ w ∈ wsX00, w ∈ wsX0_toll := by decide +kernel
  have hS : va_S (aw q 8) s.heap s.heap [] := va_S.rf
  have hP : va_P D vwCl (w0 ci cz q F P g) s.heap := hP
  refine lv_aload_n hx hb dX0_toll_0 rfl (lv_at hl 0 rfl) ?_
  refine lv_iload_n hx hb dX0_toll_1 rfl (lv_at hl 1 rfl) ?_
  refine r_callR (rest := []) Fx (m_X0_needFerry l (D := D) (ci := ci) (cz := cz) (cj := cj) (q := q) (F := F) (P := P) (g := g) hF hP12 a (by omega)) (cwV 1 Fx.2.2.2.2 gX0_toll_X0_needFerry rfl rfl rfl (by decide +kernel) ⟨Nat.le_of_ble_eq_true rfl, Nat.le_of_ble_eq_true rfl⟩) BW.bl (va_recv hK hP (ci := 0) (q0 := 0) rfl rfl) (BW.at hP hK hE hS) rfl hl.1 rfl (Nat.le_of_ble_eq_true rfl) dX0_toll_2 ⟨Nat.zero_le _, Nat.zero_le _⟩ ?_
  refine lv_aload_n hx hb dX0_toll_5 rfl (lv_at hl 0 rfl) ?_
  refine r_get Fx hin hK hP 0 rfl 1 (by decide) (by decide +kernel) rfl rfl dX0_toll_6 ?_
  refine lv_iload_n hx hb dX0_toll_9 rfl (lv_at hl 1 rfl) ?_
  refine r_iald Fx hK hP 1 0 rfl rfl (i := a) (by omega) (by decide) dX0_toll_10 ?_
  exact r_iret hx hb hr hlocks (rfl) dX0_toll_11
set_option maxHeartbeats 4000000 in
set_option maxRecDepth 100000 in
theorem m_X0_carried_r (l : Launch) {D : va_G} {ci cz : ClassId} {cj : ClassId × ClassId} {q : Nat → Nat} {F P : Nat} {g : Nat → Nat → Int32} (hF : F ≤ 6) (hP12 : P ≤ 12) (a : Nat) (ha0 : a < F) : Met l yX0_carried wsX0_carried ({ frames := 1, cells := 0, slots := 0, locals := 21 } : Room) (va_Pc [.ref (q 0), .int (nI a)] (B0 D ci cz cj q F P g)) (RQ (some (.int (g 1 a)))) 0 0 none_ := by
  refine Met.ofR (cc := cX0_carried) (maxL := 2) (ret := (some .int)) (by decide) rfl (Nat.le_of_ble_eq_true rfl) ?_
  intro pg en s m bl mt cd ls Fx hr hlocks hB hl
  obtain ⟨hP, hK, hE⟩ := hB
  have hl : lv_has ls 2 [(0, .ref (q 0)), (1, .int (nI a))] := hl
  have Fx : CallFix pg m cd cX0_carried 2 s _ wsX0_carried RX0 := Fx
  have hx := Fx.1
  have hb := Fx.2.1
  have hin : ∀ w ∈ wsX00, w ∈ wsX0_carried := by decide +kernel
  have hS : va_S (aw q 8) s.heap s.heap [] := va_S.rf
  have hP : va_P D vwCl (w0 ci cz q F P g) s.heap := hP
  refine lv_aload_n hx hb dX0_carried_0 rfl (lv_at hl 0 rfl) ?_
  refine lv_iload_n hx hb dX0_carried_1 rfl (lv_at hl 1 rfl) ?_
  refine r_callR (rest := []) Fx (m_X0_needFerry l (D := D) (ci := ci) (cz := cz) (cj := cj) (q := q) (F := F) (P := P) (g := g) hF hP12 a (by omega)) (cwV 1 Fx.2.2.2.2 gX0_carried_X0_needFerry rfl rfl rfl (by decide +kernel) ⟨Nat.le_of_ble_eq_true rfl, Nat.le_of_ble_eq_true rfl⟩) BW.bl (va_recv hK hP (ci := 0) (q0 := 0) rfl rfl) (BW.at hP hK hE hS) rfl hl.1 rfl (Nat.le_of_ble_eq_true rfl) dX0_carried_2 ⟨Nat.zero_le _, Nat.zero_le _⟩ ?_
  refine lv_aload_n hx hb dX0_carried_5 rfl (lv_at hl 0 rfl) ?_
  refine r_get Fx hin hK hP 0 rfl 2 (by decide) (by decide +kernel) rfl rfl dX0_carried_6 ?_
  refine lv_iload_n hx hb dX0_carried_9 rfl (lv_at hl 1 rfl) ?_
  refine r_iald Fx hK hP 2 0 rfl rfl (i := a) (by omega) (by decide) dX0_carried_10 ?_
  exact r_iret hx hb hr hlocks (rfl) dX0_carried_11
set_option maxHeartbeats 4000000 in
set_option maxRecDepth 100000 in
theorem m_X0_shares_r (l : Launch) {D : va_G} {ci cz : ClassId} {cj : ClassId × ClassId} {q : Nat → Nat} {F P : Nat} {g : Nat → Nat → Int32} (hF : F ≤ 6) (hP12 : P ≤ 12) (f : Nat) (w : Nat) (a : Nat) (ha0 : f < F) (ha1 : w < 4) (ha2 : a < P) : Met l yX0_shares wsX0_shares ({ frames := 2, cells := 0, slots := 0, locals := 45 } : Room) (va_Pc [.ref (q 0), .int (nI f), .int (nI w), .int (nI a)] (B0 D ci cz cj q F P g)) (RQ (some (.int (own g f w a)))) 0 0 none_ := by
  refine Met.ofR (cc := cX0_shares) (maxL := 4) (ret := (some .int)) (by decide) rfl (Nat.le_of_ble_eq_true rfl) ?_
  intro pg en s m bl mt cd ls Fx hr hlocks hB hl
  obtain ⟨hP, hK, hE⟩ := hB
  have hl : lv_has ls 4 [(0, .ref (q 0)), (1, .int (nI f)), (2, .int (nI w)), (3, .int (nI a))] := hl
  have Fx : CallFix pg m cd cX0_shares 4 s _ wsX0_shares RX0 := Fx
  have hx := Fx.1
  have hb := Fx.2.1
  have hS : va_S (aw q 8) s.heap s.heap [] := va_S.rf
  have hP : va_P D vwCl (w0 ci cz q F P g) s.heap := hP
  refine lv_aload_n hx hb dX0_shares_0 rfl (lv_at hl 0 rfl) ?_
  refine lv_iload_n hx hb dX0_shares_1 rfl (lv_at hl 1 rfl) ?_
  refine r_callR (rest := []) Fx (m_X0_needFerry l (D := D) (ci := ci) (cz := cz) (cj := cj) (q := q) (F := F) (P := P) (g := g) hF hP12 f (by omega)) (cwV 1 Fx.2.2.2.2 gX0_shares_X0_needFerry rfl rfl rfl (by decide +kernel) ⟨Nat.le_of_ble_eq_true rfl, Nat.le_of_ble_eq_true rfl⟩) BW.bl (va_recv hK hP (ci := 0) (q0 := 0) rfl rfl) (BW.at hP hK hE hS) rfl hl.1 rfl (Nat.le_of_ble_eq_true rfl) dX0_shares_2 ⟨Nat.zero_le _, Nat.zero_le _⟩ ?_
  refine lv_iload_n hx hb dX0_shares_5 rfl (lv_at hl 2 rfl) ?_
  refine r_callRS (rest := []) Fx (m_X0_needWatch l (D := D) (ci := ci) (cz := cz) (cj := cj) (q := q) (F := F) (P := P) (g := g) hF hP12 w (by omega)) (va_cwS 1 Fx.2.2.2.2 gX0_shares_X0_needWatch rfl rfl rfl (by decide +kernel) ⟨Nat.le_of_ble_eq_true rfl, Nat.le_of_ble_eq_true rfl⟩) BW.bl (BW.at hP hK hE hS) rfl hl.1 rfl (Nat.le_of_ble_eq_true rfl) dX0_shares_6 ⟨Nat.zero_le _, Nat.zero_le _⟩ ?_
  refine lv_aload_n hx hb dX0_shares_9 rfl (lv_at hl 0 rfl) ?_
  refine lv_iload_n hx hb dX0_shares_10 rfl (lv_at hl 3 rfl) ?_
  refine r_callR (rest := []) Fx (m_X0_needPerson l (D := D) (ci := ci) (cz := cz) (cj := cj) (q := q) (F := F) (P := P) (g := g) hF hP12 a (by omega)) (cwV 1 Fx.2.2.2.2 gX0_shares_X0_needPerson rfl rfl rfl (by decide +kernel) ⟨Nat.le_of_ble_eq_true rfl, Nat.le_of_ble_eq_true rfl⟩) BW.bl (va_recv hK hP (ci := 0) (q0 := 0) rfl rfl) (BW.at hP hK hE hS) rfl hl.1 rfl (Nat.le_of_ble_eq_true rfl) dX0_shares_11 ⟨Nat.zero_le _, Nat.zero_le _⟩ ?_
  refine lv_aload_n hx hb dX0_shares_14 rfl (lv_at hl 0 rfl) ?_
  refine lv_iload_n hx hb dX0_shares_15 rfl (lv_at hl 1 rfl) ?_
  refine lv_iload_n hx hb dX0_shares_16 rfl (lv_at hl 2 rfl) ?_
  refine lv_iload_n hx hb dX0_shares_17 rfl (lv_at hl 3 rfl) ?_
  refine r_callR (rest := []) Fx (m_X0_owns l (D := D) (ci := ci) (cz := cz) (cj := cj) (q := q) (F := F) (P := P) (g := g) hF hP12 f w a (by omega) (by omega) (by omega)) (cwV 3 Fx.2.2.2.2 gX0_shares_X0_owns rfl rfl rfl (by decide +kernel) ⟨Nat.le_of_ble_eq_true rfl, Nat.le_of_ble_eq_true rfl⟩) BW.bl (va_recv hK hP (ci := 0) (q0 := 0) rfl rfl) (BW.at hP hK hE hS) rfl hl.1 rfl (Nat.le_of_ble_eq_true rfl) dX0_shares_18 ⟨Nat.zero_le _, Nat.zero_le _⟩ ?_
  exact r_iret hx hb hr hlocks (rfl) dX0_shares_21
set_option maxHeartbeats 4000000 in
set_option maxRecDepth 100000 in
theorem m_X0_crownShares_r (l : Launch) {D : va_G} {ci cz : ClassId} {cj : ClassId × ClassId} {q : Nat → Nat} {F P : Nat} {g : Nat → Nat → Int32} (hF : F ≤ 6) (hP12 : P ≤ 12) (f : Nat) (w : Nat) (ha0 : f < F) (ha1 : w < 4) : Met l yX0_crownShares wsX0_crownShares ({ frames := 3, cells := 0, slots := 0, locals := 69 } : Room) (va_Pc [.ref (q 0), .int (nI f), .int (nI w)] (B0 D ci cz cj q F P g)) (RQ (some (.int (sCro g P f w)))) 0 0 none_ := by
  refine Met.ofR (cc := cX0_crownShares) (maxL := 3) (ret := (some .int)) (by decide) rfl (Nat.le_of_ble_eq_true rfl) ?_
  intro pg en s m bl mt cd ls Fx hr hlocks hB hl
  obtain ⟨hP, hK, hE⟩ := hB
  have hl : lv_has ls 3 [(0, .ref (q 0)), (1, .int (nI f)), (2, .int (nI w))] := hl
  have Fx : CallFix pg m cd cX0_crownShares 3 s _ wsX0_crownShares RX0 := Fx
  have hx := Fx.1
  have hb := Fx.2.1
  have hS : va_S (aw q 8) s.heap s.heap [] := va_S.rf
  have hP : va_P D vwCl (w0 ci cz q F P g) s.heap := hP
  refine lv_aload_n hx hb dX0_crownShares_0 rfl (lv_at hl 0 rfl) ?_
  refine lv_iload_n hx hb dX0_crownShares_1 rfl (lv_at hl 1 rfl) ?_
  refine r_callR (rest := []) Fx (m_X0_needFerry l (D := D) (ci := ci) (cz := cz) (cj := cj) (q := q) (F := F) (P := P) (g := g) hF hP12 f (by omega)) (cwV 1 Fx.2.2.2.2 gX0_crownShares_X0_needFerry rfl rfl rfl (by decide +kernel) ⟨Nat.le_of_ble_eq_true rfl, Nat.le_of_ble_eq_true rfl⟩) BW.bl (va_recv hK hP (ci := 0) (q0 := 0) rfl rfl) (BW.at hP hK hE hS) rfl hl.1 rfl (Nat.le_of_ble_eq_true rfl) dX0_crownShares_2 ⟨Nat.zero_le _, Nat.zero_le _⟩ ?_
  refine lv_iload_n hx hb dX0_crownShares_5 rfl (lv_at hl 2 rfl) ?_
  refine r_callRS (rest := []) Fx (m_X0_needWatch l (D := D) (ci := ci) (cz := cz) (cj := cj) (q := q) (F := F) (P := P) (g := g) hF hP12 w (by omega)) (va_cwS 1 Fx.2.2.2.2 gX0_crownShares_X0_needWatch rfl rfl rfl (by decide +kernel) ⟨Nat.le_of_ble_eq_true rfl, Nat.le_of_ble_eq_true rfl⟩) BW.bl (BW.at hP hK hE hS) rfl hl.1 rfl (Nat.le_of_ble_eq_true rfl) dX0_crownShares_6 ⟨Nat.zero_le _, Nat.zero_le _⟩ ?_
  refine lv_aload_n hx hb dX0_crownShares_9 rfl (lv_at hl 0 rfl) ?_
  refine lv_iload_n hx hb dX0_crownShares_10 rfl (lv_at hl 1 rfl) ?_
  refine lv_iload_n hx hb dX0_crownShares_11 rfl (lv_at hl 2 rfl) ?_
  refine r_callR (rest := []) Fx (m_X0_crownOwns l (D := D) (ci := ci) (cz := cz) (cj := cj) (q := q) (F := F) (P := P) (g := g) hF hP12 f w (by omega) (by omega)) (cwV 2 Fx.2.2.2.2 gX0_crownShares_X0_crownOwns rfl rfl rfl (by decide +kernel) ⟨Nat.le_of_ble_eq_true rfl, Nat.le_of_ble_eq_true rfl⟩) BW.bl (va_recv hK hP (ci := 0) (q0 := 0) rfl rfl) (BW.at hP hK hE hS) rfl hl.1 rfl (Nat.le_of_ble_eq_true rfl) dX0_crownShares_12 ⟨Nat.zero_le _, Nat.zero_le _⟩ ?_
  exact r_iret hx hb hr hlocks (rfl) dX0_crownShares_15
set_option maxHeartbeats 4000000 in
set_option maxRecDepth 100000 in
theorem m_X0_owners_r (l : Launch) {D : va_G} {ci cz : ClassId} {cj : ClassId × ClassId} {q : Nat → Nat} {F P : Nat} {g : Nat → Nat → Int32} (hF : F ≤ 6) (hP12 : P ≤ 12) (f : Nat) (w : Nat) (ha0 : f < F) (ha1 : w < 4) : Met l yX0_owners wsX0_owners ({ frames := 2, cells := 0, slots := 0, locals := 45 } : Room) (va_Pc [.ref (q 0), .int (nI f), .int (nI w)] (B0 D ci cz cj q F P g)) (RQ (some (.int (nI (sOwn g P f w))))) 0 0 none_ := by
  refine Met.ofR (cc := cX0_owners) (maxL := 5) (ret := (some .int)) (by decide) rfl (Nat.le_of_ble_eq_true rfl) ?_
  intro pg en s m bl mt cd ls Fx hr hlocks hB hl
  obtain ⟨hP, hK, hE⟩ := hB
  have hl : lv_has ls 5 [(0, .ref (q 0)), (1, .int (nI f)), (2, .int (nI w))] := hl
  have Fx : CallFix pg m cd cX0_owners 5 s _ wsX0_owners RX0 := Fx
  have hx := Fx.1
  have hb := Fx.2.1
  have hin : ∀ w ∈ wsX00, w ∈ wsX0_owners := by decide +kernel
  have hS : va_S (aw q 8) s.heap s.heap [] := va_S.rf
  have hP : va_P D vwCl (w0 ci cz q F P g) s.heap := hP
  refine lv_aload_n hx hb dX0_owners_0 rfl (lv_at hl 0 rfl) ?_
  refine lv_iload_n hx hb dX0_owners_1 rfl (lv_at hl 1 rfl) ?_
  refine r_callR (rest := []) Fx (m_X0_needFerry l (D := D) (ci := ci) (cz := cz) (cj := cj) (q := q) (F := F) (P := P) (g := g) hF hP12 f (by omega)) (cwV 1 Fx.2.2.2.2 gX0_owners_X0_needFerry rfl rfl rfl (by decide +kernel) ⟨Nat.le_of_ble_eq_true rfl, Nat.le_of_ble_eq_true rfl⟩) BW.bl (va_recv hK hP (ci := 0) (q0 := 0) rfl rfl) (BW.at hP hK hE hS) rfl hl.1 rfl (Nat.le_of_ble_eq_true rfl) dX0_owners_2 ⟨Nat.zero_le _, Nat.zero_le _⟩ ?_
  refine lv_iload_n hx hb dX0_owners_5 rfl (lv_at hl 2 rfl) ?_
  refine r_callRS (rest := []) Fx (m_X0_needWatch l (D := D) (ci := ci) (cz := cz) (cj := cj) (q := q) (F := F) (P := P) (g := g) hF hP12 w (by omega)) (va_cwS 1 Fx.2.2.2.2 gX0_owners_X0_needWatch rfl rfl rfl (by decide +kernel) ⟨Nat.le_of_ble_eq_true rfl, Nat.le_of_ble_eq_true rfl⟩) BW.bl (BW.at hP hK hE hS) rfl hl.1 rfl (Nat.le_of_ble_eq_true rfl) dX0_owners_6 ⟨Nat.zero_le _, Nat.zero_le _⟩ ?_
  refine lv_iconst (v := nI 0) hx hb dX0_owners_9 (by decide) ?_
  refine lv_istore_n (lv' := [(3, .int (nI 0)), (0, .ref (q 0)), (1, .int (nI f)), (2, .int (nI w))]) hx hb dX0_owners_10 rfl hl (by decide) rfl (fun ls hl => ?_)
  refine lv_iconst (v := nI 0) hx hb dX0_owners_11 (by decide) ?_
  refine lv_istore (lv' := [(4, .int (nI 0)), (3, .int (nI 0)), (0, .ref (q 0)), (1, .int (nI f)), (2, .int (nI w))]) hx hb dX0_owners_12 hl (by decide) rfl (fun ls hl => ?_)
  refine rloop (nL := 5) (N := P) (fun _ => True) (fun i => [(0, .ref (q 0)), (1, .int (nI f)), (2, .int (nI w)), (3, .int (nI (cn (fun z => decide (0 < own g f w z)) i))), (4, .int (nI i))]) (trivial) (lv_sub hl [2, 3, 4, 1, 0] rfl) ?_ ?_
  · intro h1 ls hl
    have hl : lv_has ls 5 [(0, .ref (q 0)), (1, .int (nI f)), (2, .int (nI w)), (3, .int (nI (cn (fun z => decide (0 < own g f w z)) P))), (4, .int (nI P))] := hl
    refine lv_iload hx hb dX0_owners_14 (lv_at hl 4 rfl) ?_
    refine lv_aload_n hx hb dX0_owners_16 rfl (lv_at hl 0 rfl) ?_
    refine r_get Fx hin hK hP 0 rfl 4 (by decide) (by decide +kernel) rfl rfl dX0_owners_17 ?_
    refine n_icmp_ge (tgt := 43) hx hb (by omega) (by omega) dX0_owners_20 (by decide) (fun h2 => ?_) (fun h2 => by omega)
    refine lv_iload_n hx hb dX0_owners_43 rfl (lv_at hl 3 rfl) ?_
    exact r_iret hx hb hr hlocks (rfl) dX0_owners_44
  · intro i h4 h3 ih14 ls hl
    have hl : lv_has ls 5 [(0, .ref (q 0)), (1, .int (nI f)), (2, .int (nI w)), (3, .int (nI (cn (fun z => decide (0 < own g f w z)) i))), (4, .int (nI i))] := hl
    refine lv_iload hx hb dX0_owners_14 (lv_at hl 4 rfl) ?_
    refine lv_aload_n hx hb dX0_owners_16 rfl (lv_at hl 0 rfl) ?_
    refine r_get Fx hin hK hP 0 rfl 4 (by decide) (by decide +kernel) rfl rfl dX0_owners_17 ?_
    refine n_icmp_ge (tgt := 43) hx hb (by omega) (by omega) dX0_owners_20 (by decide) (fun h5 => by omega) (fun h5 => ?_)
    refine lv_aload_n hx hb dX0_owners_23 rfl (lv_at hl 0 rfl) ?_
    refine lv_iload_n hx hb dX0_owners_24 rfl (lv_at hl 1 rfl) ?_
    refine lv_iload_n hx hb dX0_owners_25 rfl (lv_at hl 2 rfl) ?_
    refine lv_iload hx hb dX0_owners_26 (lv_at hl 4 rfl) ?_
    refine r_callR (rest := []) Fx (m_X0_owns l (D := D) (ci := ci) (cz := cz) (cj := cj) (q := q) (F := F) (P := P) (g := g) hF hP12 f w i (by omega) (by omega) (by omega)) (cwV 3 Fx.2.2.2.2 gX0_owners_X0_owns rfl rfl rfl (by decide +kernel) ⟨Nat.le_of_ble_eq_true rfl, Nat.le_of_ble_eq_true rfl⟩) BW.bl (va_recv hK hP (ci := 0) (q0 := 0) rfl rfl) (BW.at hP hK hE hS) rfl hl.1 rfl (Nat.le_of_ble_eq_true rfl) dX0_owners_28 ⟨Nat.zero_le _, Nat.zero_le _⟩ ?_
    refine lv_if_le (tgt := 37) hx hb dX0_owners_31 (by decide) (fun h6 => ?_) (fun h6 => ?_)
    · refine lv_iinc (v := nI (i + 1)) (lv' := [(4, .int (nI (i + 1))), (0, .ref (q 0)), (1, .int (nI f)), (2, .int (nI w)), (3, .int (nI (cn (fun z => decide (0 < own g f w z)) i)))]) hx hb dX0_owners_37 hl (k := 4) rfl (nI_inc _ 1) (by decide) rfl (fun ls hl => ?_)
      refine lv_goto (tgt := 14) hx hb dX0_owners_40 (by decide) ?_
      have e3_ : nI (cn (fun z => decide (0 < own g f w z)) i) = nI (cn (fun z => decide (0 < own g f w z)) (i + 1)) := by simp [cn, h4, h5, h6, Int32.not_lt.mpr h6]
      rw [e3_] at hl
      exact ih14 (trivial) _ (lv_sub hl [1, 2, 3, 4, 0] rfl)
    · have h6 := Int32.not_le.mp h6
      refine lv_iinc (v := nI (cn (fun z => decide (0 < own g f w z)) i + 1)) (lv' := [(3, .int (nI (cn (fun z => decide (0 < own g f w z)) i + 1))), (0, .ref (q 0)), (1, .int (nI f)), (2, .int (nI w)), (4, .int (nI i))]) hx hb dX0_owners_34 hl (k := 3) rfl (nI_inc _ 1) (by decide) rfl (fun ls hl => ?_)
      refine lv_iinc (v := nI (i + 1)) (lv' := [(4, .int (nI (i + 1))), (3, .int (nI (cn (fun z => decide (0 < own g f w z)) i + 1))), (0, .ref (q 0)), (1, .int (nI f)), (2, .int (nI w))]) hx hb dX0_owners_37 hl (k := 4) rfl (nI_inc _ 1) (by decide) rfl (fun ls hl => ?_)
      refine lv_goto (tgt := 14) hx hb dX0_owners_40 (by decide) ?_
      have e3_ : nI (cn (fun z => decide (0 < own g f w z)) i + 1) = nI (cn (fun z => decide (0 < own g f w z)) (i + 1)) := by simp [cn, h4, h5, h6, Int32.not_le.mpr h6]
      rw [e3_] at hl
      exact ih14 (trivial) _ (lv_sub hl [2, 3, 4, 1, 0] rfl)
set_option maxHeartbeats 4000000 in
set_option maxRecDepth 100000 in
theorem m_X0_holder_r (l : Launch) {D : va_G} {ci cz : ClassId} {cj : ClassId × ClassId} {q : Nat → Nat} {F P : Nat} {g : Nat → Nat → Int32} (hF : F ≤ 6) (hP12 : P ≤ 12) (f : Nat) (w : Nat) (ha0 : f < F) (ha1 : w < 4) (ha2 : sHol g P f w ≠ -1) : Met l yX0_holder wsX0_holder ({ frames := 2, cells := 0, slots := 0, locals := 45 } : Room) (va_Pc [.ref (q 0), .int (nI f), .int (nI w)] (B0 D ci cz cj q F P g)) (RQ (some (.int (sHol g P f w)))) 0 0 none_ := by
  refine Met.ofR (cc := cX0_holder) (maxL := 7) (ret := (some .int)) (by decide) rfl (Nat.le_of_ble_eq_true rfl) ?_
  intro pg en s m bl mt cd ls Fx hr hlocks hB hl
  obtain ⟨hP, hK, hE⟩ := hB
  have hl : lv_has ls 7 [(0, .ref (q 0)), (1, .int (nI f)), (2, .int (nI w))] := hl
  have Fx : CallFix pg m cd cX0_holder 7 s _ wsX0_holder RX0 := Fx
  have hx := Fx.1
  have hb := Fx.2.1
  have hin : ∀ w ∈ wsX00, w ∈ wsX0_holder := by decide +kernel
  have hS : va_S (aw q 8) s.heap s.heap [] := va_S.rf
  have hP : va_P D vwCl (w0 ci cz q F P g) s.heap := hP
  refine lv_aload_n hx hb dX0_holder_0 rfl (lv_at hl 0 rfl) ?_
  refine lv_iload_n hx hb dX0_holder_1 rfl (lv_at hl 1 rfl) ?_
  refine r_callR (rest := []) Fx (m_X0_needFerry l (D := D) (ci := ci) (cz := cz) (cj := cj) (q := q) (F := F) (P := P) (g := g) hF hP12 f (by omega)) (cwV 1 Fx.2.2.2.2 gX0_holder_X0_needFerry rfl rfl rfl (by decide +kernel) ⟨Nat.le_of_ble_eq_true rfl, Nat.le_of_ble_eq_true rfl⟩) BW.bl (va_recv hK hP (ci := 0) (q0 := 0) rfl rfl) (BW.at hP hK hE hS) rfl hl.1 rfl (Nat.le_of_ble_eq_true rfl) dX0_holder_2 ⟨Nat.zero_le _, Nat.zero_le _⟩ ?_
  refine lv_iload_n hx hb dX0_holder_5 rfl (lv_at hl 2 rfl) ?_
  refine r_callRS (rest := []) Fx (m_X0_needWatch l (D := D) (ci := ci) (cz := cz) (cj := cj) (q := q) (F := F) (P := P) (g := g) hF hP12 w (by omega)) (va_cwS 1 Fx.2.2.2.2 gX0_holder_X0_needWatch rfl rfl rfl (by decide +kernel) ⟨Nat.le_of_ble_eq_true rfl, Nat.le_of_ble_eq_true rfl⟩) BW.bl (BW.at hP hK hE hS) rfl hl.1 rfl (Nat.le_of_ble_eq_true rfl) dX0_holder_6 ⟨Nat.zero_le _, Nat.zero_le _⟩ ?_
  refine lv_iconst (v := -1) hx hb dX0_holder_9 (by decide) ?_
  refine lv_istore_n (lv' := [(3, .int (-1)), (0, .ref (q 0)), (1, .int (nI f)), (2, .int (nI w))]) hx hb dX0_holder_10 rfl hl (by decide) rfl (fun ls hl => ?_)
  refine lv_iconst (v := nI 0) hx hb dX0_holder_11 (by decide) ?_
  refine lv_istore (lv' := [(4, .int (nI 0)), (3, .int (-1)), (0, .ref (q 0)), (1, .int (nI f)), (2, .int (nI w))]) hx hb dX0_holder_12 hl (by decide) rfl (fun ls hl => ?_)
  refine lv_iconst (v := nI 0) hx hb dX0_holder_14 (by decide) ?_
  refine lv_istore (lv' := [(5, .int (nI 0)), (4, .int (nI 0)), (3, .int (-1)), (0, .ref (q 0)), (1, .int (nI f)), (2, .int (nI w))]) hx hb dX0_holder_15 hl (by decide) rfl (fun ls hl => ?_)
  refine rloop (nL := 7) (N := P) (fun _ => True) (fun i => [(0, .ref (q 0)), (1, .int (nI f)), (2, .int (nI w)), (3, .int ((ho (fun z => own g f w z) i).1)), (4, .int ((ho (fun z => own g f w z) i).2)), (5, .int (nI i))]) (trivial) (lv_sub hl [3, 4, 5, 2, 1, 0] rfl) ?_ ?_
  · intro h1 ls hl
    have hl : lv_has ls 7 [(0, .ref (q 0)), (1, .int (nI f)), (2, .int (nI w)), (3, .int ((ho (fun z => own g f w z) P).1)), (4, .int ((ho (fun z => own g f w z) P).2)), (5, .int (nI P))] := hl
    refine lv_iload hx hb dX0_holder_17 (lv_at hl 5 rfl) ?_
    refine lv_aload_n hx hb dX0_holder_19 rfl (lv_at hl 0 rfl) ?_
    refine r_get Fx hin hK hP 0 rfl 4 (by decide) (by decide +kernel) rfl rfl dX0_holder_20 ?_
    refine n_icmp_ge (tgt := 56) hx hb (by omega) (by omega) dX0_holder_23 (by decide) (fun h2 => ?_) (fun h2 => by omega)
    refine lv_iload_n hx hb dX0_holder_56 rfl (lv_at hl 3 rfl) ?_
    refine lv_iconst (v := -1) hx hb dX0_holder_57 (by decide) ?_
    refine lv_icmp_ne (tgt := 71) hx hb dX0_holder_58 (by decide) (fun h3 => ?_) (fun h3 => absurd h3 ha2)
    refine lv_iload_n hx hb dX0_holder_71 rfl (lv_at hl 3 rfl) ?_
    exact r_iret hx hb hr hlocks (rfl) dX0_holder_72
  · intro i h5 h4 ih17 ls hl
    have hl : lv_has ls 7 [(0, .ref (q 0)), (1, .int (nI f)), (2, .int (nI w)), (3, .int ((ho (fun z => own g f w z) i).1)), (4, .int ((ho (fun z => own g f w z) i).2)), (5, .int (nI i))] := hl
    refine lv_iload hx hb dX0_holder_17 (lv_at hl 5 rfl) ?_
    refine lv_aload_n hx hb dX0_holder_19 rfl (lv_at hl 0 rfl) ?_
    refine r_get Fx hin hK hP 0 rfl 4 (by decide) (by decide +kernel) rfl rfl dX0_holder_20 ?_
    refine n_icmp_ge (tgt := 56) hx hb (by omega) (by omega) dX0_holder_23 (by decide) (fun h6 => by omega) (fun h6 => ?_)
    refine lv_aload_n hx hb dX0_holder_26 rfl (lv_at hl 0 rfl) ?_
    refine lv_iload_n hx hb dX0_holder_27 rfl (lv_at hl 1 rfl) ?_
    refine lv_iload_n hx hb dX0_holder_28 rfl (lv_at hl 2 rfl) ?_
    refine lv_iload hx hb dX0_holder_29 (lv_at hl 5 rfl) ?_
    refine r_callR (rest := []) Fx (m_X0_owns l (D := D) (ci := ci) (cz := cz) (cj := cj) (q := q) (F := F) (P := P) (g := g) hF hP12 f w i (by omega) (by omega) (by omega)) (cwV 3 Fx.2.2.2.2 gX0_holder_X0_owns rfl rfl rfl (by decide +kernel) ⟨Nat.le_of_ble_eq_true rfl, Nat.le_of_ble_eq_true rfl⟩) BW.bl (va_recv hK hP (ci := 0) (q0 := 0) rfl rfl) (BW.at hP hK hE hS) rfl hl.1 rfl (Nat.le_of_ble_eq_true rfl) dX0_holder_31 ⟨Nat.zero_le _, Nat.zero_le _⟩ ?_
    refine lv_istore (lv' := [(6, .int (own g f w i)), (0, .ref (q 0)), (1, .int (nI f)), (2, .int (nI w)), (3, .int ((ho (fun z => own g f w z) i).1)), (4, .int ((ho (fun z => own g f w z) i).2)), (5, .int (nI i))]) hx hb dX0_holder_34 hl (by decide) rfl (fun ls hl => ?_)
    refine lv_iload hx hb dX0_holder_36 (lv_at hl 0 rfl) ?_
    refine lv_iload hx hb dX0_holder_38 (lv_at hl 5 rfl) ?_
    refine lv_icmp_le (tgt := 50) hx hb dX0_holder_40 (by decide) (fun h7 => ?_) (fun h7 => ?_)
    · refine lv_iinc (v := nI (i + 1)) (lv' := [(5, .int (nI (i + 1))), (6, .int (own g f w i)), (0, .ref (q 0)), (1, .int (nI f)), (2, .int (nI w)), (3, .int ((ho (fun z => own g f w z) i).1)), (4, .int ((ho (fun z => own g f w z) i).2))]) hx hb dX0_holder_50 hl (k := 6) rfl (nI_inc _ 1) (by decide) rfl (fun ls hl => ?_)
      refine lv_goto (tgt := 17) hx hb dX0_holder_53 (by decide) ?_
      have e3_ : (ho (fun z => own g f w z) i).1 = (ho (fun z => own g f w z) (i + 1)).1 := by simp [ho, h5, h6, h7, Int32.not_lt.mpr h7]
      rw [e3_] at hl
      have e4_ : (ho (fun z => own g f w z) i).2 = (ho (fun z => own g f w z) (i + 1)).2 := by simp [ho, h5, h6, h7, Int32.not_lt.mpr h7]
      rw [e4_] at hl
      exact ih17 (trivial) _ (lv_sub hl [2, 3, 4, 5, 6, 0] rfl)
    · have h7 := Int32.not_le.mp h7
      refine lv_iload hx hb dX0_holder_43 (lv_at hl 6 rfl) ?_
      refine lv_istore_n (lv' := [(3, .int (nI i)), (6, .int (own g f w i)), (0, .ref (q 0)), (1, .int (nI f)), (2, .int (nI w)), (4, .int ((ho (fun z => own g f w z) i).2)), (5, .int (nI i))]) hx hb dX0_holder_45 rfl hl (by decide) rfl (fun ls hl => ?_)
      refine lv_iload hx hb dX0_holder_46 (lv_at hl 1 rfl) ?_
      refine lv_istore (lv' := [(4, .int (own g f w i)), (3, .int (nI i)), (6, .int (own g f w i)), (0, .ref (q 0)), (1, .int (nI f)), (2, .int (nI w)), (5, .int (nI i))]) hx hb dX0_holder_48 hl (by decide) rfl (fun ls hl => ?_)
      refine lv_iinc (v := nI (i + 1)) (lv' := [(5, .int (nI (i + 1))), (4, .int (own g f w i)), (3, .int (nI i)), (6, .int (own g f w i)), (0, .ref (q 0)), (1, .int (nI f)), (2, .int (nI w))]) hx hb dX0_holder_50 hl (k := 6) rfl (nI_inc _ 1) (by decide) rfl (fun ls hl => ?_)
      refine lv_goto (tgt := 17) hx hb dX0_holder_53 (by decide) ?_
      have e3_ : nI i = (ho (fun z => own g f w z) (i + 1)).1 := by simp [ho, h5, h6, h7, Int32.not_le.mpr h7]
      rw [e3_] at hl
      have e4_ : own g f w i = (ho (fun z => own g f w z) (i + 1)).2 := by simp [ho, h5, h6, h7, Int32.not_le.mpr h7]
      rw [e4_] at hl
      exact ih17 (trivial) _ (lv_sub hl [4, 5, 6, 2, 1, 0] rfl)
set_option maxHeartbeats 4000000 in
set_option maxRecDepth 100000 in
theorem m_X0_master_r (l : Launch) {D : va_G} {ci cz : ClassId} {cj : ClassId × ClassId} {q : Nat → Nat} {F P : Nat} {g : Nat → Nat → Int32} (hF : F ≤ 6) (hP12 : P ≤ 12) (a : Nat) (ha0 : a < F) (ha1 : sMas g P a ≠ -1) : Met l yX0_master wsX0_master ({ frames := 4, cells := 0, slots := 0, locals := 91 } : Room) (va_Pc [.ref (q 0), .int (nI a)] (B0 D ci cz cj q F P g)) (RQ (some (.int (sMas g P a)))) 0 0 none_ := by
  refine Met.ofR (cc := cX0_master) (maxL := 3) (ret := (some .int)) (by decide) rfl (Nat.le_of_ble_eq_true rfl) ?_
  intro pg en s m bl mt cd ls Fx hr hlocks hB hl
  obtain ⟨hP, hK, hE⟩ := hB
  have hl : lv_has ls 3 [(0, .ref (q 0)), (1, .int (nI a))] := hl
  have Fx : CallFix pg m cd cX0_master 3 s _ wsX0_master RX0 := Fx
  have hx := Fx.1
  have hb := Fx.2.1
  have hS : va_S (aw q 8) s.heap s.heap [] := va_S.rf
  have hP : va_P D vwCl (w0 ci cz q F P g) s.heap := hP
  refine lv_aload_n hx hb dX0_master_0 rfl (lv_at hl 0 rfl) ?_
  refine lv_iload_n hx hb dX0_master_1 rfl (lv_at hl 1 rfl) ?_
  refine r_callR (rest := []) Fx (m_X0_needFerry l (D := D) (ci := ci) (cz := cz) (cj := cj) (q := q) (F := F) (P := P) (g := g) hF hP12 a (by omega)) (cwV 1 Fx.2.2.2.2 gX0_master_X0_needFerry rfl rfl rfl (by decide +kernel) ⟨Nat.le_of_ble_eq_true rfl, Nat.le_of_ble_eq_true rfl⟩) BW.bl (va_recv hK hP (ci := 0) (q0 := 0) rfl rfl) (BW.at hP hK hE hS) rfl hl.1 rfl (Nat.le_of_ble_eq_true rfl) dX0_master_2 ⟨Nat.zero_le _, Nat.zero_le _⟩ ?_
  refine lv_aload_n hx hb dX0_master_5 rfl (lv_at hl 0 rfl) ?_
  refine lv_iload_n hx hb dX0_master_6 rfl (lv_at hl 1 rfl) ?_
  refine r_callR (rest := []) Fx (m_X0_findMaster l (D := D) (ci := ci) (cz := cz) (cj := cj) (q := q) (F := F) (P := P) (g := g) hF hP12 a (by omega)) (cwV 1 Fx.2.2.2.2 gX0_master_X0_findMaster rfl rfl rfl (by decide +kernel) ⟨Nat.le_of_ble_eq_true rfl, Nat.le_of_ble_eq_true rfl⟩) BW.bl (va_recv hK hP (ci := 0) (q0 := 0) rfl rfl) (BW.at hP hK hE hS) rfl hl.1 rfl (Nat.le_of_ble_eq_true rfl) dX0_master_7 ⟨Nat.zero_le _, Nat.zero_le _⟩ ?_
  refine lv_istore_n (lv' := [(2, .int (sMas g P a)), (0, .ref (q 0)), (1, .int (nI a))]) hx hb dX0_master_10 rfl hl (by decide) rfl (fun ls hl => ?_)
  refine lv_iload_n hx hb dX0_master_11 rfl (lv_at hl 0 rfl) ?_
  refine lv_iconst (v := -1) hx hb dX0_master_12 (by decide) ?_
  refine lv_icmp_ne (tgt := 26) hx hb dX0_master_13 (by decide) (fun h1 => ?_) (fun h1 => absurd h1 ha1)
  refine lv_iload_n hx hb dX0_master_26 rfl (lv_at hl 0 rfl) ?_
  exact r_iret hx hb hr hlocks (rfl) dX0_master_27
set_option maxHeartbeats 4000000 in
set_option maxRecDepth 100000 in
theorem m_X0_hasMaster_r (l : Launch) {D : va_G} {ci cz : ClassId} {cj : ClassId × ClassId} {q : Nat → Nat} {F P : Nat} {g : Nat → Nat → Int32} (hF : F ≤ 6) (hP12 : P ≤ 12) (a : Nat) (ha0 : a < F) : Met l yX0_hasMaster wsX0_hasMaster ({ frames := 4, cells := 0, slots := 0, locals := 91 } : Room) (va_Pc [.ref (q 0), .int (nI a)] (B0 D ci cz cj q F P g)) (RQ (some (.int (bI (decide (sMas g P a ≠ -1)))))) 0 0 none_ := by
  refine Met.ofR (cc := cX0_hasMaster) (maxL := 2) (ret := (some .boolean)) (by decide) rfl (Nat.le_of_ble_eq_true rfl) ?_
  intro pg en s m bl mt cd ls Fx hr hlocks hB hl
  obtain ⟨hP, hK, hE⟩ := hB
  have hl : lv_has ls 2 [(0, .ref (q 0)), (1, .int (nI a))] := hl
  have Fx : CallFix pg m cd cX0_hasMaster 2 s _ wsX0_hasMaster RX0 := Fx
  have hx := Fx.1
  have hb := Fx.2.1
  have hS : va_S (aw q 8) s.heap s.heap [] := va_S.rf
  have hP : va_P D vwCl (w0 ci cz q F P g) s.heap := hP
  refine lv_aload_n hx hb dX0_hasMaster_0 rfl (lv_at hl 0 rfl) ?_
  refine lv_iload_n hx hb dX0_hasMaster_1 rfl (lv_at hl 1 rfl) ?_
  refine r_callR (rest := []) Fx (m_X0_needFerry l (D := D) (ci := ci) (cz := cz) (cj := cj) (q := q) (F := F) (P := P) (g := g) hF hP12 a (by omega)) (cwV 1 Fx.2.2.2.2 gX0_hasMaster_X0_needFerry rfl rfl rfl (by decide +kernel) ⟨Nat.le_of_ble_eq_true rfl, Nat.le_of_ble_eq_true rfl⟩) BW.bl (va_recv hK hP (ci := 0) (q0 := 0) rfl rfl) (BW.at hP hK hE hS) rfl hl.1 rfl (Nat.le_of_ble_eq_true rfl) dX0_hasMaster_2 ⟨Nat.zero_le _, Nat.zero_le _⟩ ?_
  refine lv_aload_n hx hb dX0_hasMaster_5 rfl (lv_at hl 0 rfl) ?_
  refine lv_iload_n hx hb dX0_hasMaster_6 rfl (lv_at hl 1 rfl) ?_
  refine r_callR (rest := []) Fx (m_X0_findMaster l (D := D) (ci := ci) (cz := cz) (cj := cj) (q := q) (F := F) (P := P) (g := g) hF hP12 a (by omega)) (cwV 1 Fx.2.2.2.2 gX0_hasMaster_X0_findMaster rfl rfl rfl (by decide +kernel) ⟨Nat.le_of_ble_eq_true rfl, Nat.le_of_ble_eq_true rfl⟩) BW.bl (va_recv hK hP (ci := 0) (q0 := 0) rfl rfl) (BW.at hP hK hE hS) rfl hl.1 rfl (Nat.le_of_ble_eq_true rfl) dX0_hasMaster_7 ⟨Nat.zero_le _, Nat.zero_le _⟩ ?_
  refine lv_iconst (v := -1) hx hb dX0_hasMaster_10 (by decide) ?_
  refine lv_icmp_eq (tgt := 18) hx hb dX0_hasMaster_11 (by decide) (fun h1 => ?_) (fun h1 => ?_)
  · refine lv_iconst (v := nI 0) hx hb dX0_hasMaster_18 (by decide) ?_
    exact r_zret hx hb hr hlocks (by simp [bI, h1]) dX0_hasMaster_19
  · refine lv_iconst (v := nI 1) hx hb dX0_hasMaster_14 (by decide) ?_
    refine lv_goto (tgt := 19) hx hb dX0_hasMaster_15 (by decide) ?_
    exact r_zret hx hb hr hlocks (by simp [bI, h1]) dX0_hasMaster_19
set_option maxHeartbeats 4000000 in
set_option maxRecDepth 100000 in
theorem m_X0_shareValue_r (l : Launch) {D : va_G} {ci cz : ClassId} {cj : ClassId × ClassId} {q : Nat → Nat} {F P : Nat} {g : Nat → Nat → Int32} (hF : F ≤ 6) (hP12 : P ≤ 12) (f : Nat) (w : Nat) (ha0 : f < F) (ha1 : w < 4) : Met l yX0_shareValue wsX0_shareValue ({ frames := 1, cells := 0, slots := 0, locals := 22 } : Room) (va_Pc [.ref (q 0), .int (nI f), .int (nI w)] (B0 D ci cz cj q F P g)) (RQ (some (.int (sWor g f w)))) 0 0 none_ := by
  refine Met.ofR (cc := cX0_shareValue) (maxL := 3) (ret := (some .int)) (by decide) rfl (Nat.le_of_ble_eq_true rfl) ?_
  intro pg en s m bl mt cd ls Fx hr hlocks hB hl
  obtain ⟨hP, hK, hE⟩ := hB
  have hl : lv_has ls 3 [(0, .ref (q 0)), (1, .int (nI f)), (2, .int (nI w))] := hl
  have Fx : CallFix pg m cd cX0_shareValue 3 s _ wsX0_shareValue RX0 := Fx
  have hx := Fx.1
  have hb := Fx.2.1
  have hS : va_S (aw q 8) s.heap s.heap [] := va_S.rf
  have hP : va_P D vwCl (w0 ci cz q F P g) s.heap := hP
  refine lv_aload_n hx hb dX0_shareValue_0 rfl (lv_at hl 0 rfl) ?_
  refine lv_iload_n hx hb dX0_shareValue_1 rfl (lv_at hl 1 rfl) ?_
  refine r_callR (rest := []) Fx (m_X0_needFerry l (D := D) (ci := ci) (cz := cz) (cj := cj) (q := q) (F := F) (P := P) (g := g) hF hP12 f (by omega)) (cwV 1 Fx.2.2.2.2 gX0_shareValue_X0_needFerry rfl rfl rfl (by decide +kernel) ⟨Nat.le_of_ble_eq_true rfl, Nat.le_of_ble_eq_true rfl⟩) BW.bl (va_recv hK hP (ci := 0) (q0 := 0) rfl rfl) (BW.at hP hK hE hS) rfl hl.1 rfl (Nat.le_of_ble_eq_true rfl) dX0_shareValue_2 ⟨Nat.zero_le _, Nat.zero_le _⟩ ?_
  refine lv_iload_n hx hb dX0_shareValue_5 rfl (lv_at hl 2 rfl) ?_
  refine r_callRS (rest := []) Fx (m_X0_needWatch l (D := D) (ci := ci) (cz := cz) (cj := cj) (q := q) (F := F) (P := P) (g := g) hF hP12 w (by omega)) (va_cwS 1 Fx.2.2.2.2 gX0_shareValue_X0_needWatch rfl rfl rfl (by decide +kernel) ⟨Nat.le_of_ble_eq_true rfl, Nat.le_of_ble_eq_true rfl⟩) BW.bl (BW.at hP hK hE hS) rfl hl.1 rfl (Nat.le_of_ble_eq_true rfl) dX0_shareValue_6 ⟨Nat.zero_le _, Nat.zero_le _⟩ ?_
  refine lv_aload_n hx hb dX0_shareValue_9 rfl (lv_at hl 0 rfl) ?_
  refine lv_iload_n hx hb dX0_shareValue_10 rfl (lv_at hl 1 rfl) ?_
  refine lv_iload_n hx hb dX0_shareValue_11 rfl (lv_at hl 2 rfl) ?_
  refine r_callR (rest := []) Fx (m_X0_worth l (D := D) (ci := ci) (cz := cz) (cj := cj) (q := q) (F := F) (P := P) (g := g) hF hP12 f w (by omega) (by omega)) (cwV 2 Fx.2.2.2.2 gX0_shareValue_X0_worth rfl rfl rfl (by decide +kernel) ⟨Nat.le_of_ble_eq_true rfl, Nat.le_of_ble_eq_true rfl⟩) BW.bl (va_recv hK hP (ci := 0) (q0 := 0) rfl rfl) (BW.at hP hK hE hS) rfl hl.1 rfl (Nat.le_of_ble_eq_true rfl) dX0_shareValue_12 ⟨Nat.zero_le _, Nat.zero_le _⟩ ?_
  exact r_iret hx hb hr hlocks (rfl) dX0_shareValue_15
set_option maxHeartbeats 4000000 in
set_option maxRecDepth 100000 in
theorem m_X0_isAlive_r (l : Launch) {D : va_G} {ci cz : ClassId} {cj : ClassId × ClassId} {q : Nat → Nat} {F P : Nat} {g : Nat → Nat → Int32} (hF : F ≤ 6) (hP12 : P ≤ 12) (a : Nat) (ha0 : a < P) : Met l yX0_isAlive wsX0_isAlive ({ frames := 1, cells := 0, slots := 0, locals := 21 } : Room) (va_Pc [.ref (q 0), .int (nI a)] (B0 D ci cz cj q F P g)) (RQ (some (.int (bI (lv g a))))) 0 0 none_ := by
  refine Met.ofR (cc := cX0_isAlive) (maxL := 2) (ret := (some .boolean)) (by decide) rfl (Nat.le_of_ble_eq_true rfl) ?_
  intro pg en s m bl mt cd ls Fx hr hlocks hB hl
  obtain ⟨hP, hK, hE⟩ := hB
  have hl : lv_has ls 2 [(0, .ref (q 0)), (1, .int (nI a))] := hl
  have Fx : CallFix pg m cd cX0_isAlive 2 s _ wsX0_isAlive RX0 := Fx
  have hx := Fx.1
  have hb := Fx.2.1
  have hin : ∀ w ∈ wsX00, w ∈ wsX0_isAlive := by decide +kernel
  have hS : va_S (aw q 8) s.heap s.heap [] := va_S.rf
  have hP : va_P D vwCl (w0 ci cz q F P g) s.heap := hP
  refine lv_aload_n hx hb dX0_isAlive_0 rfl (lv_at hl 0 rfl) ?_
  refine lv_iload_n hx hb dX0_isAlive_1 rfl (lv_at hl 1 rfl) ?_
  refine r_callR (rest := []) Fx (m_X0_needPerson l (D := D) (ci := ci) (cz := cz) (cj := cj) (q := q) (F := F) (P := P) (g := g) hF hP12 a (by omega)) (cwV 1 Fx.2.2.2.2 gX0_isAlive_X0_needPerson rfl rfl rfl (by decide +kernel) ⟨Nat.le_of_ble_eq_true rfl, Nat.le_of_ble_eq_true rfl⟩) BW.bl (va_recv hK hP (ci := 0) (q0 := 0) rfl rfl) (BW.at hP hK hE hS) rfl hl.1 rfl (Nat.le_of_ble_eq_true rfl) dX0_isAlive_2 ⟨Nat.zero_le _, Nat.zero_le _⟩ ?_
  refine lv_aload_n hx hb dX0_isAlive_5 rfl (lv_at hl 0 rfl) ?_
  refine r_get Fx hin hK hP 0 rfl 5 (by decide) (by decide +kernel) rfl rfl dX0_isAlive_6 ?_
  refine lv_iload_n hx hb dX0_isAlive_9 rfl (lv_at hl 1 rfl) ?_
  refine r_alive Fx hK hP (i := a) (by omega) (by omega) dX0_isAlive_10 ?_
  exact r_zret hx hb hr hlocks (rfl) dX0_isAlive_11
set_option maxHeartbeats 4000000 in
set_option maxRecDepth 100000 in
theorem m_X0_coins_r (l : Launch) {D : va_G} {ci cz : ClassId} {cj : ClassId × ClassId} {q : Nat → Nat} {F P : Nat} {g : Nat → Nat → Int32} (hF : F ≤ 6) (hP12 : P ≤ 12) (a : Nat) (ha0 : a < P) : Met l yX0_coins wsX0_coins ({ frames := 1, cells := 0, slots := 0, locals := 21 } : Room) (va_Pc [.ref (q 0), .int (nI a)] (B0 D ci cz cj q F P g)) (RQ (some (.int (g 4 a)))) 0 0 none_ := by
  refine Met.ofR (cc := cX0_coins) (maxL := 2) (ret := (some .int)) (by decide) rfl (Nat.le_of_ble_eq_true rfl) ?_
  intro pg en s m bl mt cd ls Fx hr hlocks hB hl
  obtain ⟨hP, hK, hE⟩ := hB
  have hl : lv_has ls 2 [(0, .ref (q 0)), (1, .int (nI a))] := hl
  have Fx : CallFix pg m cd cX0_coins 2 s _ wsX0_coins RX0 := Fx
  have hx := Fx.1
  have hb := Fx.2.1
  have hin : ∀ w ∈ wsX00, w ∈ wsX0_coins := by decide +kernel
  have hS : va_S (aw q 8) s.heap s.heap [] := va_S.rf
  have hP : va_P D vwCl (w0 ci cz q F P g) s.heap := hP
  refine lv_aload_n hx hb dX0_coins_0 rfl (lv_at hl 0 rfl) ?_
  refine lv_iload_n hx hb dX0_coins_1 rfl (lv_at hl 1 rfl) ?_
  refine r_callR (rest := []) Fx (m_X0_needPerson l (D := D) (ci := ci) (cz := cz) (cj := cj) (q := q) (F := F) (P := P) (g := g) hF hP12 a (by omega)) (cwV 1 Fx.2.2.2.2 gX0_coins_X0_needPerson rfl rfl rfl (by decide +kernel) ⟨Nat.le_of_ble_eq_true rfl, Nat.le_of_ble_eq_true rfl⟩) BW.bl (va_recv hK hP (ci := 0) (q0 := 0) rfl rfl) (BW.at hP hK hE hS) rfl hl.1 rfl (Nat.le_of_ble_eq_true rfl) dX0_coins_2 ⟨Nat.zero_le _, Nat.zero_le _⟩ ?_
  refine lv_aload_n hx hb dX0_coins_5 rfl (lv_at hl 0 rfl) ?_
  refine r_get Fx hin hK hP 0 rfl 6 (by decide) (by decide +kernel) rfl rfl dX0_coins_6 ?_
  refine lv_iload_n hx hb dX0_coins_9 rfl (lv_at hl 1 rfl) ?_
  refine r_iald Fx hK hP 5 0 rfl rfl (i := a) (by omega) (by decide) dX0_coins_10 ?_
  exact r_iret hx hb hr hlocks (rfl) dX0_coins_11
set_option maxHeartbeats 4000000 in
set_option maxRecDepth 100000 in
theorem m_X0_earned_r (l : Launch) {D : va_G} {ci cz : ClassId} {cj : ClassId × ClassId} {q : Nat → Nat} {F P : Nat} {g : Nat → Nat → Int32} (hF : F ≤ 6) (hP12 : P ≤ 12) (a : Nat) (ha0 : a < P) : Met l yX0_earned wsX0_earned ({ frames := 1, cells := 0, slots := 0, locals := 21 } : Room) (va_Pc [.ref (q 0), .int (nI a)] (B0 D ci cz cj q F P g)) (RQ (some (.int (g 5 a)))) 0 0 none_ := by
  refine Met.ofR (cc := cX0_earned) (maxL := 2) (ret := (some .int)) (by decide) rfl (Nat.le_of_ble_eq_true rfl) ?_
  intro pg en s m bl mt cd ls Fx hr hlocks hB hl
  obtain ⟨hP, hK, hE⟩ := hB
  have hl : lv_has ls 2 [(0, .ref (q 0)), (1, .int (nI a))] := hl
  have Fx : CallFix pg m cd cX0_earned 2 s _ wsX0_earned RX0 := Fx
  have hx := Fx.1
  have hb := Fx.2.1
  have hin : ∀ w ∈ wsX00, w ∈ wsX0_earned := by decide +kernel
  have hS : va_S (aw q 8) s.heap s.heap [] := va_S.rf
  have hP : va_P D vwCl (w0 ci cz q F P g) s.heap := hP
  refine lv_aload_n hx hb dX0_earned_0 rfl (lv_at hl 0 rfl) ?_
  refine lv_iload_n hx hb dX0_earned_1 rfl (lv_at hl 1 rfl) ?_
  refine r_callR (rest := []) Fx (m_X0_needPerson l (D := D) (ci := ci) (cz := cz) (cj := cj) (q := q) (F := F) (P := P) (g := g) hF hP12 a (by omega)) (cwV 1 Fx.2.2.2.2 gX0_earned_X0_needPerson rfl rfl rfl (by decide +kernel) ⟨Nat.le_of_ble_eq_true rfl, Nat.le_of_ble_eq_true rfl⟩) BW.bl (va_recv hK hP (ci := 0) (q0 := 0) rfl rfl) (BW.at hP hK hE hS) rfl hl.1 rfl (Nat.le_of_ble_eq_true rfl) dX0_earned_2 ⟨Nat.zero_le _, Nat.zero_le _⟩ ?_
  refine lv_aload_n hx hb dX0_earned_5 rfl (lv_at hl 0 rfl) ?_
  refine r_get Fx hin hK hP 0 rfl 7 (by decide) (by decide +kernel) rfl rfl dX0_earned_6 ?_
  refine lv_iload_n hx hb dX0_earned_9 rfl (lv_at hl 1 rfl) ?_
  refine r_iald Fx hK hP 6 0 rfl rfl (i := a) (by omega) (by decide) dX0_earned_10 ?_
  exact r_iret hx hb hr hlocks (rfl) dX0_earned_11
set_option maxHeartbeats 4000000 in
set_option maxRecDepth 100000 in
theorem m_X0_allShares_r (l : Launch) {D : va_G} {ci cz : ClassId} {cj : ClassId × ClassId} {q : Nat → Nat} {F P : Nat} {g : Nat → Nat → Int32} (hF : F ≤ 6) (hP12 : P ≤ 12) (a : Nat) (ha0 : a < P) : Met l yX0_allShares wsX0_allShares ({ frames := 4, cells := 0, slots := 0, locals := 92 } : Room) (va_Pc [.ref (q 0), .int (nI a)] (B0 D ci cz cj q F P g)) (RQ (some (.int (sAll g F a)))) 0 0 none_ := by
  refine Met.ofR (cc := cX0_allShares) (maxL := 2) (ret := (some .int)) (by decide) rfl (Nat.le_of_ble_eq_true rfl) ?_
  intro pg en s m bl mt cd ls Fx hr hlocks hB hl
  obtain ⟨hP, hK, hE⟩ := hB
  have hl : lv_has ls 2 [(0, .ref (q 0)), (1, .int (nI a))] := hl
  have Fx : CallFix pg m cd cX0_allShares 2 s _ wsX0_allShares RX0 := Fx
  have hx := Fx.1
  have hb := Fx.2.1
  have hS : va_S (aw q 8) s.heap s.heap [] := va_S.rf
  have hP : va_P D vwCl (w0 ci cz q F P g) s.heap := hP
  refine lv_aload_n hx hb dX0_allShares_0 rfl (lv_at hl 0 rfl) ?_
  refine lv_iload_n hx hb dX0_allShares_1 rfl (lv_at hl 1 rfl) ?_
  refine r_callR (rest := []) Fx (m_X0_needPerson l (D := D) (ci := ci) (cz := cz) (cj := cj) (q := q) (F := F) (P := P) (g := g) hF hP12 a (by omega)) (cwV 1 Fx.2.2.2.2 gX0_allShares_X0_needPerson rfl rfl rfl (by decide +kernel) ⟨Nat.le_of_ble_eq_true rfl, Nat.le_of_ble_eq_true rfl⟩) BW.bl (va_recv hK hP (ci := 0) (q0 := 0) rfl rfl) (BW.at hP hK hE hS) rfl hl.1 rfl (Nat.le_of_ble_eq_true rfl) dX0_allShares_2 ⟨Nat.zero_le _, Nat.zero_le _⟩ ?_
  refine lv_aload_n hx hb dX0_allShares_5 rfl (lv_at hl 0 rfl) ?_
  refine lv_iload_n hx hb dX0_allShares_6 rfl (lv_at hl 1 rfl) ?_
  refine r_callR (rest := []) Fx (m_X0_countAllShares l (D := D) (ci := ci) (cz := cz) (cj := cj) (q := q) (F := F) (P := P) (g := g) hF hP12 a (by omega)) (cwV 1 Fx.2.2.2.2 gX0_allShares_X0_countAllShares rfl rfl rfl (by decide +kernel) ⟨Nat.le_of_ble_eq_true rfl, Nat.le_of_ble_eq_true rfl⟩) BW.bl (va_recv hK hP (ci := 0) (q0 := 0) rfl rfl) (BW.at hP hK hE hS) rfl hl.1 rfl (Nat.le_of_ble_eq_true rfl) dX0_allShares_7 ⟨Nat.zero_le _, Nat.zero_le _⟩ ?_
  exact r_iret hx hb hr hlocks (rfl) dX0_allShares_10
set_option maxHeartbeats 4000000 in
set_option maxRecDepth 100000 in
theorem m_X0_hasParent_r (l : Launch) {D : va_G} {ci cz : ClassId} {cj : ClassId × ClassId} {q : Nat → Nat} {F P : Nat} {g : Nat → Nat → Int32} (hF : F ≤ 6) (hP12 : P ≤ 12) (a : Nat) (ha0 : a < P) : Met l yX0_hasParent wsX0_hasParent ({ frames := 1, cells := 0, slots := 0, locals := 21 } : Room) (va_Pc [.ref (q 0), .int (nI a)] (B0 D ci cz cj q F P g)) (RQ (some (.int (bI (decide (g 6 a ≠ -1)))))) 0 0 none_ := by
  refine Met.ofR (cc := cX0_hasParent) (maxL := 2) (ret := (some .boolean)) (by decide) rfl (Nat.le_of_ble_eq_true rfl) ?_
  intro pg en s m bl mt cd ls Fx hr hlocks hB hl
  obtain ⟨hP, hK, hE⟩ := hB
  have hl : lv_has ls 2 [(0, .ref (q 0)), (1, .int (nI a))] := hl
  have Fx : CallFix pg m cd cX0_hasParent 2 s _ wsX0_hasParent RX0 := Fx
  have hx := Fx.1
  have hb := Fx.2.1
  have hin : ∀ w ∈ wsX00, w ∈ wsX0_hasParent := by decide +kernel
  have hS : va_S (aw q 8) s.heap s.heap [] := va_S.rf
  have hP : va_P D vwCl (w0 ci cz q F P g) s.heap := hP
  refine lv_aload_n hx hb dX0_hasParent_0 rfl (lv_at hl 0 rfl) ?_
  refine lv_iload_n hx hb dX0_hasParent_1 rfl (lv_at hl 1 rfl) ?_
  refine r_callR (rest := []) Fx (m_X0_needPerson l (D := D) (ci := ci) (cz := cz) (cj := cj) (q := q) (F := F) (P := P) (g := g) hF hP12 a (by omega)) (cwV 1 Fx.2.2.2.2 gX0_hasParent_X0_needPerson rfl rfl rfl (by decide +kernel) ⟨Nat.le_of_ble_eq_true rfl, Nat.le_of_ble_eq_true rfl⟩) BW.bl (va_recv hK hP (ci := 0) (q0 := 0) rfl rfl) (BW.at hP hK hE hS) rfl hl.1 rfl (Nat.le_of_ble_eq_true rfl) dX0_hasParent_2 ⟨Nat.zero_le _, Nat.zero_le _⟩ ?_
  refine lv_aload_n hx hb dX0_hasParent_5 rfl (lv_at hl 0 rfl) ?_
  refine r_get Fx hin hK hP 0 rfl 8 (by decide) (by decide +kernel) rfl rfl dX0_hasParent_6 ?_
  refine lv_iload_n hx hb dX0_hasParent_9 rfl (lv_at hl 1 rfl) ?_
  refine r_iald Fx hK hP 7 0 rfl rfl (i := a) (by omega) (by decide) dX0_hasParent_10 ?_
  refine lv_iconst (v := -1) hx hb dX0_hasParent_11 (by decide) ?_
  refine lv_icmp_eq (tgt := 19) hx hb dX0_hasParent_12 (by decide) (fun h1 => ?_) (fun h1 => ?_)
  · refine lv_iconst (v := nI 0) hx hb dX0_hasParent_19 (by decide) ?_
    exact r_zret hx hb hr hlocks (by simp [bI, h1]) dX0_hasParent_20
  · refine lv_iconst (v := nI 1) hx hb dX0_hasParent_15 (by decide) ?_
    refine lv_goto (tgt := 20) hx hb dX0_hasParent_16 (by decide) ?_
    exact r_zret hx hb hr hlocks (by simp [bI, h1]) dX0_hasParent_20
set_option maxHeartbeats 4000000 in
set_option maxRecDepth 100000 in
theorem m_X0_parent_r (l : Launch) {D : va_G} {ci cz : ClassId} {cj : ClassId × ClassId} {q : Nat → Nat} {F P : Nat} {g : Nat → Nat → Int32} (hF : F ≤ 6) (hP12 : P ≤ 12) (a : Nat) (ha0 : a < P) (ha1 : g 6 a ≠ -1) : Met l yX0_parent wsX0_parent ({ frames := 1, cells := 0, slots := 0, locals := 21 } : Room) (va_Pc [.ref (q 0), .int (nI a)] (B0 D ci cz cj q F P g)) (RQ (some (.int (g 6 a)))) 0 0 none_ := by
  refine Met.ofR (cc := cX0_parent) (maxL := 2) (ret := (some .int)) (by decide) rfl (Nat.le_of_ble_eq_true rfl) ?_
  intro pg en s m bl mt cd ls Fx hr hlocks hB hl
  obtain ⟨hP, hK, hE⟩ := hB
  have hl : lv_has ls 2 [(0, .ref (q 0)), (1, .int (nI a))] := hl
  have Fx : CallFix pg m cd cX0_parent 2 s _ wsX0_parent RX0 := Fx
  have hx := Fx.1
  have hb := Fx.2.1
  have hin : ∀ w ∈ wsX00, w ∈ wsX0_parent := by decide +kernel
  have hS : va_S (aw q 8) s.heap s.heap [] := va_S.rf
  have hP : va_P D vwCl (w0 ci cz q F P g) s.heap := hP
  refine lv_aload_n hx hb dX0_parent_0 rfl (lv_at hl 0 rfl) ?_
  refine lv_iload_n hx hb dX0_parent_1 rfl (lv_at hl 1 rfl) ?_
  refine r_callR (rest := []) Fx (m_X0_needPerson l (D := D) (ci := ci) (cz := cz) (cj := cj) (q := q) (F := F) (P := P) (g := g) hF hP12 a (by omega)) (cwV 1 Fx.2.2.2.2 gX0_parent_X0_needPerson rfl rfl rfl (by decide +kernel) ⟨Nat.le_of_ble_eq_true rfl, Nat.le_of_ble_eq_true rfl⟩) BW.bl (va_recv hK hP (ci := 0) (q0 := 0) rfl rfl) (BW.at hP hK hE hS) rfl hl.1 rfl (Nat.le_of_ble_eq_true rfl) dX0_parent_2 ⟨Nat.zero_le _, Nat.zero_le _⟩ ?_
  refine lv_aload_n hx hb dX0_parent_5 rfl (lv_at hl 0 rfl) ?_
  refine r_get Fx hin hK hP 0 rfl 8 (by decide) (by decide +kernel) rfl rfl dX0_parent_6 ?_
  refine lv_iload_n hx hb dX0_parent_9 rfl (lv_at hl 1 rfl) ?_
  refine r_iald Fx hK hP 7 0 rfl rfl (i := a) (by omega) (by decide) dX0_parent_10 ?_
  refine lv_iconst (v := -1) hx hb dX0_parent_11 (by decide) ?_
  refine lv_icmp_ne (tgt := 25) hx hb dX0_parent_12 (by decide) (fun h1 => ?_) (fun h1 => absurd h1 ha1)
  refine lv_aload_n hx hb dX0_parent_25 rfl (lv_at hl 0 rfl) ?_
  refine r_get Fx hin hK hP 0 rfl 8 (by decide) (by decide +kernel) rfl rfl dX0_parent_26 ?_
  refine lv_iload_n hx hb dX0_parent_29 rfl (lv_at hl 1 rfl) ?_
  refine r_iald Fx hK hP 7 0 rfl rfl (i := a) (by omega) (by decide) dX0_parent_30 ?_
  exact r_iret hx hb hr hlocks (rfl) dX0_parent_31
set_option maxHeartbeats 4000000 in
set_option maxRecDepth 100000 in
theorem m_X0_children_r (l : Launch) {D : va_G} {ci cz : ClassId} {cj : ClassId × ClassId} {q : Nat → Nat} {F P : Nat} {g : Nat → Nat → Int32} (hF : F ≤ 6) (hP12 : P ≤ 12) (a : Nat) (ha0 : a < P) : Met l yX0_children wsX0_children ({ frames := 1, cells := 0, slots := 0, locals := 23 } : Room) (va_Pc [.ref (q 0), .int (nI a)] (B0 D ci cz cj q F P g)) (RQ (some (.int (nI (sChi g P a))))) 0 0 none_ := by
  refine Met.ofR (cc := cX0_children) (maxL := 2) (ret := (some .int)) (by decide) rfl (Nat.le_of_ble_eq_true rfl) ?_
  intro pg en s m bl mt cd ls Fx hr hlocks hB hl
  obtain ⟨hP, hK, hE⟩ := hB
  have hl : lv_has ls 2 [(0, .ref (q 0)), (1, .int (nI a))] := hl
  have Fx : CallFix pg m cd cX0_children 2 s _ wsX0_children RX0 := Fx
  have hx := Fx.1
  have hb := Fx.2.1
  have hS : va_S (aw q 8) s.heap s.heap [] := va_S.rf
  have hP : va_P D vwCl (w0 ci cz q F P g) s.heap := hP
  refine lv_aload_n hx hb dX0_children_0 rfl (lv_at hl 0 rfl) ?_
  refine lv_iload_n hx hb dX0_children_1 rfl (lv_at hl 1 rfl) ?_
  refine r_callR (rest := []) Fx (m_X0_needPerson l (D := D) (ci := ci) (cz := cz) (cj := cj) (q := q) (F := F) (P := P) (g := g) hF hP12 a (by omega)) (cwV 1 Fx.2.2.2.2 gX0_children_X0_needPerson rfl rfl rfl (by decide +kernel) ⟨Nat.le_of_ble_eq_true rfl, Nat.le_of_ble_eq_true rfl⟩) BW.bl (va_recv hK hP (ci := 0) (q0 := 0) rfl rfl) (BW.at hP hK hE hS) rfl hl.1 rfl (Nat.le_of_ble_eq_true rfl) dX0_children_2 ⟨Nat.zero_le _, Nat.zero_le _⟩ ?_
  refine lv_aload_n hx hb dX0_children_5 rfl (lv_at hl 0 rfl) ?_
  refine lv_iload_n hx hb dX0_children_6 rfl (lv_at hl 1 rfl) ?_
  refine r_callR (rest := []) Fx (m_X0_countChildren l (D := D) (ci := ci) (cz := cz) (cj := cj) (q := q) (F := F) (P := P) (g := g) hF hP12 a ) (cwV 1 Fx.2.2.2.2 gX0_children_X0_countChildren rfl rfl rfl (by decide +kernel) ⟨Nat.le_of_ble_eq_true rfl, Nat.le_of_ble_eq_true rfl⟩) BW.bl (va_recv hK hP (ci := 0) (q0 := 0) rfl rfl) (BW.at hP hK hE hS) rfl hl.1 rfl (Nat.le_of_ble_eq_true rfl) dX0_children_7 ⟨Nat.zero_le _, Nat.zero_le _⟩ ?_
  exact r_iret hx hb hr hlocks (rfl) dX0_children_10
set_option maxHeartbeats 4000000 in
set_option maxRecDepth 100000 in
theorem m_X0_heirs_r (l : Launch) {D : va_G} {ci cz : ClassId} {cj : ClassId × ClassId} {q : Nat → Nat} {F P : Nat} {g : Nat → Nat → Int32} (hF : F ≤ 6) (hP12 : P ≤ 12) (a : Nat) (ha0 : a < P) : Met l yX0_heirs wsX0_heirs ({ frames := 4, cells := 0, slots := 0, locals := 89 } : Room) (va_Pc [.ref (q 0), .int (nI a)] (B0 D ci cz cj q F P g)) (RQ (some (.int (nI (sCHe g P a))))) 0 0 none_ := by
  refine Met.ofR (cc := cX0_heirs) (maxL := 2) (ret := (some .int)) (by decide) rfl (Nat.le_of_ble_eq_true rfl) ?_
  intro pg en s m bl mt cd ls Fx hr hlocks hB hl
  obtain ⟨hP, hK, hE⟩ := hB
  have hl : lv_has ls 2 [(0, .ref (q 0)), (1, .int (nI a))] := hl
  have Fx : CallFix pg m cd cX0_heirs 2 s _ wsX0_heirs RX0 := Fx
  have hx := Fx.1
  have hb := Fx.2.1
  have hS : va_S (aw q 8) s.heap s.heap [] := va_S.rf
  have hP : va_P D vwCl (w0 ci cz q F P g) s.heap := hP
  refine lv_aload_n hx hb dX0_heirs_0 rfl (lv_at hl 0 rfl) ?_
  refine lv_iload_n hx hb dX0_heirs_1 rfl (lv_at hl 1 rfl) ?_
  refine r_callR (rest := []) Fx (m_X0_needPerson l (D := D) (ci := ci) (cz := cz) (cj := cj) (q := q) (F := F) (P := P) (g := g) hF hP12 a (by omega)) (cwV 1 Fx.2.2.2.2 gX0_heirs_X0_needPerson rfl rfl rfl (by decide +kernel) ⟨Nat.le_of_ble_eq_true rfl, Nat.le_of_ble_eq_true rfl⟩) BW.bl (va_recv hK hP (ci := 0) (q0 := 0) rfl rfl) (BW.at hP hK hE hS) rfl hl.1 rfl (Nat.le_of_ble_eq_true rfl) dX0_heirs_2 ⟨Nat.zero_le _, Nat.zero_le _⟩ ?_
  refine lv_aload_n hx hb dX0_heirs_5 rfl (lv_at hl 0 rfl) ?_
  refine lv_iload_n hx hb dX0_heirs_6 rfl (lv_at hl 1 rfl) ?_
  refine r_callR (rest := []) Fx (m_X0_countHeirs l (D := D) (ci := ci) (cz := cz) (cj := cj) (q := q) (F := F) (P := P) (g := g) hF hP12 a (by omega)) (cwV 1 Fx.2.2.2.2 gX0_heirs_X0_countHeirs rfl rfl rfl (by decide +kernel) ⟨Nat.le_of_ble_eq_true rfl, Nat.le_of_ble_eq_true rfl⟩) BW.bl (va_recv hK hP (ci := 0) (q0 := 0) rfl rfl) (BW.at hP hK hE hS) rfl hl.1 rfl (Nat.le_of_ble_eq_true rfl) dX0_heirs_7 ⟨Nat.zero_le _, Nat.zero_le _⟩ ?_
  exact r_iret hx hb hr hlocks (rfl) dX0_heirs_10
set_option maxHeartbeats 4000000 in
set_option maxRecDepth 100000 in
theorem m_X0_heir_r (l : Launch) {D : va_G} {ci cz : ClassId} {cj : ClassId × ClassId} {q : Nat → Nat} {F P : Nat} {g : Nat → Nat → Int32} (hF : F ≤ 6) (hP12 : P ≤ 12) (a : Nat) (x : Int32) (ha0 : a < P) (ha1 : sFH g P a x ≠ -1) : Met l yX0_heir wsX0_heir ({ frames := 3, cells := 0, slots := 0, locals := 68 } : Room) (va_Pc [.ref (q 0), .int (nI a), .int x] (B0 D ci cz cj q F P g)) (RQ (some (.int (sFH g P a x)))) 0 0 none_ := by
  refine Met.ofR (cc := cX0_heir) (maxL := 4) (ret := (some .int)) (by decide) rfl (Nat.le_of_ble_eq_true rfl) ?_
  intro pg en s m bl mt cd ls Fx hr hlocks hB hl
  obtain ⟨hP, hK, hE⟩ := hB
  have hl : lv_has ls 4 [(0, .ref (q 0)), (1, .int (nI a)), (2, .int x)] := hl
  have Fx : CallFix pg m cd cX0_heir 4 s _ wsX0_heir RX0 := Fx
  have hx := Fx.1
  have hb := Fx.2.1
  have hS : va_S (aw q 8) s.heap s.heap [] := va_S.rf
  have hP : va_P D vwCl (w0 ci cz q F P g) s.heap := hP
  refine lv_aload_n hx hb dX0_heir_0 rfl (lv_at hl 0 rfl) ?_
  refine lv_iload_n hx hb dX0_heir_1 rfl (lv_at hl 1 rfl) ?_
  refine r_callR (rest := []) Fx (m_X0_needPerson l (D := D) (ci := ci) (cz := cz) (cj := cj) (q := q) (F := F) (P := P) (g := g) hF hP12 a (by omega)) (cwV 1 Fx.2.2.2.2 gX0_heir_X0_needPerson rfl rfl rfl (by decide +kernel) ⟨Nat.le_of_ble_eq_true rfl, Nat.le_of_ble_eq_true rfl⟩) BW.bl (va_recv hK hP (ci := 0) (q0 := 0) rfl rfl) (BW.at hP hK hE hS) rfl hl.1 rfl (Nat.le_of_ble_eq_true rfl) dX0_heir_2 ⟨Nat.zero_le _, Nat.zero_le _⟩ ?_
  refine lv_aload_n hx hb dX0_heir_5 rfl (lv_at hl 0 rfl) ?_
  refine lv_iload_n hx hb dX0_heir_6 rfl (lv_at hl 1 rfl) ?_
  refine lv_iload_n hx hb dX0_heir_7 rfl (lv_at hl 2 rfl) ?_
  refine r_callR (rest := []) Fx (m_X0_findHeir l (D := D) (ci := ci) (cz := cz) (cj := cj) (q := q) (F := F) (P := P) (g := g) hF hP12 a x (by omega)) (cwV 2 Fx.2.2.2.2 gX0_heir_X0_findHeir rfl rfl rfl (by decide +kernel) ⟨Nat.le_of_ble_eq_true rfl, Nat.le_of_ble_eq_true rfl⟩) BW.bl (va_recv hK hP (ci := 0) (q0 := 0) rfl rfl) (BW.at hP hK hE hS) rfl hl.1 rfl (Nat.le_of_ble_eq_true rfl) dX0_heir_8 ⟨Nat.zero_le _, Nat.zero_le _⟩ ?_
  refine lv_istore_n (lv' := [(3, .int (sFH g P a x)), (0, .ref (q 0)), (1, .int (nI a)), (2, .int x)]) hx hb dX0_heir_11 rfl hl (by decide) rfl (fun ls hl => ?_)
  refine lv_iload_n hx hb dX0_heir_12 rfl (lv_at hl 0 rfl) ?_
  refine lv_iconst (v := -1) hx hb dX0_heir_13 (by decide) ?_
  refine lv_icmp_ne (tgt := 27) hx hb dX0_heir_14 (by decide) (fun h1 => ?_) (fun h1 => absurd h1 ha1)
  refine lv_iload_n hx hb dX0_heir_27 rfl (lv_at hl 0 rfl) ?_
  exact r_iret hx hb hr hlocks (rfl) dX0_heir_28
set_option maxHeartbeats 4000000 in
set_option maxRecDepth 100000 in
theorem m_X0_price_r (l : Launch) {D : va_G} {ci cz : ClassId} {cj : ClassId × ClassId} {q : Nat → Nat} {F P : Nat} {g : Nat → Nat → Int32} (hF : F ≤ 6) (hP12 : P ≤ 12) (a : Nat) (f : Nat) (w : Nat) (ha0 : a < P) (ha1 : f < F) (ha2 : w < 4) : Met l yX0_price wsX0_price ({ frames := 3, cells := 0, slots := 0, locals := 68 } : Room) (va_Pc [.ref (q 0), .int (nI a), .int (nI f), .int (nI w)] (B0 D ci cz cj q F P g)) (RQ (some (.int (sPri g f w a)))) 0 0 none_ := by
  refine Met.ofR (cc := cX0_price) (maxL := 4) (ret := (some .int)) (by decide) rfl (Nat.le_of_ble_eq_true rfl) ?_
  intro pg en s m bl mt cd ls Fx hr hlocks hB hl
  obtain ⟨hP, hK, hE⟩ := hB
  have hl : lv_has ls 4 [(0, .ref (q 0)), (1, .int (nI a)), (2, .int (nI f)), (3, .int (nI w))] := hl
  have Fx : CallFix pg m cd cX0_price 4 s _ wsX0_price RX0 := Fx
  have hx := Fx.1
  have hb := Fx.2.1
  have hS : va_S (aw q 8) s.heap s.heap [] := va_S.rf
  have hP : va_P D vwCl (w0 ci cz q F P g) s.heap := hP
  refine lv_aload_n hx hb dX0_price_0 rfl (lv_at hl 0 rfl) ?_
  refine lv_iload_n hx hb dX0_price_1 rfl (lv_at hl 1 rfl) ?_
  refine r_callR (rest := []) Fx (m_X0_needPerson l (D := D) (ci := ci) (cz := cz) (cj := cj) (q := q) (F := F) (P := P) (g := g) hF hP12 a (by omega)) (cwV 1 Fx.2.2.2.2 gX0_price_X0_needPerson rfl rfl rfl (by decide +kernel) ⟨Nat.le_of_ble_eq_true rfl, Nat.le_of_ble_eq_true rfl⟩) BW.bl (va_recv hK hP (ci := 0) (q0 := 0) rfl rfl) (BW.at hP hK hE hS) rfl hl.1 rfl (Nat.le_of_ble_eq_true rfl) dX0_price_2 ⟨Nat.zero_le _, Nat.zero_le _⟩ ?_
  refine lv_aload_n hx hb dX0_price_5 rfl (lv_at hl 0 rfl) ?_
  refine lv_iload_n hx hb dX0_price_6 rfl (lv_at hl 2 rfl) ?_
  refine r_callR (rest := []) Fx (m_X0_needFerry l (D := D) (ci := ci) (cz := cz) (cj := cj) (q := q) (F := F) (P := P) (g := g) hF hP12 f (by omega)) (cwV 1 Fx.2.2.2.2 gX0_price_X0_needFerry rfl rfl rfl (by decide +kernel) ⟨Nat.le_of_ble_eq_true rfl, Nat.le_of_ble_eq_true rfl⟩) BW.bl (va_recv hK hP (ci := 0) (q0 := 0) rfl rfl) (BW.at hP hK hE hS) rfl hl.1 rfl (Nat.le_of_ble_eq_true rfl) dX0_price_7 ⟨Nat.zero_le _, Nat.zero_le _⟩ ?_
  refine lv_iload_n hx hb dX0_price_10 rfl (lv_at hl 3 rfl) ?_
  refine r_callRS (rest := []) Fx (m_X0_needWatch l (D := D) (ci := ci) (cz := cz) (cj := cj) (q := q) (F := F) (P := P) (g := g) hF hP12 w (by omega)) (va_cwS 1 Fx.2.2.2.2 gX0_price_X0_needWatch rfl rfl rfl (by decide +kernel) ⟨Nat.le_of_ble_eq_true rfl, Nat.le_of_ble_eq_true rfl⟩) BW.bl (BW.at hP hK hE hS) rfl hl.1 rfl (Nat.le_of_ble_eq_true rfl) dX0_price_11 ⟨Nat.zero_le _, Nat.zero_le _⟩ ?_
  refine lv_aload_n hx hb dX0_price_14 rfl (lv_at hl 0 rfl) ?_
  refine lv_iload_n hx hb dX0_price_15 rfl (lv_at hl 1 rfl) ?_
  refine lv_iload_n hx hb dX0_price_16 rfl (lv_at hl 2 rfl) ?_
  refine lv_iload_n hx hb dX0_price_17 rfl (lv_at hl 3 rfl) ?_
  refine r_callR (rest := []) Fx (m_X0_priceOf l (D := D) (ci := ci) (cz := cz) (cj := cj) (q := q) (F := F) (P := P) (g := g) hF hP12 a f w (by omega) (by omega) (by omega)) (cwV 3 Fx.2.2.2.2 gX0_price_X0_priceOf rfl rfl rfl (by decide +kernel) ⟨Nat.le_of_ble_eq_true rfl, Nat.le_of_ble_eq_true rfl⟩) BW.bl (va_recv hK hP (ci := 0) (q0 := 0) rfl rfl) (BW.at hP hK hE hS) rfl hl.1 rfl (Nat.le_of_ble_eq_true rfl) dX0_price_18 ⟨Nat.zero_le _, Nat.zero_le _⟩ ?_
  exact r_iret hx hb hr hlocks (rfl) dX0_price_21
set_option maxHeartbeats 4000000 in
set_option maxRecDepth 100000 in
theorem m_X0_canBuy_r (l : Launch) {D : va_G} {ci cz : ClassId} {cj : ClassId × ClassId} {q : Nat → Nat} {F P : Nat} {g : Nat → Nat → Int32} (hF : F ≤ 6) (hP12 : P ≤ 12) (a : Nat) (b : Nat) (f : Nat) (w : Nat) (ha0 : a < P) (ha1 : b < P) (ha2 : f < F) (ha3 : w < 4) : Met l yX0_canBuy wsX0_canBuy ({ frames := 4, cells := 0, slots := 0, locals := 95 } : Room) (va_Pc [.ref (q 0), .int (nI a), .int (nI b), .int (nI f), .int (nI w)] (B0 D ci cz cj q F P g)) (RQ (some (.int (bI (sMay g P a b f w))))) 0 0 none_ := by
  refine Met.ofR (cc := cX0_canBuy) (maxL := 5) (ret := (some .boolean)) (by decide) rfl (Nat.le_of_ble_eq_true rfl) ?_
  intro pg en s m bl mt cd ls Fx hr hlocks hB hl
  obtain ⟨hP, hK, hE⟩ := hB
  have hl : lv_has ls 5 [(0, .ref (q 0)), (1, .int (nI a)), (2, .int (nI b)), (3, .int (nI f)), (4, .int (nI w))] := hl
  have Fx : CallFix pg m cd cX0_canBuy 5 s _ wsX0_canBuy RX0 := Fx
  have hx := Fx.1
  have hb := Fx.2.1
  have hS : va_S (aw q 8) s.heap s.heap [] := va_S.rf
  have hP : va_P D vwCl (w0 ci cz q F P g) s.heap := hP
  refine lv_aload_n hx hb dX0_canBuy_0 rfl (lv_at hl 0 rfl) ?_
  refine lv_iload_n hx hb dX0_canBuy_1 rfl (lv_at hl 1 rfl) ?_
  refine lv_iload_n hx hb dX0_canBuy_2 rfl (lv_at hl 2 rfl) ?_
  refine lv_iload_n hx hb dX0_canBuy_3 rfl (lv_at hl 3 rfl) ?_
  refine lv_iload hx hb dX0_canBuy_4 (lv_at hl 4 rfl) ?_
  refine r_callR (rest := []) Fx (m_X0_needSale l (D := D) (ci := ci) (cz := cz) (cj := cj) (q := q) (F := F) (P := P) (g := g) hF hP12 a b f w (by omega) (by omega) (by omega) (by omega)) (cwV 4 Fx.2.2.2.2 gX0_canBuy_X0_needSale rfl rfl rfl (by decide +kernel) ⟨Nat.le_of_ble_eq_true rfl, Nat.le_of_ble_eq_true rfl⟩) BW.bl (va_recv hK hP (ci := 0) (q0 := 0) rfl rfl) (BW.at hP hK hE hS) rfl hl.1 rfl (Nat.le_of_ble_eq_true rfl) dX0_canBuy_6 ⟨Nat.zero_le _, Nat.zero_le _⟩ ?_
  refine lv_aload_n hx hb dX0_canBuy_9 rfl (lv_at hl 0 rfl) ?_
  refine lv_iload_n hx hb dX0_canBuy_10 rfl (lv_at hl 1 rfl) ?_
  refine lv_iload_n hx hb dX0_canBuy_11 rfl (lv_at hl 2 rfl) ?_
  refine lv_iload_n hx hb dX0_canBuy_12 rfl (lv_at hl 3 rfl) ?_
  refine lv_iload hx hb dX0_canBuy_13 (lv_at hl 4 rfl) ?_
  refine r_callR (rest := []) Fx (m_X0_mayBuy l (D := D) (ci := ci) (cz := cz) (cj := cj) (q := q) (F := F) (P := P) (g := g) hF hP12 a b f w (by omega) (by omega) (by omega) (by omega)) (cwV 4 Fx.2.2.2.2 gX0_canBuy_X0_mayBuy rfl rfl rfl (by decide +kernel) ⟨Nat.le_of_ble_eq_true rfl, Nat.le_of_ble_eq_true rfl⟩) BW.bl (va_recv hK hP (ci := 0) (q0 := 0) rfl rfl) (BW.at hP hK hE hS) rfl hl.1 rfl (Nat.le_of_ble_eq_true rfl) dX0_canBuy_15 ⟨Nat.zero_le _, Nat.zero_le _⟩ ?_
  exact r_zret hx hb hr hlocks (rfl) dX0_canBuy_18
set_option maxHeartbeats 4000000 in
set_option maxRecDepth 100000 in
theorem m_X0_inheritance_r (l : Launch) {D : va_G} {ci cz : ClassId} {cj : ClassId × ClassId} {q : Nat → Nat} {F P : Nat} {g : Nat → Nat → Int32} (hF : F ≤ 6) (hP12 : P ≤ 12) (a : Nat) (b : Nat) (f : Nat) (w : Nat) (ha0 : a < P) (ha1 : b < P) (ha2 : f < F) (ha3 : w < 4) : Met l yX0_inheritance wsX0_inheritance ({ frames := 4, cells := 0, slots := 0, locals := 89 } : Room) (va_Pc [.ref (q 0), .int (nI a), .int (nI b), .int (nI f), .int (nI w)] (B0 D ci cz cj q F P g)) (RQ (some (.int (sInh g P a b f w)))) 0 0 none_ := by
  refine Met.ofR (cc := cX0_inheritance) (maxL := 5) (ret := (some .int)) (by decide) rfl (Nat.le_of_ble_eq_true rfl) ?_
  intro pg en s m bl mt cd ls Fx hr hlocks hB hl
  obtain ⟨hP, hK, hE⟩ := hB
  have hl : lv_has ls 5 [(0, .ref (q 0)), (1, .int (nI a)), (2, .int (nI b)), (3, .int (nI f)), (4, .int (nI w))] := hl
  have Fx : CallFix pg m cd cX0_inheritance 5 s _ wsX0_inheritance RX0 := Fx
  have hx := Fx.1
  have hb := Fx.2.1
  have hS : va_S (aw q 8) s.heap s.heap [] := va_S.rf
  have hP : va_P D vwCl (w0 ci cz q F P g) s.heap := hP
  refine lv_aload_n hx hb dX0_inheritance_0 rfl (lv_at hl 0 rfl) ?_
  refine lv_iload_n hx hb dX0_inheritance_1 rfl (lv_at hl 1 rfl) ?_
  refine r_callR (rest := []) Fx (m_X0_needPerson l (D := D) (ci := ci) (cz := cz) (cj := cj) (q := q) (F := F) (P := P) (g := g) hF hP12 a (by omega)) (cwV 1 Fx.2.2.2.2 gX0_inheritance_X0_needPerson rfl rfl rfl (by decide +kernel) ⟨Nat.le_of_ble_eq_true rfl, Nat.le_of_ble_eq_true rfl⟩) BW.bl (va_recv hK hP (ci := 0) (q0 := 0) rfl rfl) (BW.at hP hK hE hS) rfl hl.1 rfl (Nat.le_of_ble_eq_true rfl) dX0_inheritance_2 ⟨Nat.zero_le _, Nat.zero_le _⟩ ?_
  refine lv_aload_n hx hb dX0_inheritance_5 rfl (lv_at hl 0 rfl) ?_
  refine lv_iload_n hx hb dX0_inheritance_6 rfl (lv_at hl 2 rfl) ?_
  refine r_callR (rest := []) Fx (m_X0_needPerson l (D := D) (ci := ci) (cz := cz) (cj := cj) (q := q) (F := F) (P := P) (g := g) hF hP12 b (by omega)) (cwV 1 Fx.2.2.2.2 gX0_inheritance_X0_needPerson rfl rfl rfl (by decide +kernel) ⟨Nat.le_of_ble_eq_true rfl, Nat.le_of_ble_eq_true rfl⟩) BW.bl (va_recv hK hP (ci := 0) (q0 := 0) rfl rfl) (BW.at hP hK hE hS) rfl hl.1 rfl (Nat.le_of_ble_eq_true rfl) dX0_inheritance_7 ⟨Nat.zero_le _, Nat.zero_le _⟩ ?_
  refine lv_aload_n hx hb dX0_inheritance_10 rfl (lv_at hl 0 rfl) ?_
  refine lv_iload_n hx hb dX0_inheritance_11 rfl (lv_at hl 3 rfl) ?_
  refine r_callR (rest := []) Fx (m_X0_needFerry l (D := D) (ci := ci) (cz := cz) (cj := cj) (q := q) (F := F) (P := P) (g := g) hF hP12 f (by omega)) (cwV 1 Fx.2.2.2.2 gX0_inheritance_X0_needFerry rfl rfl rfl (by decide +kernel) ⟨Nat.le_of_ble_eq_true rfl, Nat.le_of_ble_eq_true rfl⟩) BW.bl (va_recv hK hP (ci := 0) (q0 := 0) rfl rfl) (BW.at hP hK hE hS) rfl hl.1 rfl (Nat.le_of_ble_eq_true rfl) dX0_inheritance_12 ⟨Nat.zero_le _, Nat.zero_le _⟩ ?_
  refine lv_iload hx hb dX0_inheritance_15 (lv_at hl 4 rfl) ?_
  refine r_callRS (rest := []) Fx (m_X0_needWatch l (D := D) (ci := ci) (cz := cz) (cj := cj) (q := q) (F := F) (P := P) (g := g) hF hP12 w (by omega)) (va_cwS 1 Fx.2.2.2.2 gX0_inheritance_X0_needWatch rfl rfl rfl (by decide +kernel) ⟨Nat.le_of_ble_eq_true rfl, Nat.le_of_ble_eq_true rfl⟩) BW.bl (BW.at hP hK hE hS) rfl hl.1 rfl (Nat.le_of_ble_eq_true rfl) dX0_inheritance_17 ⟨Nat.zero_le _, Nat.zero_le _⟩ ?_
  refine lv_aload_n hx hb dX0_inheritance_20 rfl (lv_at hl 0 rfl) ?_
  refine lv_iload_n hx hb dX0_inheritance_21 rfl (lv_at hl 2 rfl) ?_
  refine lv_iload_n hx hb dX0_inheritance_22 rfl (lv_at hl 1 rfl) ?_
  refine r_callR (rest := []) Fx (m_X0_isHeir l (D := D) (ci := ci) (cz := cz) (cj := cj) (q := q) (F := F) (P := P) (g := g) hF hP12 b a (by omega) (by omega)) (cwV 2 Fx.2.2.2.2 gX0_inheritance_X0_isHeir rfl rfl rfl (by decide +kernel) ⟨Nat.le_of_ble_eq_true rfl, Nat.le_of_ble_eq_true rfl⟩) BW.bl (va_recv hK hP (ci := 0) (q0 := 0) rfl rfl) (BW.at hP hK hE hS) rfl hl.1 rfl (Nat.le_of_ble_eq_true rfl) dX0_inheritance_23 ⟨Nat.zero_le _, Nat.zero_le _⟩ ?_
  refine b_if_ne (tgt := 31) hx hb dX0_inheritance_26 (by decide) (fun h1 => ?_) (fun h1 => ?_)
  · refine lv_aload_n hx hb dX0_inheritance_31 rfl (lv_at hl 0 rfl) ?_
    refine lv_iload_n hx hb dX0_inheritance_32 rfl (lv_at hl 3 rfl) ?_
    refine lv_iload hx hb dX0_inheritance_33 (lv_at hl 4 rfl) ?_
    refine lv_iload_n hx hb dX0_inheritance_35 rfl (lv_at hl 1 rfl) ?_
    refine r_callR (rest := []) Fx (m_X0_owns l (D := D) (ci := ci) (cz := cz) (cj := cj) (q := q) (F := F) (P := P) (g := g) hF hP12 f w a (by omega) (by omega) (by omega)) (cwV 3 Fx.2.2.2.2 gX0_inheritance_X0_owns rfl rfl rfl (by decide +kernel) ⟨Nat.le_of_ble_eq_true rfl, Nat.le_of_ble_eq_true rfl⟩) BW.bl (va_recv hK hP (ci := 0) (q0 := 0) rfl rfl) (BW.at hP hK hE hS) rfl hl.1 rfl (Nat.le_of_ble_eq_true rfl) dX0_inheritance_36 ⟨Nat.zero_le _, Nat.zero_le _⟩ ?_
    refine lv_aload_n hx hb dX0_inheritance_39 rfl (lv_at hl 0 rfl) ?_
    refine lv_iload_n hx hb dX0_inheritance_40 rfl (lv_at hl 1 rfl) ?_
    refine r_callR (rest := [.int (own g f w a)]) Fx (m_X0_countHeirs l (D := D) (ci := ci) (cz := cz) (cj := cj) (q := q) (F := F) (P := P) (g := g) hF hP12 a (by omega)) (cwV 1 Fx.2.2.2.2 gX0_inheritance_X0_countHeirs rfl rfl rfl (by decide +kernel) ⟨Nat.le_of_ble_eq_true rfl, Nat.le_of_ble_eq_true rfl⟩) BW.bl (va_recv hK hP (ci := 0) (q0 := 0) rfl rfl) (BW.at hP hK hE hS) rfl hl.1 rfl (Nat.le_of_ble_eq_true rfl) dX0_inheritance_41 ⟨Nat.zero_le _, Nat.zero_le _⟩ ?_
    refine lv_aload_n hx hb dX0_inheritance_44 rfl (lv_at hl 0 rfl) ?_
    refine lv_iload_n hx hb dX0_inheritance_45 rfl (lv_at hl 2 rfl) ?_
    refine lv_iload_n hx hb dX0_inheritance_46 rfl (lv_at hl 1 rfl) ?_
    refine r_callR (rest := [.int (nI (sCHe g P a)), .int (own g f w a)]) Fx (m_X0_countHeirsBelow l (D := D) (ci := ci) (cz := cz) (cj := cj) (q := q) (F := F) (P := P) (g := g) hF hP12 b a (by omega) (by omega)) (cwV 2 Fx.2.2.2.2 gX0_inheritance_X0_countHeirsBelow rfl rfl rfl (by decide +kernel) ⟨Nat.le_of_ble_eq_true rfl, Nat.le_of_ble_eq_true rfl⟩) BW.bl (va_recv hK hP (ci := 0) (q0 := 0) rfl rfl) (BW.at hP hK hE hS) rfl hl.1 rfl (Nat.le_of_ble_eq_true rfl) dX0_inheritance_47 ⟨Nat.zero_le _, Nat.zero_le _⟩ ?_
    refine r_callRS (rest := []) Fx (m_X0_partOf l (D := D) (ci := ci) (cz := cz) (cj := cj) (q := q) (F := F) (P := P) (g := g) hF hP12 (own g f w a) (sCHe g P a) (sCHB g P b a) (Nat.le_trans (cn_le _ _) hP12) (Nat.le_trans (cn_le _ _) (by omega))) (va_cwS 3 Fx.2.2.2.2 gX0_inheritance_X0_partOf rfl rfl rfl (by decide +kernel) ⟨Nat.le_of_ble_eq_true rfl, Nat.le_of_ble_eq_true rfl⟩) BW.bl (BW.at hP hK hE hS) rfl hl.1 rfl (Nat.le_of_ble_eq_true rfl) dX0_inheritance_50 ⟨Nat.zero_le _, Nat.zero_le _⟩ ?_
    exact r_iret hx hb hr hlocks (by simp [sInh, h1]) dX0_inheritance_53
  · refine lv_iconst (v := nI 0) hx hb dX0_inheritance_29 (by decide) ?_
    exact r_iret hx hb hr hlocks (by simp [sInh, h1]) dX0_inheritance_30
set_option maxHeartbeats 4000000 in
set_option maxRecDepth 100000 in
theorem m_X0_fare_r (l : Launch) {D : va_G} {ci cz : ClassId} {cj : ClassId × ClassId} {q : Nat → Nat} {F P : Nat} {g : Nat → Nat → Int32} (hF : F ≤ 6) (hP12 : P ≤ 12) (a : Nat) (f : Nat) (h : Nat) (x : Int32) (ha0 : a < P) (ha1 : f < F) (ha2 : h < 24) (ha3 : inB 1 200 x) : Met l yX0_fare wsX0_fare ({ frames := 3, cells := 0, slots := 0, locals := 69 } : Room) (va_Pc [.ref (q 0), .int (nI a), .int (nI f), .int (nI h), .int x] (B0 D ci cz cj q F P g)) (RQ (some (.int (sFar g f (h / 6) a x)))) 0 0 none_ := by
  refine Met.ofR (cc := cX0_fare) (maxL := 5) (ret := (some .int)) (by decide) rfl (Nat.le_of_ble_eq_true rfl) ?_
  intro pg en s m bl mt cd ls Fx hr hlocks hB hl
  obtain ⟨hP, hK, hE⟩ := hB
  have hl : lv_has ls 5 [(0, .ref (q 0)), (1, .int (nI a)), (2, .int (nI f)), (3, .int (nI h)), (4, .int x)] := hl
  have Fx : CallFix pg m cd cX0_fare 5 s _ wsX0_fare RX0 := Fx
  have hx := Fx.1
  have hb := Fx.2.1
  have hS : va_S (aw q 8) s.heap s.heap [] := va_S.rf
  have hP : va_P D vwCl (w0 ci cz q F P g) s.heap := hP
  refine lv_aload_n hx hb dX0_fare_0 rfl (lv_at hl 0 rfl) ?_
  refine lv_iload_n hx hb dX0_fare_1 rfl (lv_at hl 1 rfl) ?_
  refine r_callR (rest := []) Fx (m_X0_needPerson l (D := D) (ci := ci) (cz := cz) (cj := cj) (q := q) (F := F) (P := P) (g := g) hF hP12 a (by omega)) (cwV 1 Fx.2.2.2.2 gX0_fare_X0_needPerson rfl rfl rfl (by decide +kernel) ⟨Nat.le_of_ble_eq_true rfl, Nat.le_of_ble_eq_true rfl⟩) BW.bl (va_recv hK hP (ci := 0) (q0 := 0) rfl rfl) (BW.at hP hK hE hS) rfl hl.1 rfl (Nat.le_of_ble_eq_true rfl) dX0_fare_2 ⟨Nat.zero_le _, Nat.zero_le _⟩ ?_
  refine lv_aload_n hx hb dX0_fare_5 rfl (lv_at hl 0 rfl) ?_
  refine lv_iload_n hx hb dX0_fare_6 rfl (lv_at hl 2 rfl) ?_
  refine r_callR (rest := []) Fx (m_X0_needFerry l (D := D) (ci := ci) (cz := cz) (cj := cj) (q := q) (F := F) (P := P) (g := g) hF hP12 f (by omega)) (cwV 1 Fx.2.2.2.2 gX0_fare_X0_needFerry rfl rfl rfl (by decide +kernel) ⟨Nat.le_of_ble_eq_true rfl, Nat.le_of_ble_eq_true rfl⟩) BW.bl (va_recv hK hP (ci := 0) (q0 := 0) rfl rfl) (BW.at hP hK hE hS) rfl hl.1 rfl (Nat.le_of_ble_eq_true rfl) dX0_fare_7 ⟨Nat.zero_le _, Nat.zero_le _⟩ ?_
  refine lv_iload_n hx hb dX0_fare_10 rfl (lv_at hl 3 rfl) ?_
  refine r_callRS (rest := []) Fx (m_X0_needHour l (D := D) (ci := ci) (cz := cz) (cj := cj) (q := q) (F := F) (P := P) (g := g) hF hP12 h (by omega)) (va_cwS 1 Fx.2.2.2.2 gX0_fare_X0_needHour rfl rfl rfl (by decide +kernel) ⟨Nat.le_of_ble_eq_true rfl, Nat.le_of_ble_eq_true rfl⟩) BW.bl (BW.at hP hK hE hS) rfl hl.1 rfl (Nat.le_of_ble_eq_true rfl) dX0_fare_11 ⟨Nat.zero_le _, Nat.zero_le _⟩ ?_
  refine lv_iload hx hb dX0_fare_14 (lv_at hl 4 rfl) ?_
  refine r_callRS (rest := []) Fx (m_X0_needPassengers l (D := D) (ci := ci) (cz := cz) (cj := cj) (q := q) (F := F) (P := P) (g := g) hF hP12 x ha3) (va_cwS 1 Fx.2.2.2.2 gX0_fare_X0_needPassengers rfl rfl rfl (by decide +kernel) ⟨Nat.le_of_ble_eq_true rfl, Nat.le_of_ble_eq_true rfl⟩) BW.bl (BW.at hP hK hE hS) rfl hl.1 rfl (Nat.le_of_ble_eq_true rfl) dX0_fare_16 ⟨Nat.zero_le _, Nat.zero_le _⟩ ?_
  refine lv_aload_n hx hb dX0_fare_19 rfl (lv_at hl 0 rfl) ?_
  refine lv_iload_n hx hb dX0_fare_20 rfl (lv_at hl 1 rfl) ?_
  refine lv_iload_n hx hb dX0_fare_21 rfl (lv_at hl 2 rfl) ?_
  refine lv_iload_n hx hb dX0_fare_22 rfl (lv_at hl 3 rfl) ?_
  refine lv_bipush (v := nI 6) hx hb dX0_fare_23 (by decide) ?_
  refine r_idiv_n hx hb (by omega) (by omega) (by omega) dX0_fare_25 ?_
  refine lv_iload hx hb dX0_fare_26 (lv_at hl 4 rfl) ?_
  refine r_callR (rest := []) Fx (m_X0_fareOf l (D := D) (ci := ci) (cz := cz) (cj := cj) (q := q) (F := F) (P := P) (g := g) hF hP12 a f (h / 6) x (by omega) (by omega) (by omega)) (cwV 4 Fx.2.2.2.2 gX0_fare_X0_fareOf rfl rfl rfl (by decide +kernel) ⟨Nat.le_of_ble_eq_true rfl, Nat.le_of_ble_eq_true rfl⟩) BW.bl (va_recv hK hP (ci := 0) (q0 := 0) rfl rfl) (BW.at hP hK hE hS) rfl hl.1 rfl (Nat.le_of_ble_eq_true rfl) dX0_fare_28 ⟨Nat.zero_le _, Nat.zero_le _⟩ ?_
  exact r_iret hx hb hr hlocks (rfl) dX0_fare_31
set_option maxHeartbeats 4000000 in
set_option maxRecDepth 100000 in
theorem m_X0_richest_r (l : Launch) {D : va_G} {ci cz : ClassId} {cj : ClassId × ClassId} {q : Nat → Nat} {F P : Nat} {g : Nat → Nat → Int32} (hF : F ≤ 6) (hP12 : P ≤ 12) (ha0 : sRic g P ≠ -1) : Met l yX0_richest wsX0_richest ({ frames := 0, cells := 0, slots := 0, locals := 0 } : Room) (va_Pc [.ref (q 0)] (B0 D ci cz cj q F P g)) (RQ (some (.int (sRic g P)))) 0 0 none_ := by
  refine Met.ofR (cc := cX0_richest) (maxL := 4) (ret := (some .int)) (by decide) rfl (Nat.le_of_ble_eq_true rfl) ?_
  intro pg en s m bl mt cd ls Fx hr hlocks hB hl
  obtain ⟨hP, hK, hE⟩ := hB
  have hl : lv_has ls 4 [(0, .ref (q 0))] := hl
  have Fx : CallFix pg m cd cX0_richest 4 s _ wsX0_richest RX0 := Fx
  have hx := Fx.1
  have hb := Fx.2.1
  have hin : ∀ w ∈ wsX00, w ∈ wsX0_richest := by decide +kernel
  have hS : va_S (aw q 8) s.heap s.heap [] := va_S.rf
  have hP : va_P D vwCl (w0 ci cz q F P g) s.heap := hP
  refine lv_iconst (v := -1) hx hb dX0_richest_0 (by decide) ?_
  refine lv_istore_n (lv' := [(1, .int (-1)), (0, .ref (q 0))]) hx hb dX0_richest_1 rfl hl (by decide) rfl (fun ls hl => ?_)
  refine lv_iconst (v := -1) hx hb dX0_richest_2 (by decide) ?_
  refine lv_istore_n (lv' := [(2, .int (-1)), (1, .int (-1)), (0, .ref (q 0))]) hx hb dX0_richest_3 rfl hl (by decide) rfl (fun ls hl => ?_)
  refine lv_iconst (v := nI 0) hx hb dX0_richest_4 (by decide) ?_
  refine lv_istore_n (lv' := [(3, .int (nI 0)), (2, .int (-1)), (1, .int (-1)), (0, .ref (q 0))]) hx hb dX0_richest_5 rfl hl (by decide) rfl (fun ls hl => ?_)
  refine rloop (nL := 4) (N := P) (fun _ => True) (fun i => [(0, .ref (q 0)), (1, .int ((ri (fun z => lv g z) (fun z => g 4 z) i).1)), (2, .int ((ri (fun z => lv g z) (fun z => g 4 z) i).2)), (3, .int (nI i))]) (trivial) (lv_sub hl [3, 2, 1, 0] rfl) ?_ ?_
  · intro h1 ls hl
    have hl : lv_has ls 4 [(0, .ref (q 0)), (1, .int ((ri (fun z => lv g z) (fun z => g 4 z) P).1)), (2, .int ((ri (fun z => lv g z) (fun z => g 4 z) P).2)), (3, .int (nI P))] := hl
    refine lv_iload_n hx hb dX0_richest_6 rfl (lv_at hl 3 rfl) ?_
    refine lv_aload_n hx hb dX0_richest_7 rfl (lv_at hl 0 rfl) ?_
    refine r_get Fx hin hK hP 0 rfl 4 (by decide) (by decide +kernel) rfl rfl dX0_richest_8 ?_
    refine n_icmp_ge (tgt := 48) hx hb (by omega) (by omega) dX0_richest_11 (by decide) (fun h2 => ?_) (fun h2 => by omega)
    refine lv_iload_n hx hb dX0_richest_48 rfl (lv_at hl 1 rfl) ?_
    refine lv_iconst (v := -1) hx hb dX0_richest_49 (by decide) ?_
    refine lv_icmp_ne (tgt := 63) hx hb dX0_richest_50 (by decide) (fun h3 => ?_) (fun h3 => absurd h3 ha0)
    refine lv_iload_n hx hb dX0_richest_63 rfl (lv_at hl 1 rfl) ?_
    exact r_iret hx hb hr hlocks (rfl) dX0_richest_64
  · intro i h5 h4 ih6 ls hl
    have hl : lv_has ls 4 [(0, .ref (q 0)), (1, .int ((ri (fun z => lv g z) (fun z => g 4 z) i).1)), (2, .int ((ri (fun z => lv g z) (fun z => g 4 z) i).2)), (3, .int (nI i))] := hl
    refine lv_iload_n hx hb dX0_richest_6 rfl (lv_at hl 3 rfl) ?_
    refine lv_aload_n hx hb dX0_richest_7 rfl (lv_at hl 0 rfl) ?_
    refine r_get Fx hin hK hP 0 rfl 4 (by decide) (by decide +kernel) rfl rfl dX0_richest_8 ?_
    refine n_icmp_ge (tgt := 48) hx hb (by omega) (by omega) dX0_richest_11 (by decide) (fun h6 => by omega) (fun h6 => ?_)
    refine lv_aload_n hx hb dX0_richest_14 rfl (lv_at hl 0 rfl) ?_
    refine r_get Fx hin hK hP 0 rfl 5 (by decide) (by decide +kernel) rfl rfl dX0_richest_15 ?_
    refine lv_iload_n hx hb dX0_richest_18 rfl (lv_at hl 3 rfl) ?_
    refine r_alive Fx hK hP (i := i) (by omega) (by omega) dX0_richest_19 ?_
    refine b_if_eq (tgt := 42) hx hb dX0_richest_20 (by decide) (fun h7 => ?_) (fun h7 => ?_)
    · refine lv_iinc (v := nI (i + 1)) (lv' := [(3, .int (nI (i + 1))), (0, .ref (q 0)), (1, .int ((ri (fun z => lv g z) (fun z => g 4 z) i).1)), (2, .int ((ri (fun z => lv g z) (fun z => g 4 z) i).2))]) hx hb dX0_richest_42 hl (k := 3) rfl (nI_inc _ 1) (by decide) rfl (fun ls hl => ?_)
      refine lv_goto (tgt := 6) hx hb dX0_richest_45 (by decide) ?_
      have e1_ : (ri (fun z => lv g z) (fun z => g 4 z) i).1 = (ri (fun z => lv g z) (fun z => g 4 z) (i + 1)).1 := by simp [ri, h5, h6, h7]
      rw [e1_] at hl
      have e2_ : (ri (fun z => lv g z) (fun z => g 4 z) i).2 = (ri (fun z => lv g z) (fun z => g 4 z) (i + 1)).2 := by simp [ri, h5, h6, h7]
      rw [e2_] at hl
      exact ih6 (trivial) _ (lv_sub hl [1, 2, 3, 0] rfl)
    · refine lv_aload_n hx hb dX0_richest_23 rfl (lv_at hl 0 rfl) ?_
      refine r_get Fx hin hK hP 0 rfl 6 (by decide) (by decide +kernel) rfl rfl dX0_richest_24 ?_
      refine lv_iload_n hx hb dX0_richest_27 rfl (lv_at hl 3 rfl) ?_
      refine r_iald Fx hK hP 5 0 rfl rfl (i := i) (by omega) (by decide) dX0_richest_28 ?_
      refine lv_iload_n hx hb dX0_richest_29 rfl (lv_at hl 2 rfl) ?_
      refine lv_icmp_le (tgt := 42) hx hb dX0_richest_30 (by decide) (fun h8 => ?_) (fun h8 => ?_)
      · refine lv_iinc (v := nI (i + 1)) (lv' := [(3, .int (nI (i + 1))), (0, .ref (q 0)), (1, .int ((ri (fun z => lv g z) (fun z => g 4 z) i).1)), (2, .int ((ri (fun z => lv g z) (fun z => g 4 z) i).2))]) hx hb dX0_richest_42 hl (k := 3) rfl (nI_inc _ 1) (by decide) rfl (fun ls hl => ?_)
        refine lv_goto (tgt := 6) hx hb dX0_richest_45 (by decide) ?_
        have e1_ : (ri (fun z => lv g z) (fun z => g 4 z) i).1 = (ri (fun z => lv g z) (fun z => g 4 z) (i + 1)).1 := by simp [ri, h5, h6, h7, h8, Int32.not_lt.mpr h8]
        rw [e1_] at hl
        have e2_ : (ri (fun z => lv g z) (fun z => g 4 z) i).2 = (ri (fun z => lv g z) (fun z => g 4 z) (i + 1)).2 := by simp [ri, h5, h6, h7, h8, Int32.not_lt.mpr h8]
        rw [e2_] at hl
        exact ih6 (trivial) _ (lv_sub hl [1, 2, 3, 0] rfl)
      · have h8 := Int32.not_le.mp h8
        refine lv_iload_n hx hb dX0_richest_33 rfl (lv_at hl 3 rfl) ?_
        refine lv_istore_n (lv' := [(1, .int (nI i)), (0, .ref (q 0)), (2, .int ((ri (fun z => lv g z) (fun z => g 4 z) i).2)), (3, .int (nI i))]) hx hb dX0_richest_34 rfl hl (by decide) rfl (fun ls hl => ?_)
        refine lv_aload_n hx hb dX0_richest_35 rfl (lv_at hl 1 rfl) ?_
        refine r_get Fx hin hK hP 0 rfl 6 (by decide) (by decide +kernel) rfl rfl dX0_richest_36 ?_
        refine lv_iload_n hx hb dX0_richest_39 rfl (lv_at hl 3 rfl) ?_
        refine r_iald Fx hK hP 5 0 rfl rfl (i := i) (by omega) (by decide) dX0_richest_40 ?_
        refine lv_istore_n (lv' := [(2, .int (g 4 i)), (1, .int (nI i)), (0, .ref (q 0)), (3, .int (nI i))]) hx hb dX0_richest_41 rfl hl (by decide) rfl (fun ls hl => ?_)
        refine lv_iinc (v := nI (i + 1)) (lv' := [(3, .int (nI (i + 1))), (2, .int (g 4 i)), (1, .int (nI i)), (0, .ref (q 0))]) hx hb dX0_richest_42 hl (k := 3) rfl (nI_inc _ 1) (by decide) rfl (fun ls hl => ?_)
        refine lv_goto (tgt := 6) hx hb dX0_richest_45 (by decide) ?_
        have e1_ : nI i = (ri (fun z => lv g z) (fun z => g 4 z) (i + 1)).1 := by simp [ri, h5, h6, h7, h8, Int32.not_le.mpr h8]
        rw [e1_] at hl
        have e2_ : g 4 i = (ri (fun z => lv g z) (fun z => g 4 z) (i + 1)).2 := by simp [ri, h5, h6, h7, h8, Int32.not_le.mpr h8]
        rw [e2_] at hl
        exact ih6 (trivial) _ (lv_sub hl [3, 2, 1, 0] rfl)
