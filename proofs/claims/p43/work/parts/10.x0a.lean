/-! FerryRights, I -/
set_option maxHeartbeats 4000000 in
set_option maxRecDepth 100000 in
theorem m_X0_slot (l : Launch) {D : va_G} {ci cz : ClassId} {cj : ClassId × ClassId} {q : Nat → Nat} {F P : Nat} {g : Nat → Nat → Int32} (hF : F ≤ 6) (hP12 : P ≤ 12) (f : Nat) (w : Nat) (k : Nat) : Met l yX0_slot wsX0_slot ({ frames := 0, cells := 0, slots := 0, locals := 0 } : Room) (va_Pc [.int (nI f), .int (nI w), .int (nI k)] (B0 D ci cz cj q F P g)) (RQ (some (.int (nI (sl f w k))))) 0 0 none_ := by
  refine Met.ofR (cc := cX0_slot) (maxL := 3) (ret := (some .int)) (by decide) rfl (Nat.le_of_ble_eq_true rfl) ?_
  intro pg en s m bl mt cd ls Fx hr hlocks hB hl
  obtain ⟨hP, hK, hE⟩ := hB
  have hl : lv_has ls 3 [(0, .int (nI f)), (1, .int (nI w)), (2, .int (nI k))] := hl
  have Fx : CallFix pg m cd cX0_slot 3 s _ wsX0_slot RX0 := Fx
  have hx := Fx.1
  have hb := Fx.2.1
  have hS : va_S (aw q 8) s.heap s.heap [] := va_S.rf
  have hP : va_P D vwCl (w0 ci cz q F P g) s.heap := hP
  refine lv_iload_n hx hb dX0_slot_0 rfl (lv_at hl 0 rfl) ?_
  refine lv_iconst (v := nI 4) hx hb dX0_slot_1 (by decide) ?_
  refine r_imul_n hx hb dX0_slot_2 ?_
  refine lv_iload_n hx hb dX0_slot_3 rfl (lv_at hl 1 rfl) ?_
  refine r_iadd_n hx hb dX0_slot_4 ?_
  refine lv_bipush (v := nI 12) hx hb dX0_slot_5 (by decide) ?_
  refine r_imul_n hx hb dX0_slot_7 ?_
  refine lv_iload_n hx hb dX0_slot_8 rfl (lv_at hl 2 rfl) ?_
  refine r_iadd_n hx hb dX0_slot_9 ?_
  exact r_iret hx hb hr hlocks (rfl) dX0_slot_10
set_option maxHeartbeats 4000000 in
set_option maxRecDepth 100000 in
theorem m_X0_owns (l : Launch) {D : va_G} {ci cz : ClassId} {cj : ClassId × ClassId} {q : Nat → Nat} {F P : Nat} {g : Nat → Nat → Int32} (hF : F ≤ 6) (hP12 : P ≤ 12) (f : Nat) (w : Nat) (k : Nat) (ha0 : f < 6) (ha1 : w < 4) (ha2 : k < 12) : Met l yX0_owns wsX0_owns ({ frames := 1, cells := 0, slots := 0, locals := 22 } : Room) (va_Pc [.ref (q 0), .int (nI f), .int (nI w), .int (nI k)] (B0 D ci cz cj q F P g)) (RQ (some (.int (own g f w k)))) 0 0 none_ := by
  refine Met.ofR (cc := cX0_owns) (maxL := 4) (ret := (some .int)) (by decide) rfl (Nat.le_of_ble_eq_true rfl) ?_
  intro pg en s m bl mt cd ls Fx hr hlocks hB hl
  obtain ⟨hP, hK, hE⟩ := hB
  have hl : lv_has ls 4 [(0, .ref (q 0)), (1, .int (nI f)), (2, .int (nI w)), (3, .int (nI k))] := hl
  have Fx : CallFix pg m cd cX0_owns 4 s _ wsX0_owns RX0 := Fx
  have hx := Fx.1
  have hb := Fx.2.1
  have hin : ∀ w ∈ wsX00, w ∈ wsX0_owns := by decide +kernel
  have hS : va_S (aw q 8) s.heap s.heap [] := va_S.rf
  have hP : va_P D vwCl (w0 ci cz q F P g) s.heap := hP
  refine lv_aload_n hx hb dX0_owns_0 rfl (lv_at hl 0 rfl) ?_
  refine r_get Fx hin hK hP 0 rfl 3 (by decide) (by decide +kernel) rfl rfl dX0_owns_1 ?_
  refine lv_iload_n hx hb dX0_owns_4 rfl (lv_at hl 1 rfl) ?_
  refine lv_iload_n hx hb dX0_owns_5 rfl (lv_at hl 2 rfl) ?_
  refine lv_iload_n hx hb dX0_owns_6 rfl (lv_at hl 3 rfl) ?_
  refine r_callRS (rest := [.ref (q 3)]) Fx (m_X0_slot l (D := D) (ci := ci) (cz := cz) (cj := cj) (q := q) (F := F) (P := P) (g := g) hF hP12 f w k ) (va_cwS 3 Fx.2.2.2.2 gX0_owns_X0_slot rfl rfl rfl (by decide +kernel) ⟨Nat.le_of_ble_eq_true rfl, Nat.le_of_ble_eq_true rfl⟩) BW.bl (BW.at hP hK hE hS) rfl hl.1 rfl (Nat.le_of_ble_eq_true rfl) dX0_owns_7 ⟨Nat.zero_le _, Nat.zero_le _⟩ ?_
  refine r_iald Fx hK hP 3 0 rfl rfl (i := sl f w k) (sl_lt (by omega) (by omega) (by omega)) (by decide) dX0_owns_10 ?_
  exact r_iret hx hb hr hlocks (rfl) dX0_owns_11
set_option maxHeartbeats 4000000 in
set_option maxRecDepth 100000 in
theorem m_X0_crownOwns (l : Launch) {D : va_G} {ci cz : ClassId} {cj : ClassId × ClassId} {q : Nat → Nat} {F P : Nat} {g : Nat → Nat → Int32} (hF : F ≤ 6) (hP12 : P ≤ 12) (f : Nat) (w : Nat) (ha0 : f < 6) (ha1 : w < 4) : Met l yX0_crownOwns wsX0_crownOwns ({ frames := 2, cells := 0, slots := 0, locals := 45 } : Room) (va_Pc [.ref (q 0), .int (nI f), .int (nI w)] (B0 D ci cz cj q F P g)) (RQ (some (.int (sCro g P f w)))) 0 0 none_ := by
  refine Met.ofR (cc := cX0_crownOwns) (maxL := 5) (ret := (some .int)) (by decide) rfl (Nat.le_of_ble_eq_true rfl) ?_
  intro pg en s m bl mt cd ls Fx hr hlocks hB hl
  obtain ⟨hP, hK, hE⟩ := hB
  have hl : lv_has ls 5 [(0, .ref (q 0)), (1, .int (nI f)), (2, .int (nI w))] := hl
  have Fx : CallFix pg m cd cX0_crownOwns 5 s _ wsX0_crownOwns RX0 := Fx
  have hx := Fx.1
  have hb := Fx.2.1
  have hin : ∀ w ∈ wsX00, w ∈ wsX0_crownOwns := by decide +kernel
  have hS : va_S (aw q 8) s.heap s.heap [] := va_S.rf
  have hP : va_P D vwCl (w0 ci cz q F P g) s.heap := hP
  refine lv_bipush (v := nI 64) hx hb dX0_crownOwns_0 (by decide) ?_
  refine lv_istore_n (lv' := [(3, .int (nI 64)), (0, .ref (q 0)), (1, .int (nI f)), (2, .int (nI w))]) hx hb dX0_crownOwns_2 rfl hl (by decide) rfl (fun ls hl => ?_)
  refine lv_iconst (v := nI 0) hx hb dX0_crownOwns_3 (by decide) ?_
  refine lv_istore (lv' := [(4, .int (nI 0)), (3, .int (nI 64)), (0, .ref (q 0)), (1, .int (nI f)), (2, .int (nI w))]) hx hb dX0_crownOwns_4 hl (by decide) rfl (fun ls hl => ?_)
  refine rloop (nL := 5) (N := P) (fun _ => True) (fun i => [(0, .ref (q 0)), (1, .int (nI f)), (2, .int (nI w)), (3, .int (sd (nI 64) (fun z => own g f w z) i)), (4, .int (nI i))]) (trivial) (lv_sub hl [2, 3, 4, 1, 0] rfl) ?_ ?_
  · intro h1 ls hl
    have hl : lv_has ls 5 [(0, .ref (q 0)), (1, .int (nI f)), (2, .int (nI w)), (3, .int (sd (nI 64) (fun z => own g f w z) P)), (4, .int (nI P))] := hl
    refine lv_iload hx hb dX0_crownOwns_6 (lv_at hl 4 rfl) ?_
    refine lv_aload_n hx hb dX0_crownOwns_8 rfl (lv_at hl 0 rfl) ?_
    refine r_get Fx hin hK hP 0 rfl 4 (by decide) (by decide +kernel) rfl rfl dX0_crownOwns_9 ?_
    refine n_icmp_ge (tgt := 32) hx hb (by omega) (by omega) dX0_crownOwns_12 (by decide) (fun h2 => ?_) (fun h2 => by omega)
    refine lv_iload_n hx hb dX0_crownOwns_32 rfl (lv_at hl 3 rfl) ?_
    exact r_iret hx hb hr hlocks (rfl) dX0_crownOwns_33
  · intro i h4 h3 ih6 ls hl
    have hl : lv_has ls 5 [(0, .ref (q 0)), (1, .int (nI f)), (2, .int (nI w)), (3, .int (sd (nI 64) (fun z => own g f w z) i)), (4, .int (nI i))] := hl
    refine lv_iload hx hb dX0_crownOwns_6 (lv_at hl 4 rfl) ?_
    refine lv_aload_n hx hb dX0_crownOwns_8 rfl (lv_at hl 0 rfl) ?_
    refine r_get Fx hin hK hP 0 rfl 4 (by decide) (by decide +kernel) rfl rfl dX0_crownOwns_9 ?_
    refine n_icmp_ge (tgt := 32) hx hb (by omega) (by omega) dX0_crownOwns_12 (by decide) (fun h5 => by omega) (fun h5 => ?_)
    refine lv_iload_n hx hb dX0_crownOwns_15 rfl (lv_at hl 3 rfl) ?_
    refine lv_aload_n hx hb dX0_crownOwns_16 rfl (lv_at hl 0 rfl) ?_
    refine lv_iload_n hx hb dX0_crownOwns_17 rfl (lv_at hl 1 rfl) ?_
    refine lv_iload_n hx hb dX0_crownOwns_18 rfl (lv_at hl 2 rfl) ?_
    refine lv_iload hx hb dX0_crownOwns_19 (lv_at hl 4 rfl) ?_
    refine r_callR (rest := [.int (sd (nI 64) (fun z => own g f w z) i)]) Fx (m_X0_owns l (D := D) (ci := ci) (cz := cz) (cj := cj) (q := q) (F := F) (P := P) (g := g) hF hP12 f w i (by omega) (by omega) (by omega)) (cwV 3 Fx.2.2.2.2 gX0_crownOwns_X0_owns rfl rfl rfl (by decide +kernel) ⟨Nat.le_of_ble_eq_true rfl, Nat.le_of_ble_eq_true rfl⟩) BW.bl (va_recv hK hP (ci := 0) (q0 := 0) rfl rfl) (BW.at hP hK hE hS) rfl hl.1 rfl (Nat.le_of_ble_eq_true rfl) dX0_crownOwns_21 ⟨Nat.zero_le _, Nat.zero_le _⟩ ?_
    refine lv_isub hx hb dX0_crownOwns_24 ?_
    refine lv_istore_n (lv' := [(3, .int ((sd (nI 64) (fun z => own g f w z) i) - (own g f w i))), (0, .ref (q 0)), (1, .int (nI f)), (2, .int (nI w)), (4, .int (nI i))]) hx hb dX0_crownOwns_25 rfl hl (by decide) rfl (fun ls hl => ?_)
    refine lv_iinc (v := nI (i + 1)) (lv' := [(4, .int (nI (i + 1))), (3, .int ((sd (nI 64) (fun z => own g f w z) i) - (own g f w i))), (0, .ref (q 0)), (1, .int (nI f)), (2, .int (nI w))]) hx hb dX0_crownOwns_26 hl (k := 4) rfl (nI_inc _ 1) (by decide) rfl (fun ls hl => ?_)
    refine lv_goto (tgt := 6) hx hb dX0_crownOwns_29 (by decide) ?_
    exact ih6 (trivial) _ (lv_sub hl [2, 3, 4, 1, 0] rfl)
set_option maxHeartbeats 4000000 in
set_option maxRecDepth 100000 in
theorem m_X0_countSharesOfFerry (l : Launch) {D : va_G} {ci cz : ClassId} {cj : ClassId × ClassId} {q : Nat → Nat} {F P : Nat} {g : Nat → Nat → Int32} (hF : F ≤ 6) (hP12 : P ≤ 12) (f : Nat) (k : Nat) (ha0 : f < 6) (ha1 : k < 12) : Met l yX0_countSharesOfFerry wsX0_countSharesOfFerry ({ frames := 2, cells := 0, slots := 0, locals := 45 } : Room) (va_Pc [.ref (q 0), .int (nI f), .int (nI k)] (B0 D ci cz cj q F P g)) (RQ (some (.int (sFer g f k)))) 0 0 none_ := by
  refine Met.ofR (cc := cX0_countSharesOfFerry) (maxL := 5) (ret := (some .int)) (by decide) rfl (Nat.le_of_ble_eq_true rfl) ?_
  intro pg en s m bl mt cd ls Fx hr hlocks hB hl
  obtain ⟨hP, hK, hE⟩ := hB
  have hl : lv_has ls 5 [(0, .ref (q 0)), (1, .int (nI f)), (2, .int (nI k))] := hl
  have Fx : CallFix pg m cd cX0_countSharesOfFerry 5 s _ wsX0_countSharesOfFerry RX0 := Fx
  have hx := Fx.1
  have hb := Fx.2.1
  have hS : va_S (aw q 8) s.heap s.heap [] := va_S.rf
  have hP : va_P D vwCl (w0 ci cz q F P g) s.heap := hP
  refine lv_iconst (v := nI 0) hx hb dX0_countSharesOfFerry_0 (by decide) ?_
  refine lv_istore_n (lv' := [(3, .int (nI 0)), (0, .ref (q 0)), (1, .int (nI f)), (2, .int (nI k))]) hx hb dX0_countSharesOfFerry_1 rfl hl (by decide) rfl (fun ls hl => ?_)
  refine lv_iconst (v := nI 0) hx hb dX0_countSharesOfFerry_2 (by decide) ?_
  refine lv_istore (lv' := [(4, .int (nI 0)), (3, .int (nI 0)), (0, .ref (q 0)), (1, .int (nI f)), (2, .int (nI k))]) hx hb dX0_countSharesOfFerry_3 hl (by decide) rfl (fun ls hl => ?_)
  refine rloop (nL := 5) (N := 4) (fun _ => True) (fun i => [(0, .ref (q 0)), (1, .int (nI f)), (2, .int (nI k)), (3, .int (sm (fun z => own g f z k) i)), (4, .int (nI i))]) (trivial) (lv_sub hl [2, 3, 4, 1, 0] rfl) ?_ ?_
  · intro h1 ls hl
    have hl : lv_has ls 5 [(0, .ref (q 0)), (1, .int (nI f)), (2, .int (nI k)), (3, .int (sm (fun z => own g f z k) 4)), (4, .int (nI 4))] := hl
    refine lv_iload hx hb dX0_countSharesOfFerry_5 (lv_at hl 4 rfl) ?_
    refine lv_iconst (v := nI 4) hx hb dX0_countSharesOfFerry_7 (by decide) ?_
    refine n_icmp_ge (tgt := 28) hx hb (by omega) (by omega) dX0_countSharesOfFerry_8 (by decide) (fun h2 => ?_) (fun h2 => by omega)
    refine lv_iload_n hx hb dX0_countSharesOfFerry_28 rfl (lv_at hl 3 rfl) ?_
    exact r_iret hx hb hr hlocks (rfl) dX0_countSharesOfFerry_29
  · intro i h4 h3 ih5 ls hl
    have hl : lv_has ls 5 [(0, .ref (q 0)), (1, .int (nI f)), (2, .int (nI k)), (3, .int (sm (fun z => own g f z k) i)), (4, .int (nI i))] := hl
    refine lv_iload hx hb dX0_countSharesOfFerry_5 (lv_at hl 4 rfl) ?_
    refine lv_iconst (v := nI 4) hx hb dX0_countSharesOfFerry_7 (by decide) ?_
    refine n_icmp_ge (tgt := 28) hx hb (by omega) (by omega) dX0_countSharesOfFerry_8 (by decide) (fun h5 => by omega) (fun h5 => ?_)
    refine lv_iload_n hx hb dX0_countSharesOfFerry_11 rfl (lv_at hl 3 rfl) ?_
    refine lv_aload_n hx hb dX0_countSharesOfFerry_12 rfl (lv_at hl 0 rfl) ?_
    refine lv_iload_n hx hb dX0_countSharesOfFerry_13 rfl (lv_at hl 1 rfl) ?_
    refine lv_iload hx hb dX0_countSharesOfFerry_14 (lv_at hl 4 rfl) ?_
    refine lv_iload_n hx hb dX0_countSharesOfFerry_16 rfl (lv_at hl 2 rfl) ?_
    refine r_callR (rest := [.int (sm (fun z => own g f z k) i)]) Fx (m_X0_owns l (D := D) (ci := ci) (cz := cz) (cj := cj) (q := q) (F := F) (P := P) (g := g) hF hP12 f i k (by omega) (by omega) (by omega)) (cwV 3 Fx.2.2.2.2 gX0_countSharesOfFerry_X0_owns rfl rfl rfl (by decide +kernel) ⟨Nat.le_of_ble_eq_true rfl, Nat.le_of_ble_eq_true rfl⟩) BW.bl (va_recv hK hP (ci := 0) (q0 := 0) rfl rfl) (BW.at hP hK hE hS) rfl hl.1 rfl (Nat.le_of_ble_eq_true rfl) dX0_countSharesOfFerry_17 ⟨Nat.zero_le _, Nat.zero_le _⟩ ?_
    refine lv_iadd hx hb dX0_countSharesOfFerry_20 ?_
    refine lv_istore_n (lv' := [(3, .int ((sm (fun z => own g f z k) i) + (own g f i k))), (0, .ref (q 0)), (1, .int (nI f)), (2, .int (nI k)), (4, .int (nI i))]) hx hb dX0_countSharesOfFerry_21 rfl hl (by decide) rfl (fun ls hl => ?_)
    refine lv_iinc (v := nI (i + 1)) (lv' := [(4, .int (nI (i + 1))), (3, .int ((sm (fun z => own g f z k) i) + (own g f i k))), (0, .ref (q 0)), (1, .int (nI f)), (2, .int (nI k))]) hx hb dX0_countSharesOfFerry_22 hl (k := 4) rfl (nI_inc _ 1) (by decide) rfl (fun ls hl => ?_)
    refine lv_goto (tgt := 5) hx hb dX0_countSharesOfFerry_25 (by decide) ?_
    exact ih5 (trivial) _ (lv_sub hl [2, 3, 4, 1, 0] rfl)
set_option maxHeartbeats 4000000 in
set_option maxRecDepth 100000 in
theorem m_X0_countAllShares (l : Launch) {D : va_G} {ci cz : ClassId} {cj : ClassId × ClassId} {q : Nat → Nat} {F P : Nat} {g : Nat → Nat → Int32} (hF : F ≤ 6) (hP12 : P ≤ 12) (k : Nat) (ha0 : k < 12) : Met l yX0_countAllShares wsX0_countAllShares ({ frames := 3, cells := 0, slots := 0, locals := 69 } : Room) (va_Pc [.ref (q 0), .int (nI k)] (B0 D ci cz cj q F P g)) (RQ (some (.int (sAll g F k)))) 0 0 none_ := by
  refine Met.ofR (cc := cX0_countAllShares) (maxL := 4) (ret := (some .int)) (by decide) rfl (Nat.le_of_ble_eq_true rfl) ?_
  intro pg en s m bl mt cd ls Fx hr hlocks hB hl
  obtain ⟨hP, hK, hE⟩ := hB
  have hl : lv_has ls 4 [(0, .ref (q 0)), (1, .int (nI k))] := hl
  have Fx : CallFix pg m cd cX0_countAllShares 4 s _ wsX0_countAllShares RX0 := Fx
  have hx := Fx.1
  have hb := Fx.2.1
  have hin : ∀ w ∈ wsX00, w ∈ wsX0_countAllShares := by decide +kernel
  have hS : va_S (aw q 8) s.heap s.heap [] := va_S.rf
  have hP : va_P D vwCl (w0 ci cz q F P g) s.heap := hP
  refine lv_iconst (v := nI 0) hx hb dX0_countAllShares_0 (by decide) ?_
  refine lv_istore_n (lv' := [(2, .int (nI 0)), (0, .ref (q 0)), (1, .int (nI k))]) hx hb dX0_countAllShares_1 rfl hl (by decide) rfl (fun ls hl => ?_)
  refine lv_iconst (v := nI 0) hx hb dX0_countAllShares_2 (by decide) ?_
  refine lv_istore_n (lv' := [(3, .int (nI 0)), (2, .int (nI 0)), (0, .ref (q 0)), (1, .int (nI k))]) hx hb dX0_countAllShares_3 rfl hl (by decide) rfl (fun ls hl => ?_)
  refine rloop (nL := 4) (N := F) (fun _ => True) (fun i => [(0, .ref (q 0)), (1, .int (nI k)), (2, .int (sm (fun z => sFer g z k) i)), (3, .int (nI i))]) (trivial) (lv_sub hl [2, 3, 1, 0] rfl) ?_ ?_
  · intro h1 ls hl
    have hl : lv_has ls 4 [(0, .ref (q 0)), (1, .int (nI k)), (2, .int (sm (fun z => sFer g z k) F)), (3, .int (nI F))] := hl
    refine lv_iload_n hx hb dX0_countAllShares_4 rfl (lv_at hl 3 rfl) ?_
    refine lv_aload_n hx hb dX0_countAllShares_5 rfl (lv_at hl 0 rfl) ?_
    refine r_get Fx hin hK hP 0 rfl 0 (by decide) (by decide +kernel) rfl rfl dX0_countAllShares_6 ?_
    refine n_icmp_ge (tgt := 27) hx hb (by omega) (by omega) dX0_countAllShares_9 (by decide) (fun h2 => ?_) (fun h2 => by omega)
    refine lv_iload_n hx hb dX0_countAllShares_27 rfl (lv_at hl 2 rfl) ?_
    exact r_iret hx hb hr hlocks (rfl) dX0_countAllShares_28
  · intro i h4 h3 ih4 ls hl
    have hl : lv_has ls 4 [(0, .ref (q 0)), (1, .int (nI k)), (2, .int (sm (fun z => sFer g z k) i)), (3, .int (nI i))] := hl
    refine lv_iload_n hx hb dX0_countAllShares_4 rfl (lv_at hl 3 rfl) ?_
    refine lv_aload_n hx hb dX0_countAllShares_5 rfl (lv_at hl 0 rfl) ?_
    refine r_get Fx hin hK hP 0 rfl 0 (by decide) (by decide +kernel) rfl rfl dX0_countAllShares_6 ?_
    refine n_icmp_ge (tgt := 27) hx hb (by omega) (by omega) dX0_countAllShares_9 (by decide) (fun h5 => by omega) (fun h5 => ?_)
    refine lv_iload_n hx hb dX0_countAllShares_12 rfl (lv_at hl 2 rfl) ?_
    refine lv_aload_n hx hb dX0_countAllShares_13 rfl (lv_at hl 0 rfl) ?_
    refine lv_iload_n hx hb dX0_countAllShares_14 rfl (lv_at hl 3 rfl) ?_
    refine lv_iload_n hx hb dX0_countAllShares_15 rfl (lv_at hl 1 rfl) ?_
    refine r_callR (rest := [.int (sm (fun z => sFer g z k) i)]) Fx (m_X0_countSharesOfFerry l (D := D) (ci := ci) (cz := cz) (cj := cj) (q := q) (F := F) (P := P) (g := g) hF hP12 i k (by omega) (by omega)) (cwV 2 Fx.2.2.2.2 gX0_countAllShares_X0_countSharesOfFerry rfl rfl rfl (by decide +kernel) ⟨Nat.le_of_ble_eq_true rfl, Nat.le_of_ble_eq_true rfl⟩) BW.bl (va_recv hK hP (ci := 0) (q0 := 0) rfl rfl) (BW.at hP hK hE hS) rfl hl.1 rfl (Nat.le_of_ble_eq_true rfl) dX0_countAllShares_16 ⟨Nat.zero_le _, Nat.zero_le _⟩ ?_
    refine lv_iadd hx hb dX0_countAllShares_19 ?_
    refine lv_istore_n (lv' := [(2, .int ((sm (fun z => sFer g z k) i) + (sFer g i k))), (0, .ref (q 0)), (1, .int (nI k)), (3, .int (nI i))]) hx hb dX0_countAllShares_20 rfl hl (by decide) rfl (fun ls hl => ?_)
    refine lv_iinc (v := nI (i + 1)) (lv' := [(3, .int (nI (i + 1))), (2, .int ((sm (fun z => sFer g z k) i) + (sFer g i k))), (0, .ref (q 0)), (1, .int (nI k))]) hx hb dX0_countAllShares_21 hl (k := 3) rfl (nI_inc _ 1) (by decide) rfl (fun ls hl => ?_)
    refine lv_goto (tgt := 4) hx hb dX0_countAllShares_24 (by decide) ?_
    exact ih4 (trivial) _ (lv_sub hl [2, 3, 1, 0] rfl)
set_option maxHeartbeats 4000000 in
set_option maxRecDepth 100000 in
theorem m_X0_findMaster (l : Launch) {D : va_G} {ci cz : ClassId} {cj : ClassId × ClassId} {q : Nat → Nat} {F P : Nat} {g : Nat → Nat → Int32} (hF : F ≤ 6) (hP12 : P ≤ 12) (f : Nat) (ha0 : f < 6) : Met l yX0_findMaster wsX0_findMaster ({ frames := 3, cells := 0, slots := 0, locals := 69 } : Room) (va_Pc [.ref (q 0), .int (nI f)] (B0 D ci cz cj q F P g)) (RQ (some (.int (sMas g P f)))) 0 0 none_ := by
  refine Met.ofR (cc := cX0_findMaster) (maxL := 3) (ret := (some .int)) (by decide) rfl (Nat.le_of_ble_eq_true rfl) ?_
  intro pg en s m bl mt cd ls Fx hr hlocks hB hl
  obtain ⟨hP, hK, hE⟩ := hB
  have hl : lv_has ls 3 [(0, .ref (q 0)), (1, .int (nI f))] := hl
  have Fx : CallFix pg m cd cX0_findMaster 3 s _ wsX0_findMaster RX0 := Fx
  have hx := Fx.1
  have hb := Fx.2.1
  have hin : ∀ w ∈ wsX00, w ∈ wsX0_findMaster := by decide +kernel
  have hS : va_S (aw q 8) s.heap s.heap [] := va_S.rf
  have hP : va_P D vwCl (w0 ci cz q F P g) s.heap := hP
  refine lv_iconst (v := nI 0) hx hb dX0_findMaster_0 (by decide) ?_
  refine lv_istore_n (lv' := [(2, .int (nI 0)), (0, .ref (q 0)), (1, .int (nI f))]) hx hb dX0_findMaster_1 rfl hl (by decide) rfl (fun ls hl => ?_)
  refine rloop (nL := 3) (N := P) (fun i => ∀ z, z < i → (fun z => decide (nI 128 < sFer g f z)) z = false) (fun i => [(0, .ref (q 0)), (1, .int (nI f)), (2, .int (nI i))]) (all_0) (lv_sub hl [1, 2, 0] rfl) ?_ ?_
  · intro h1 ls hl
    have hl : lv_has ls 3 [(0, .ref (q 0)), (1, .int (nI f)), (2, .int (nI P))] := hl
    refine lv_iload_n hx hb dX0_findMaster_2 rfl (lv_at hl 2 rfl) ?_
    refine lv_aload_n hx hb dX0_findMaster_3 rfl (lv_at hl 0 rfl) ?_
    refine r_get Fx hin hK hP 0 rfl 4 (by decide) (by decide +kernel) rfl rfl dX0_findMaster_4 ?_
    refine n_icmp_ge (tgt := 30) hx hb (by omega) (by omega) dX0_findMaster_7 (by decide) (fun h2 => ?_) (fun h2 => by omega)
    refine lv_iconst (v := -1) hx hb dX0_findMaster_30 (by decide) ?_
    exact r_iret hx hb hr hlocks ((ff_none h1).symm) dX0_findMaster_31
  · intro i h4 h3 ih2 ls hl
    have hl : lv_has ls 3 [(0, .ref (q 0)), (1, .int (nI f)), (2, .int (nI i))] := hl
    refine lv_iload_n hx hb dX0_findMaster_2 rfl (lv_at hl 2 rfl) ?_
    refine lv_aload_n hx hb dX0_findMaster_3 rfl (lv_at hl 0 rfl) ?_
    refine r_get Fx hin hK hP 0 rfl 4 (by decide) (by decide +kernel) rfl rfl dX0_findMaster_4 ?_
    refine n_icmp_ge (tgt := 30) hx hb (by omega) (by omega) dX0_findMaster_7 (by decide) (fun h5 => by omega) (fun h5 => ?_)
    refine lv_aload_n hx hb dX0_findMaster_10 rfl (lv_at hl 0 rfl) ?_
    refine lv_iload_n hx hb dX0_findMaster_11 rfl (lv_at hl 1 rfl) ?_
    refine lv_iload_n hx hb dX0_findMaster_12 rfl (lv_at hl 2 rfl) ?_
    refine r_callR (rest := []) Fx (m_X0_countSharesOfFerry l (D := D) (ci := ci) (cz := cz) (cj := cj) (q := q) (F := F) (P := P) (g := g) hF hP12 f i (by omega) (by omega)) (cwV 2 Fx.2.2.2.2 gX0_findMaster_X0_countSharesOfFerry rfl rfl rfl (by decide +kernel) ⟨Nat.le_of_ble_eq_true rfl, Nat.le_of_ble_eq_true rfl⟩) BW.bl (va_recv hK hP (ci := 0) (q0 := 0) rfl rfl) (BW.at hP hK hE hS) rfl hl.1 rfl (Nat.le_of_ble_eq_true rfl) dX0_findMaster_13 ⟨Nat.zero_le _, Nat.zero_le _⟩ ?_
    refine lv_sipush (v := nI 128) hx hb dX0_findMaster_16 (by decide) ?_
    refine lv_icmp_le (tgt := 24) hx hb dX0_findMaster_19 (by decide) (fun h6 => ?_) (fun h6 => ?_)
    · refine lv_iinc (v := nI (i + 1)) (lv' := [(2, .int (nI (i + 1))), (0, .ref (q 0)), (1, .int (nI f))]) hx hb dX0_findMaster_24 hl (k := 2) rfl (nI_inc _ 1) (by decide) rfl (fun ls hl => ?_)
      refine lv_goto (tgt := 2) hx hb dX0_findMaster_27 (by decide) ?_
      exact ih2 (all_s h3 (by simp [Int32.not_lt, Int32.not_le, h3, h4, h5, h6, Int32.not_lt.mpr h6])) _ (lv_sub hl [1, 2, 0] rfl)
    · have h6 := Int32.not_le.mp h6
      refine lv_iload_n hx hb dX0_findMaster_22 rfl (lv_at hl 2 rfl) ?_
      exact r_iret hx hb hr hlocks ((ff_some h3 (by simp [Int32.not_lt, Int32.not_le, h3, h4, h5, h6, Int32.not_le.mpr h6]) h4).symm) dX0_findMaster_23
set_option maxHeartbeats 4000000 in
set_option maxRecDepth 100000 in
theorem m_X0_worth (l : Launch) {D : va_G} {ci cz : ClassId} {cj : ClassId × ClassId} {q : Nat → Nat} {F P : Nat} {g : Nat → Nat → Int32} (hF : F ≤ 6) (hP12 : P ≤ 12) (f : Nat) (w : Nat) (ha0 : f < 6) (ha1 : w < 4) : Met l yX0_worth wsX0_worth ({ frames := 0, cells := 0, slots := 0, locals := 0 } : Room) (va_Pc [.ref (q 0), .int (nI f), .int (nI w)] (B0 D ci cz cj q F P g)) (RQ (some (.int (sWor g f w)))) 0 0 none_ := by
  refine Met.ofR (cc := cX0_worth) (maxL := 3) (ret := (some .int)) (by decide) rfl (Nat.le_of_ble_eq_true rfl) ?_
  intro pg en s m bl mt cd ls Fx hr hlocks hB hl
  obtain ⟨hP, hK, hE⟩ := hB
  have hl : lv_has ls 3 [(0, .ref (q 0)), (1, .int (nI f)), (2, .int (nI w))] := hl
  have Fx : CallFix pg m cd cX0_worth 3 s _ wsX0_worth RX0 := Fx
  have hx := Fx.1
  have hb := Fx.2.1
  have hin : ∀ w ∈ wsX00, w ∈ wsX0_worth := by decide +kernel
  have hS : va_S (aw q 8) s.heap s.heap [] := va_S.rf
  have hP : va_P D vwCl (w0 ci cz q F P g) s.heap := hP
  refine lv_aload_n hx hb dX0_worth_0 rfl (lv_at hl 0 rfl) ?_
  refine r_get Fx hin hK hP 0 rfl 1 (by decide) (by decide +kernel) rfl rfl dX0_worth_1 ?_
  refine lv_iload_n hx hb dX0_worth_4 rfl (lv_at hl 1 rfl) ?_
  refine r_iald Fx hK hP 1 0 rfl rfl (i := f) (by omega) (by decide) dX0_worth_5 ?_
  obtain ⟨tr, hZ, hT⟩ := hE.2.2.2.1
  refine va_gets hx hb hZ hS Fx.2.2.2.1 (Fx.2.2.2.2 (.fieldLink RX0 219 "FerryRights" "TRAFFIC" "[I") (by decide +kernel)) (fun _ h => h) dX0_worth_6 ?_
  refine lv_iload_n hx hb dX0_worth_9 rfl (lv_at hl 2 rfl) ?_
  refine r_tr Fx hT hS (i := w) (by omega) dX0_worth_10 ?_
  refine lv_imul hx hb dX0_worth_11 ?_
  refine lv_iconst (v := nI 1) hx hb dX0_worth_12 (by decide) ?_
  refine lv_iadd hx hb dX0_worth_13 ?_
  exact r_iret hx hb hr hlocks (rfl) dX0_worth_14
set_option maxHeartbeats 4000000 in
set_option maxRecDepth 100000 in
theorem m_X0_priceOf (l : Launch) {D : va_G} {ci cz : ClassId} {cj : ClassId × ClassId} {q : Nat → Nat} {F P : Nat} {g : Nat → Nat → Int32} (hF : F ≤ 6) (hP12 : P ≤ 12) (k : Nat) (f : Nat) (w : Nat) (ha0 : k < 12) (ha1 : f < 6) (ha2 : w < 4) : Met l yX0_priceOf wsX0_priceOf ({ frames := 2, cells := 0, slots := 0, locals := 45 } : Room) (va_Pc [.ref (q 0), .int (nI k), .int (nI f), .int (nI w)] (B0 D ci cz cj q F P g)) (RQ (some (.int (sPri g f w k)))) 0 0 none_ := by
  refine Met.ofR (cc := cX0_priceOf) (maxL := 4) (ret := (some .int)) (by decide) rfl (Nat.le_of_ble_eq_true rfl) ?_
  intro pg en s m bl mt cd ls Fx hr hlocks hB hl
  obtain ⟨hP, hK, hE⟩ := hB
  have hl : lv_has ls 4 [(0, .ref (q 0)), (1, .int (nI k)), (2, .int (nI f)), (3, .int (nI w))] := hl
  have Fx : CallFix pg m cd cX0_priceOf 4 s _ wsX0_priceOf RX0 := Fx
  have hx := Fx.1
  have hb := Fx.2.1
  have hS : va_S (aw q 8) s.heap s.heap [] := va_S.rf
  have hP : va_P D vwCl (w0 ci cz q F P g) s.heap := hP
  refine lv_aload_n hx hb dX0_priceOf_0 rfl (lv_at hl 0 rfl) ?_
  refine lv_iload_n hx hb dX0_priceOf_1 rfl (lv_at hl 2 rfl) ?_
  refine lv_iload_n hx hb dX0_priceOf_2 rfl (lv_at hl 3 rfl) ?_
  refine lv_iload_n hx hb dX0_priceOf_3 rfl (lv_at hl 1 rfl) ?_
  refine r_callR (rest := []) Fx (m_X0_owns l (D := D) (ci := ci) (cz := cz) (cj := cj) (q := q) (F := F) (P := P) (g := g) hF hP12 f w k (by omega) (by omega) (by omega)) (cwV 3 Fx.2.2.2.2 gX0_priceOf_X0_owns rfl rfl rfl (by decide +kernel) ⟨Nat.le_of_ble_eq_true rfl, Nat.le_of_ble_eq_true rfl⟩) BW.bl (va_recv hK hP (ci := 0) (q0 := 0) rfl rfl) (BW.at hP hK hE hS) rfl hl.1 rfl (Nat.le_of_ble_eq_true rfl) dX0_priceOf_4 ⟨Nat.zero_le _, Nat.zero_le _⟩ ?_
  refine lv_aload_n hx hb dX0_priceOf_7 rfl (lv_at hl 0 rfl) ?_
  refine lv_iload_n hx hb dX0_priceOf_8 rfl (lv_at hl 2 rfl) ?_
  refine lv_iload_n hx hb dX0_priceOf_9 rfl (lv_at hl 3 rfl) ?_
  refine r_callR (rest := [.int (own g f w k)]) Fx (m_X0_worth l (D := D) (ci := ci) (cz := cz) (cj := cj) (q := q) (F := F) (P := P) (g := g) hF hP12 f w (by omega) (by omega)) (cwV 2 Fx.2.2.2.2 gX0_priceOf_X0_worth rfl rfl rfl (by decide +kernel) ⟨Nat.le_of_ble_eq_true rfl, Nat.le_of_ble_eq_true rfl⟩) BW.bl (va_recv hK hP (ci := 0) (q0 := 0) rfl rfl) (BW.at hP hK hE hS) rfl hl.1 rfl (Nat.le_of_ble_eq_true rfl) dX0_priceOf_10 ⟨Nat.zero_le _, Nat.zero_le _⟩ ?_
  refine lv_imul hx hb dX0_priceOf_13 ?_
  exact r_iret hx hb hr hlocks (rfl) dX0_priceOf_14
