/-! FerryRights, II: the checks, and what is asked -/
set_option maxHeartbeats 4000000 in
set_option maxRecDepth 100000 in
theorem m_X0_needPerson (l : Launch) {D : va_G} {ci cz : ClassId} {cj : ClassId × ClassId} {q : Nat → Nat} {F P : Nat} {g : Nat → Nat → Int32} (hF : F ≤ 6) (hP12 : P ≤ 12) (a : Nat) (ha0 : a < P) : Met l yX0_needPerson wsX0_needPerson ({ frames := 0, cells := 0, slots := 0, locals := 0 } : Room) (va_Pc [.ref (q 0), .int (nI a)] (B0 D ci cz cj q F P g)) (RQ none) 0 0 none_ := by
  refine Met.ofR (cc := cX0_needPerson) (maxL := 2) (ret := none) (by decide) rfl (Nat.le_of_ble_eq_true rfl) ?_
  intro pg en s m bl mt cd ls Fx hr hlocks hB hl
  obtain ⟨hP, hK, hE⟩ := hB
  have hl : lv_has ls 2 [(0, .ref (q 0)), (1, .int (nI a))] := hl
  have Fx : CallFix pg m cd cX0_needPerson 2 s _ wsX0_needPerson RX0 := Fx
  have hx := Fx.1
  have hb := Fx.2.1
  have hin : ∀ w ∈ wsX00, w ∈ wsX0_needPerson := by decide +kernel
  have hS : va_S (aw q 8) s.heap s.heap [] := va_S.rf
  have hP : va_P D vwCl (w0 ci cz q F P g) s.heap := hP
  refine lv_iload_n hx hb dX0_needPerson_0 rfl (lv_at hl 1 rfl) ?_
  refine n_if_lt hx hb (by omega) dX0_needPerson_1 ⟨12, by decide⟩ ?_
  refine lv_iload_n hx hb dX0_needPerson_4 rfl (lv_at hl 1 rfl) ?_
  refine lv_aload_n hx hb dX0_needPerson_5 rfl (lv_at hl 0 rfl) ?_
  refine r_get Fx hin hK hP 0 rfl 4 (by decide) (by decide +kernel) rfl rfl dX0_needPerson_6 ?_
  refine n_icmp_lt (tgt := 22) hx hb (by omega) (by omega) dX0_needPerson_9 (by decide) (fun h2 => ?_) (fun h2 => by omega)
  exact r_vret hx hb hr hlocks dX0_needPerson_22
set_option maxHeartbeats 4000000 in
set_option maxRecDepth 100000 in
theorem m_X0_needPerson_x (l : Launch) (hl0 : l.stackTraces = false) {D : va_G} {ci cz : ClassId} {cj : ClassId × ClassId} {q : Nat → Nat} {F P : Nat} {g : Nat → Nat → Int32} (hF : F ≤ 6) (hP12 : P ≤ 12) (a : Int32) (ha0 : ¬ (inR a P)) : vx_Met l yX0_needPerson wsX0_needPerson ({ frames := 6, cells := 1, slots := 6, locals := 82 } : Room) (va_Pc [.ref (q 0), .int a] (B0 D ci cz cj q F P g)) FF (XQ xIO) 1 6 none_ := by
  refine vx_ofX (cc := cX0_needPerson) (maxL := 2) (ret := none) (by decide) rfl (Nat.le_of_ble_eq_true rfl) ?_
  intro pg en s m bl mt cd ls Fx hr hlocks hex hB hl
  obtain ⟨hP, hK, hE⟩ := hB
  have hl : lv_has ls 2 [(0, .ref (q 0)), (1, .int a)] := hl
  have Fx : CallFix pg m cd cX0_needPerson 2 s _ wsX0_needPerson RX0 := Fx
  have hx := Fx.1
  have hb := Fx.2.1
  have hin : ∀ w ∈ wsX00, w ∈ wsX0_needPerson := by decide +kernel
  have hS : va_S (aw q 8) s.heap s.heap [] := va_S.rf
  have hP : va_P D vwCl (w0 ci cz q F P g) s.heap := hP
  refine lv_iload_n hx hb dX0_needPerson_0 rfl (lv_at hl 1 rfl) ?_
  refine lv_if_lt (tgt := 12) hx hb dX0_needPerson_1 (by decide) (fun h1 => ?_) (fun h1 => ?_)
  · exact x0_throw (cls := xIO) (text := "no such person") Fx hl0 hE hS hex hlocks (by decide +kernel) (by decide +kernel) (by decide +kernel) (by decide +kernel) (by decide +kernel) hl.1 dX0_needPerson_12 dX0_needPerson_15 dX0_needPerson_16 dX0_needPerson_18 dX0_needPerson_21 (Nat.le_of_ble_eq_true rfl) (Nat.le_of_ble_eq_true rfl) (Nat.le_of_ble_eq_true rfl) (Nat.le_of_ble_eq_true rfl) (fun t ht => ⟨rfl, ht⟩) nin (Nat.le_refl _) (Nat.le_refl _)
  · have h1 := Int32.not_lt.mp h1
    refine lv_iload_n hx hb dX0_needPerson_4 rfl (lv_at hl 1 rfl) ?_
    refine lv_aload_n hx hb dX0_needPerson_5 rfl (lv_at hl 0 rfl) ?_
    refine r_get Fx hin hK hP 0 rfl 4 (by decide) (by decide +kernel) rfl rfl dX0_needPerson_6 ?_
    refine lv_icmp_lt (tgt := 22) hx hb dX0_needPerson_9 (by decide) (fun h2 => absurd ⟨h1, h2⟩ ha0) (fun h2 => ?_)
    exact x0_throw (cls := xIO) (text := "no such person") Fx hl0 hE hS hex hlocks (by decide +kernel) (by decide +kernel) (by decide +kernel) (by decide +kernel) (by decide +kernel) hl.1 dX0_needPerson_12 dX0_needPerson_15 dX0_needPerson_16 dX0_needPerson_18 dX0_needPerson_21 (Nat.le_of_ble_eq_true rfl) (Nat.le_of_ble_eq_true rfl) (Nat.le_of_ble_eq_true rfl) (Nat.le_of_ble_eq_true rfl) (fun t ht => ⟨rfl, ht⟩) nin (Nat.le_refl _) (Nat.le_refl _)
set_option maxHeartbeats 4000000 in
set_option maxRecDepth 100000 in
theorem m_X0_needFerry (l : Launch) {D : va_G} {ci cz : ClassId} {cj : ClassId × ClassId} {q : Nat → Nat} {F P : Nat} {g : Nat → Nat → Int32} (hF : F ≤ 6) (hP12 : P ≤ 12) (a : Nat) (ha0 : a < F) : Met l yX0_needFerry wsX0_needFerry ({ frames := 0, cells := 0, slots := 0, locals := 0 } : Room) (va_Pc [.ref (q 0), .int (nI a)] (B0 D ci cz cj q F P g)) (RQ none) 0 0 none_ := by
  refine Met.ofR (cc := cX0_needFerry) (maxL := 2) (ret := none) (by decide) rfl (Nat.le_of_ble_eq_true rfl) ?_
  intro pg en s m bl mt cd ls Fx hr hlocks hB hl
  obtain ⟨hP, hK, hE⟩ := hB
  have hl : lv_has ls 2 [(0, .ref (q 0)), (1, .int (nI a))] := hl
  have Fx : CallFix pg m cd cX0_needFerry 2 s _ wsX0_needFerry RX0 := Fx
  have hx := Fx.1
  have hb := Fx.2.1
  have hin : ∀ w ∈ wsX00, w ∈ wsX0_needFerry := by decide +kernel
  have hS : va_S (aw q 8) s.heap s.heap [] := va_S.rf
  have hP : va_P D vwCl (w0 ci cz q F P g) s.heap := hP
  refine lv_iload_n hx hb dX0_needFerry_0 rfl (lv_at hl 1 rfl) ?_
  refine n_if_lt hx hb (by omega) dX0_needFerry_1 ⟨12, by decide⟩ ?_
  refine lv_iload_n hx hb dX0_needFerry_4 rfl (lv_at hl 1 rfl) ?_
  refine lv_aload_n hx hb dX0_needFerry_5 rfl (lv_at hl 0 rfl) ?_
  refine r_get Fx hin hK hP 0 rfl 0 (by decide) (by decide +kernel) rfl rfl dX0_needFerry_6 ?_
  refine n_icmp_lt (tgt := 22) hx hb (by omega) (by omega) dX0_needFerry_9 (by decide) (fun h2 => ?_) (fun h2 => by omega)
  exact r_vret hx hb hr hlocks dX0_needFerry_22
set_option maxHeartbeats 4000000 in
set_option maxRecDepth 100000 in
theorem m_X0_needFerry_x (l : Launch) (hl0 : l.stackTraces = false) {D : va_G} {ci cz : ClassId} {cj : ClassId × ClassId} {q : Nat → Nat} {F P : Nat} {g : Nat → Nat → Int32} (hF : F ≤ 6) (hP12 : P ≤ 12) (a : Int32) (ha0 : ¬ (inR a F)) : vx_Met l yX0_needFerry wsX0_needFerry ({ frames := 6, cells := 1, slots := 6, locals := 82 } : Room) (va_Pc [.ref (q 0), .int a] (B0 D ci cz cj q F P g)) FF (XQ xIO) 1 6 none_ := by
  refine vx_ofX (cc := cX0_needFerry) (maxL := 2) (ret := none) (by decide) rfl (Nat.le_of_ble_eq_true rfl) ?_
  intro pg en s m bl mt cd ls Fx hr hlocks hex hB hl
  obtain ⟨hP, hK, hE⟩ := hB
  have hl : lv_has ls 2 [(0, .ref (q 0)), (1, .int a)] := hl
  have Fx : CallFix pg m cd cX0_needFerry 2 s _ wsX0_needFerry RX0 := Fx
  have hx := Fx.1
  have hb := Fx.2.1
  have hin : ∀ w ∈ wsX00, w ∈ wsX0_needFerry := by decide +kernel
  have hS : va_S (aw q 8) s.heap s.heap [] := va_S.rf
  have hP : va_P D vwCl (w0 ci cz q F P g) s.heap := hP
  refine lv_iload_n hx hb dX0_needFerry_0 rfl (lv_at hl 1 rfl) ?_
  refine lv_if_lt (tgt := 12) hx hb dX0_needFerry_1 (by decide) (fun h1 => ?_) (fun h1 => ?_)
  · exact x0_throw (cls := xIO) (text := "no such ferry") Fx hl0 hE hS hex hlocks (by decide +kernel) (by decide +kernel) (by decide +kernel) (by decide +kernel) (by decide +kernel) hl.1 dX0_needFerry_12 dX0_needFerry_15 dX0_needFerry_16 dX0_needFerry_18 dX0_needFerry_21 (Nat.le_of_ble_eq_true rfl) (Nat.le_of_ble_eq_true rfl) (Nat.le_of_ble_eq_true rfl) (Nat.le_of_ble_eq_true rfl) (fun t ht => ⟨rfl, ht⟩) nin (Nat.le_refl _) (Nat.le_refl _)
  · have h1 := Int32.not_lt.mp h1
    refine lv_iload_n hx hb dX0_needFerry_4 rfl (lv_at hl 1 rfl) ?_
    refine lv_aload_n hx hb dX0_needFerry_5 rfl (lv_at hl 0 rfl) ?_
    refine r_get Fx hin hK hP 0 rfl 0 (by decide) (by decide +kernel) rfl rfl dX0_needFerry_6 ?_
    refine lv_icmp_lt (tgt := 22) hx hb dX0_needFerry_9 (by decide) (fun h2 => absurd ⟨h1, h2⟩ ha0) (fun h2 => ?_)
    exact x0_throw (cls := xIO) (text := "no such ferry") Fx hl0 hE hS hex hlocks (by decide +kernel) (by decide +kernel) (by decide +kernel) (by decide +kernel) (by decide +kernel) hl.1 dX0_needFerry_12 dX0_needFerry_15 dX0_needFerry_16 dX0_needFerry_18 dX0_needFerry_21 (Nat.le_of_ble_eq_true rfl) (Nat.le_of_ble_eq_true rfl) (Nat.le_of_ble_eq_true rfl) (Nat.le_of_ble_eq_true rfl) (fun t ht => ⟨rfl, ht⟩) nin (Nat.le_refl _) (Nat.le_refl _)
set_option maxHeartbeats 4000000 in
set_option maxRecDepth 100000 in
theorem m_X0_needWatch (l : Launch) {D : va_G} {ci cz : ClassId} {cj : ClassId × ClassId} {q : Nat → Nat} {F P : Nat} {g : Nat → Nat → Int32} (hF : F ≤ 6) (hP12 : P ≤ 12) (a : Nat) (ha0 : a < 4) : Met l yX0_needWatch wsX0_needWatch ({ frames := 0, cells := 0, slots := 0, locals := 0 } : Room) (va_Pc [.int (nI a)] (B0 D ci cz cj q F P g)) (RQ none) 0 0 none_ := by
  refine Met.ofR (cc := cX0_needWatch) (maxL := 1) (ret := none) (by decide) rfl (Nat.le_of_ble_eq_true rfl) ?_
  intro pg en s m bl mt cd ls Fx hr hlocks hB hl
  obtain ⟨hP, hK, hE⟩ := hB
  have hl : lv_has ls 1 [(0, .int (nI a))] := hl
  have Fx : CallFix pg m cd cX0_needWatch 1 s _ wsX0_needWatch RX0 := Fx
  have hx := Fx.1
  have hb := Fx.2.1
  have hS : va_S (aw q 8) s.heap s.heap [] := va_S.rf
  have hP : va_P D vwCl (w0 ci cz q F P g) s.heap := hP
  refine lv_iload_n hx hb dX0_needWatch_0 rfl (lv_at hl 0 rfl) ?_
  refine n_if_lt hx hb (by omega) dX0_needWatch_1 ⟨9, by decide⟩ ?_
  refine lv_iload_n hx hb dX0_needWatch_4 rfl (lv_at hl 0 rfl) ?_
  refine lv_iconst (v := nI 4) hx hb dX0_needWatch_5 (by decide) ?_
  refine n_icmp_lt (tgt := 19) hx hb (by omega) (by omega) dX0_needWatch_6 (by decide) (fun h2 => ?_) (fun h2 => by omega)
  exact r_vret hx hb hr hlocks dX0_needWatch_19
set_option maxHeartbeats 4000000 in
set_option maxRecDepth 100000 in
theorem m_X0_needWatch_x (l : Launch) (hl0 : l.stackTraces = false) {D : va_G} {ci cz : ClassId} {cj : ClassId × ClassId} {q : Nat → Nat} {F P : Nat} {g : Nat → Nat → Int32} (hF : F ≤ 6) (hP12 : P ≤ 12) (a : Int32) (ha0 : ¬ (inR a 4)) : vx_Met l yX0_needWatch wsX0_needWatch ({ frames := 6, cells := 1, slots := 6, locals := 82 } : Room) (va_Pc [.int a] (B0 D ci cz cj q F P g)) FF (XQ xIO) 1 6 none_ := by
  refine vx_ofX (cc := cX0_needWatch) (maxL := 1) (ret := none) (by decide) rfl (Nat.le_of_ble_eq_true rfl) ?_
  intro pg en s m bl mt cd ls Fx hr hlocks hex hB hl
  obtain ⟨hP, hK, hE⟩ := hB
  have hl : lv_has ls 1 [(0, .int a)] := hl
  have Fx : CallFix pg m cd cX0_needWatch 1 s _ wsX0_needWatch RX0 := Fx
  have hx := Fx.1
  have hb := Fx.2.1
  have hS : va_S (aw q 8) s.heap s.heap [] := va_S.rf
  have hP : va_P D vwCl (w0 ci cz q F P g) s.heap := hP
  refine lv_iload_n hx hb dX0_needWatch_0 rfl (lv_at hl 0 rfl) ?_
  refine lv_if_lt (tgt := 9) hx hb dX0_needWatch_1 (by decide) (fun h1 => ?_) (fun h1 => ?_)
  · exact x0_throw (cls := xIO) (text := "no such watch") Fx hl0 hE hS hex hlocks (by decide +kernel) (by decide +kernel) (by decide +kernel) (by decide +kernel) (by decide +kernel) hl.1 dX0_needWatch_9 dX0_needWatch_12 dX0_needWatch_13 dX0_needWatch_15 dX0_needWatch_18 (Nat.le_of_ble_eq_true rfl) (Nat.le_of_ble_eq_true rfl) (Nat.le_of_ble_eq_true rfl) (Nat.le_of_ble_eq_true rfl) (fun t ht => ⟨rfl, ht⟩) nin (Nat.le_refl _) (Nat.le_refl _)
  · have h1 := Int32.not_lt.mp h1
    refine lv_iload_n hx hb dX0_needWatch_4 rfl (lv_at hl 0 rfl) ?_
    refine lv_iconst (v := nI 4) hx hb dX0_needWatch_5 (by decide) ?_
    refine lv_icmp_lt (tgt := 19) hx hb dX0_needWatch_6 (by decide) (fun h2 => absurd ⟨h1, h2⟩ ha0) (fun h2 => ?_)
    exact x0_throw (cls := xIO) (text := "no such watch") Fx hl0 hE hS hex hlocks (by decide +kernel) (by decide +kernel) (by decide +kernel) (by decide +kernel) (by decide +kernel) hl.1 dX0_needWatch_9 dX0_needWatch_12 dX0_needWatch_13 dX0_needWatch_15 dX0_needWatch_18 (Nat.le_of_ble_eq_true rfl) (Nat.le_of_ble_eq_true rfl) (Nat.le_of_ble_eq_true rfl) (Nat.le_of_ble_eq_true rfl) (fun t ht => ⟨rfl, ht⟩) nin (Nat.le_refl _) (Nat.le_refl _)
set_option maxHeartbeats 4000000 in
set_option maxRecDepth 100000 in
theorem m_X0_needHour (l : Launch) {D : va_G} {ci cz : ClassId} {cj : ClassId × ClassId} {q : Nat → Nat} {F P : Nat} {g : Nat → Nat → Int32} (hF : F ≤ 6) (hP12 : P ≤ 12) (a : Nat) (ha0 : a < 24) : Met l yX0_needHour wsX0_needHour ({ frames := 0, cells := 0, slots := 0, locals := 0 } : Room) (va_Pc [.int (nI a)] (B0 D ci cz cj q F P g)) (RQ none) 0 0 none_ := by
  refine Met.ofR (cc := cX0_needHour) (maxL := 1) (ret := none) (by decide) rfl (Nat.le_of_ble_eq_true rfl) ?_
  intro pg en s m bl mt cd ls Fx hr hlocks hB hl
  obtain ⟨hP, hK, hE⟩ := hB
  have hl : lv_has ls 1 [(0, .int (nI a))] := hl
  have Fx : CallFix pg m cd cX0_needHour 1 s _ wsX0_needHour RX0 := Fx
  have hx := Fx.1
  have hb := Fx.2.1
  have hS : va_S (aw q 8) s.heap s.heap [] := va_S.rf
  have hP : va_P D vwCl (w0 ci cz q F P g) s.heap := hP
  refine lv_iload_n hx hb dX0_needHour_0 rfl (lv_at hl 0 rfl) ?_
  refine n_if_lt hx hb (by omega) dX0_needHour_1 ⟨10, by decide⟩ ?_
  refine lv_iload_n hx hb dX0_needHour_4 rfl (lv_at hl 0 rfl) ?_
  refine lv_bipush (v := nI 24) hx hb dX0_needHour_5 (by decide) ?_
  refine n_icmp_lt (tgt := 20) hx hb (by omega) (by omega) dX0_needHour_7 (by decide) (fun h2 => ?_) (fun h2 => by omega)
  exact r_vret hx hb hr hlocks dX0_needHour_20
set_option maxHeartbeats 4000000 in
set_option maxRecDepth 100000 in
theorem m_X0_needHour_x (l : Launch) (hl0 : l.stackTraces = false) {D : va_G} {ci cz : ClassId} {cj : ClassId × ClassId} {q : Nat → Nat} {F P : Nat} {g : Nat → Nat → Int32} (hF : F ≤ 6) (hP12 : P ≤ 12) (a : Int32) (ha0 : ¬ (inR a 24)) : vx_Met l yX0_needHour wsX0_needHour ({ frames := 6, cells := 1, slots := 6, locals := 82 } : Room) (va_Pc [.int a] (B0 D ci cz cj q F P g)) FF (XQ xIO) 1 6 none_ := by
  refine vx_ofX (cc := cX0_needHour) (maxL := 1) (ret := none) (by decide) rfl (Nat.le_of_ble_eq_true rfl) ?_
  intro pg en s m bl mt cd ls Fx hr hlocks hex hB hl
  obtain ⟨hP, hK, hE⟩ := hB
  have hl : lv_has ls 1 [(0, .int a)] := hl
  have Fx : CallFix pg m cd cX0_needHour 1 s _ wsX0_needHour RX0 := Fx
  have hx := Fx.1
  have hb := Fx.2.1
  have hS : va_S (aw q 8) s.heap s.heap [] := va_S.rf
  have hP : va_P D vwCl (w0 ci cz q F P g) s.heap := hP
  refine lv_iload_n hx hb dX0_needHour_0 rfl (lv_at hl 0 rfl) ?_
  refine lv_if_lt (tgt := 10) hx hb dX0_needHour_1 (by decide) (fun h1 => ?_) (fun h1 => ?_)
  · exact x0_throw (cls := xIO) (text := "hour is not 0 to 23") Fx hl0 hE hS hex hlocks (by decide +kernel) (by decide +kernel) (by decide +kernel) (by decide +kernel) (by decide +kernel) hl.1 dX0_needHour_10 dX0_needHour_13 dX0_needHour_14 dX0_needHour_16 dX0_needHour_19 (Nat.le_of_ble_eq_true rfl) (Nat.le_of_ble_eq_true rfl) (Nat.le_of_ble_eq_true rfl) (Nat.le_of_ble_eq_true rfl) (fun t ht => ⟨rfl, ht⟩) nin (Nat.le_refl _) (Nat.le_refl _)
  · have h1 := Int32.not_lt.mp h1
    refine lv_iload_n hx hb dX0_needHour_4 rfl (lv_at hl 0 rfl) ?_
    refine lv_bipush (v := nI 24) hx hb dX0_needHour_5 (by decide) ?_
    refine lv_icmp_lt (tgt := 20) hx hb dX0_needHour_7 (by decide) (fun h2 => absurd ⟨h1, h2⟩ ha0) (fun h2 => ?_)
    exact x0_throw (cls := xIO) (text := "hour is not 0 to 23") Fx hl0 hE hS hex hlocks (by decide +kernel) (by decide +kernel) (by decide +kernel) (by decide +kernel) (by decide +kernel) hl.1 dX0_needHour_10 dX0_needHour_13 dX0_needHour_14 dX0_needHour_16 dX0_needHour_19 (Nat.le_of_ble_eq_true rfl) (Nat.le_of_ble_eq_true rfl) (Nat.le_of_ble_eq_true rfl) (Nat.le_of_ble_eq_true rfl) (fun t ht => ⟨rfl, ht⟩) nin (Nat.le_refl _) (Nat.le_refl _)
set_option maxHeartbeats 4000000 in
set_option maxRecDepth 100000 in
theorem m_X0_needToll (l : Launch) {D : va_G} {ci cz : ClassId} {cj : ClassId × ClassId} {q : Nat → Nat} {F P : Nat} {g : Nat → Nat → Int32} (hF : F ≤ 6) (hP12 : P ≤ 12) (a : Int32) (ha0 : 0 ≤ a ∧ a ≤ nI 20) : Met l yX0_needToll wsX0_needToll ({ frames := 0, cells := 0, slots := 0, locals := 0 } : Room) (va_Pc [.int a] (B0 D ci cz cj q F P g)) (RQ none) 0 0 none_ := by
  refine Met.ofR (cc := cX0_needToll) (maxL := 1) (ret := none) (by decide) rfl (Nat.le_of_ble_eq_true rfl) ?_
  intro pg en s m bl mt cd ls Fx hr hlocks hB hl
  obtain ⟨hP, hK, hE⟩ := hB
  have hl : lv_has ls 1 [(0, .int a)] := hl
  have Fx : CallFix pg m cd cX0_needToll 1 s _ wsX0_needToll RX0 := Fx
  have hx := Fx.1
  have hb := Fx.2.1
  have hS : va_S (aw q 8) s.heap s.heap [] := va_S.rf
  have hP : va_P D vwCl (w0 ci cz q F P g) s.heap := hP
  refine lv_iload_n hx hb dX0_needToll_0 rfl (lv_at hl 0 rfl) ?_
  refine lv_if_lt (tgt := 10) hx hb dX0_needToll_1 (by decide) (fun h1 => absurd h1 (Int32.not_lt.mpr ha0.1)) (fun h1 => ?_)
  refine lv_iload_n hx hb dX0_needToll_4 rfl (lv_at hl 0 rfl) ?_
  refine lv_bipush (v := nI 20) hx hb dX0_needToll_5 (by decide) ?_
  refine lv_icmp_le (tgt := 20) hx hb dX0_needToll_7 (by decide) (fun h2 => ?_) (fun h2 => absurd ha0.2 h2)
  exact r_vret hx hb hr hlocks dX0_needToll_20
set_option maxHeartbeats 4000000 in
set_option maxRecDepth 100000 in
theorem m_X0_needToll_x (l : Launch) (hl0 : l.stackTraces = false) {D : va_G} {ci cz : ClassId} {cj : ClassId × ClassId} {q : Nat → Nat} {F P : Nat} {g : Nat → Nat → Int32} (hF : F ≤ 6) (hP12 : P ≤ 12) (a : Int32) (ha0 : ¬ (0 ≤ a ∧ a ≤ nI 20)) : vx_Met l yX0_needToll wsX0_needToll ({ frames := 6, cells := 1, slots := 6, locals := 82 } : Room) (va_Pc [.int a] (B0 D ci cz cj q F P g)) FF (XQ xIA) 1 6 none_ := by
  refine vx_ofX (cc := cX0_needToll) (maxL := 1) (ret := none) (by decide) rfl (Nat.le_of_ble_eq_true rfl) ?_
  intro pg en s m bl mt cd ls Fx hr hlocks hex hB hl
  obtain ⟨hP, hK, hE⟩ := hB
  have hl : lv_has ls 1 [(0, .int a)] := hl
  have Fx : CallFix pg m cd cX0_needToll 1 s _ wsX0_needToll RX0 := Fx
  have hx := Fx.1
  have hb := Fx.2.1
  have hS : va_S (aw q 8) s.heap s.heap [] := va_S.rf
  have hP : va_P D vwCl (w0 ci cz q F P g) s.heap := hP
  refine lv_iload_n hx hb dX0_needToll_0 rfl (lv_at hl 0 rfl) ?_
  refine lv_if_lt (tgt := 10) hx hb dX0_needToll_1 (by decide) (fun h1 => ?_) (fun h1 => ?_)
  · exact x0_throw (cls := xIA) (text := "toll is not 0 to 20") Fx hl0 hE hS hex hlocks (by decide +kernel) (by decide +kernel) (by decide +kernel) (by decide +kernel) (by decide +kernel) hl.1 dX0_needToll_10 dX0_needToll_13 dX0_needToll_14 dX0_needToll_16 dX0_needToll_19 (Nat.le_of_ble_eq_true rfl) (Nat.le_of_ble_eq_true rfl) (Nat.le_of_ble_eq_true rfl) (Nat.le_of_ble_eq_true rfl) (fun t ht => ⟨rfl, ht⟩) nin (Nat.le_refl _) (Nat.le_refl _)
  · have h1 := Int32.not_lt.mp h1
    refine lv_iload_n hx hb dX0_needToll_4 rfl (lv_at hl 0 rfl) ?_
    refine lv_bipush (v := nI 20) hx hb dX0_needToll_5 (by decide) ?_
    refine lv_icmp_le (tgt := 20) hx hb dX0_needToll_7 (by decide) (fun h2 => absurd ⟨h1, h2⟩ ha0) (fun h2 => ?_)
    exact x0_throw (cls := xIA) (text := "toll is not 0 to 20") Fx hl0 hE hS hex hlocks (by decide +kernel) (by decide +kernel) (by decide +kernel) (by decide +kernel) (by decide +kernel) hl.1 dX0_needToll_10 dX0_needToll_13 dX0_needToll_14 dX0_needToll_16 dX0_needToll_19 (Nat.le_of_ble_eq_true rfl) (Nat.le_of_ble_eq_true rfl) (Nat.le_of_ble_eq_true rfl) (Nat.le_of_ble_eq_true rfl) (fun t ht => ⟨rfl, ht⟩) nin (Nat.le_refl _) (Nat.le_refl _)
set_option maxHeartbeats 4000000 in
set_option maxRecDepth 100000 in
theorem m_X0_needShares (l : Launch) {D : va_G} {ci cz : ClassId} {cj : ClassId × ClassId} {q : Nat → Nat} {F P : Nat} {g : Nat → Nat → Int32} (hF : F ≤ 6) (hP12 : P ≤ 12) (a : Int32) (ha0 : inB 1 64 a) : Met l yX0_needShares wsX0_needShares ({ frames := 0, cells := 0, slots := 0, locals := 0 } : Room) (va_Pc [.int a] (B0 D ci cz cj q F P g)) (RQ none) 0 0 none_ := by
  refine Met.ofR (cc := cX0_needShares) (maxL := 1) (ret := none) (by decide) rfl (Nat.le_of_ble_eq_true rfl) ?_
  intro pg en s m bl mt cd ls Fx hr hlocks hB hl
  obtain ⟨hP, hK, hE⟩ := hB
  have hl : lv_has ls 1 [(0, .int a)] := hl
  have Fx : CallFix pg m cd cX0_needShares 1 s _ wsX0_needShares RX0 := Fx
  have hx := Fx.1
  have hb := Fx.2.1
  have hS : va_S (aw q 8) s.heap s.heap [] := va_S.rf
  have hP : va_P D vwCl (w0 ci cz q F P g) s.heap := hP
  refine lv_iload_n hx hb dX0_needShares_0 rfl (lv_at hl 0 rfl) ?_
  refine lv_iconst (v := nI 1) hx hb dX0_needShares_1 (by decide) ?_
  refine lv_icmp_lt (tgt := 11) hx hb dX0_needShares_2 (by decide) (fun h1 => absurd h1 (Int32.not_lt.mpr ha0.1)) (fun h1 => ?_)
  refine lv_iload_n hx hb dX0_needShares_5 rfl (lv_at hl 0 rfl) ?_
  refine lv_bipush (v := nI 64) hx hb dX0_needShares_6 (by decide) ?_
  refine lv_icmp_le (tgt := 21) hx hb dX0_needShares_8 (by decide) (fun h2 => ?_) (fun h2 => absurd ha0.2 h2)
  exact r_vret hx hb hr hlocks dX0_needShares_21
set_option maxHeartbeats 4000000 in
set_option maxRecDepth 100000 in
theorem m_X0_needShares_x (l : Launch) (hl0 : l.stackTraces = false) {D : va_G} {ci cz : ClassId} {cj : ClassId × ClassId} {q : Nat → Nat} {F P : Nat} {g : Nat → Nat → Int32} (hF : F ≤ 6) (hP12 : P ≤ 12) (a : Int32) (ha0 : ¬ (inB 1 64 a)) : vx_Met l yX0_needShares wsX0_needShares ({ frames := 6, cells := 1, slots := 6, locals := 82 } : Room) (va_Pc [.int a] (B0 D ci cz cj q F P g)) FF (XQ xIA) 1 6 none_ := by
  refine vx_ofX (cc := cX0_needShares) (maxL := 1) (ret := none) (by decide) rfl (Nat.le_of_ble_eq_true rfl) ?_
  intro pg en s m bl mt cd ls Fx hr hlocks hex hB hl
  obtain ⟨hP, hK, hE⟩ := hB
  have hl : lv_has ls 1 [(0, .int a)] := hl
  have Fx : CallFix pg m cd cX0_needShares 1 s _ wsX0_needShares RX0 := Fx
  have hx := Fx.1
  have hb := Fx.2.1
  have hS : va_S (aw q 8) s.heap s.heap [] := va_S.rf
  have hP : va_P D vwCl (w0 ci cz q F P g) s.heap := hP
  refine lv_iload_n hx hb dX0_needShares_0 rfl (lv_at hl 0 rfl) ?_
  refine lv_iconst (v := nI 1) hx hb dX0_needShares_1 (by decide) ?_
  refine lv_icmp_lt (tgt := 11) hx hb dX0_needShares_2 (by decide) (fun h1 => ?_) (fun h1 => ?_)
  · exact x0_throw (cls := xIA) (text := "shares is not 1 to 64") Fx hl0 hE hS hex hlocks (by decide +kernel) (by decide +kernel) (by decide +kernel) (by decide +kernel) (by decide +kernel) hl.1 dX0_needShares_11 dX0_needShares_14 dX0_needShares_15 dX0_needShares_17 dX0_needShares_20 (Nat.le_of_ble_eq_true rfl) (Nat.le_of_ble_eq_true rfl) (Nat.le_of_ble_eq_true rfl) (Nat.le_of_ble_eq_true rfl) (fun t ht => ⟨rfl, ht⟩) nin (Nat.le_refl _) (Nat.le_refl _)
  · have h1 := Int32.not_lt.mp h1
    refine lv_iload_n hx hb dX0_needShares_5 rfl (lv_at hl 0 rfl) ?_
    refine lv_bipush (v := nI 64) hx hb dX0_needShares_6 (by decide) ?_
    refine lv_icmp_le (tgt := 21) hx hb dX0_needShares_8 (by decide) (fun h2 => absurd ⟨h1, h2⟩ ha0) (fun h2 => ?_)
    exact x0_throw (cls := xIA) (text := "shares is not 1 to 64") Fx hl0 hE hS hex hlocks (by decide +kernel) (by decide +kernel) (by decide +kernel) (by decide +kernel) (by decide +kernel) hl.1 dX0_needShares_11 dX0_needShares_14 dX0_needShares_15 dX0_needShares_17 dX0_needShares_20 (Nat.le_of_ble_eq_true rfl) (Nat.le_of_ble_eq_true rfl) (Nat.le_of_ble_eq_true rfl) (Nat.le_of_ble_eq_true rfl) (fun t ht => ⟨rfl, ht⟩) nin (Nat.le_refl _) (Nat.le_refl _)
set_option maxHeartbeats 4000000 in
set_option maxRecDepth 100000 in
theorem m_X0_needPassengers (l : Launch) {D : va_G} {ci cz : ClassId} {cj : ClassId × ClassId} {q : Nat → Nat} {F P : Nat} {g : Nat → Nat → Int32} (hF : F ≤ 6) (hP12 : P ≤ 12) (a : Int32) (ha0 : inB 1 200 a) : Met l yX0_needPassengers wsX0_needPassengers ({ frames := 0, cells := 0, slots := 0, locals := 0 } : Room) (va_Pc [.int a] (B0 D ci cz cj q F P g)) (RQ none) 0 0 none_ := by
  refine Met.ofR (cc := cX0_needPassengers) (maxL := 1) (ret := none) (by decide) rfl (Nat.le_of_ble_eq_true rfl) ?_
  intro pg en s m bl mt cd ls Fx hr hlocks hB hl
  obtain ⟨hP, hK, hE⟩ := hB
  have hl : lv_has ls 1 [(0, .int a)] := hl
  have Fx : CallFix pg m cd cX0_needPassengers 1 s _ wsX0_needPassengers RX0 := Fx
  have hx := Fx.1
  have hb := Fx.2.1
  have hS : va_S (aw q 8) s.heap s.heap [] := va_S.rf
  have hP : va_P D vwCl (w0 ci cz q F P g) s.heap := hP
  refine lv_iload_n hx hb dX0_needPassengers_0 rfl (lv_at hl 0 rfl) ?_
  refine lv_iconst (v := nI 1) hx hb dX0_needPassengers_1 (by decide) ?_
  refine lv_icmp_lt (tgt := 12) hx hb dX0_needPassengers_2 (by decide) (fun h1 => absurd h1 (Int32.not_lt.mpr ha0.1)) (fun h1 => ?_)
  refine lv_iload_n hx hb dX0_needPassengers_5 rfl (lv_at hl 0 rfl) ?_
  refine lv_sipush (v := nI 200) hx hb dX0_needPassengers_6 (by decide) ?_
  refine lv_icmp_le (tgt := 22) hx hb dX0_needPassengers_9 (by decide) (fun h2 => ?_) (fun h2 => absurd ha0.2 h2)
  exact r_vret hx hb hr hlocks dX0_needPassengers_22
set_option maxHeartbeats 4000000 in
set_option maxRecDepth 100000 in
theorem m_X0_needPassengers_x (l : Launch) (hl0 : l.stackTraces = false) {D : va_G} {ci cz : ClassId} {cj : ClassId × ClassId} {q : Nat → Nat} {F P : Nat} {g : Nat → Nat → Int32} (hF : F ≤ 6) (hP12 : P ≤ 12) (a : Int32) (ha0 : ¬ (inB 1 200 a)) : vx_Met l yX0_needPassengers wsX0_needPassengers ({ frames := 6, cells := 1, slots := 6, locals := 82 } : Room) (va_Pc [.int a] (B0 D ci cz cj q F P g)) FF (XQ xIA) 1 6 none_ := by
  refine vx_ofX (cc := cX0_needPassengers) (maxL := 1) (ret := none) (by decide) rfl (Nat.le_of_ble_eq_true rfl) ?_
  intro pg en s m bl mt cd ls Fx hr hlocks hex hB hl
  obtain ⟨hP, hK, hE⟩ := hB
  have hl : lv_has ls 1 [(0, .int a)] := hl
  have Fx : CallFix pg m cd cX0_needPassengers 1 s _ wsX0_needPassengers RX0 := Fx
  have hx := Fx.1
  have hb := Fx.2.1
  have hS : va_S (aw q 8) s.heap s.heap [] := va_S.rf
  have hP : va_P D vwCl (w0 ci cz q F P g) s.heap := hP
  refine lv_iload_n hx hb dX0_needPassengers_0 rfl (lv_at hl 0 rfl) ?_
  refine lv_iconst (v := nI 1) hx hb dX0_needPassengers_1 (by decide) ?_
  refine lv_icmp_lt (tgt := 12) hx hb dX0_needPassengers_2 (by decide) (fun h1 => ?_) (fun h1 => ?_)
  · exact x0_throw (cls := xIA) (text := "passengers is not 1 to 200") Fx hl0 hE hS hex hlocks (by decide +kernel) (by decide +kernel) (by decide +kernel) (by decide +kernel) (by decide +kernel) hl.1 dX0_needPassengers_12 dX0_needPassengers_15 dX0_needPassengers_16 dX0_needPassengers_18 dX0_needPassengers_21 (Nat.le_of_ble_eq_true rfl) (Nat.le_of_ble_eq_true rfl) (Nat.le_of_ble_eq_true rfl) (Nat.le_of_ble_eq_true rfl) (fun t ht => ⟨rfl, ht⟩) nin (Nat.le_refl _) (Nat.le_refl _)
  · have h1 := Int32.not_lt.mp h1
    refine lv_iload_n hx hb dX0_needPassengers_5 rfl (lv_at hl 0 rfl) ?_
    refine lv_sipush (v := nI 200) hx hb dX0_needPassengers_6 (by decide) ?_
    refine lv_icmp_le (tgt := 22) hx hb dX0_needPassengers_9 (by decide) (fun h2 => absurd ⟨h1, h2⟩ ha0) (fun h2 => ?_)
    exact x0_throw (cls := xIA) (text := "passengers is not 1 to 200") Fx hl0 hE hS hex hlocks (by decide +kernel) (by decide +kernel) (by decide +kernel) (by decide +kernel) (by decide +kernel) hl.1 dX0_needPassengers_12 dX0_needPassengers_15 dX0_needPassengers_16 dX0_needPassengers_18 dX0_needPassengers_21 (Nat.le_of_ble_eq_true rfl) (Nat.le_of_ble_eq_true rfl) (Nat.le_of_ble_eq_true rfl) (Nat.le_of_ble_eq_true rfl) (fun t ht => ⟨rfl, ht⟩) nin (Nat.le_refl _) (Nat.le_refl _)
set_option maxHeartbeats 4000000 in
set_option maxRecDepth 100000 in
theorem m_X0_needAlive (l : Launch) {D : va_G} {ci cz : ClassId} {cj : ClassId × ClassId} {q : Nat → Nat} {F P : Nat} {g : Nat → Nat → Int32} (hF : F ≤ 6) (hP12 : P ≤ 12) (k : Nat) (ha0 : k < P) (ha1 : lv g k = true) : Met l yX0_needAlive wsX0_needAlive ({ frames := 0, cells := 0, slots := 0, locals := 0 } : Room) (va_Pc [.ref (q 0), .int (nI k)] (B0 D ci cz cj q F P g)) (RQ none) 0 0 none_ := by
  refine Met.ofR (cc := cX0_needAlive) (maxL := 2) (ret := none) (by decide) rfl (Nat.le_of_ble_eq_true rfl) ?_
  intro pg en s m bl mt cd ls Fx hr hlocks hB hl
  obtain ⟨hP, hK, hE⟩ := hB
  have hl : lv_has ls 2 [(0, .ref (q 0)), (1, .int (nI k))] := hl
  have Fx : CallFix pg m cd cX0_needAlive 2 s _ wsX0_needAlive RX0 := Fx
  have hx := Fx.1
  have hb := Fx.2.1
  have hin : ∀ w ∈ wsX00, w ∈ wsX0_needAlive := by decide +kernel
  have hS : va_S (aw q 8) s.heap s.heap [] := va_S.rf
  have hP : va_P D vwCl (w0 ci cz q F P g) s.heap := hP
  refine lv_aload_n hx hb dX0_needAlive_0 rfl (lv_at hl 0 rfl) ?_
  refine r_get Fx hin hK hP 0 rfl 5 (by decide) (by decide +kernel) rfl rfl dX0_needAlive_1 ?_
  refine lv_iload_n hx hb dX0_needAlive_4 rfl (lv_at hl 1 rfl) ?_
  refine r_alive Fx hK hP (i := k) (by omega) (by omega) dX0_needAlive_5 ?_
  refine b_if_ne (tgt := 19) hx hb dX0_needAlive_6 (by decide) (fun h1 => ?_) (fun h1 => absurd (ha1.symm.trans h1) (by decide))
  exact r_vret hx hb hr hlocks dX0_needAlive_19
set_option maxHeartbeats 4000000 in
set_option maxRecDepth 100000 in
theorem m_X0_needAlive_x (l : Launch) (hl0 : l.stackTraces = false) {D : va_G} {ci cz : ClassId} {cj : ClassId × ClassId} {q : Nat → Nat} {F P : Nat} {g : Nat → Nat → Int32} (hF : F ≤ 6) (hP12 : P ≤ 12) (k : Nat) (ha0 : k < P) (ha1 : ¬ (lv g k = true)) : vx_Met l yX0_needAlive wsX0_needAlive ({ frames := 6, cells := 1, slots := 6, locals := 82 } : Room) (va_Pc [.ref (q 0), .int (nI k)] (B0 D ci cz cj q F P g)) FF (XQ xIS) 1 6 none_ := by
  refine vx_ofX (cc := cX0_needAlive) (maxL := 2) (ret := none) (by decide) rfl (Nat.le_of_ble_eq_true rfl) ?_
  intro pg en s m bl mt cd ls Fx hr hlocks hex hB hl
  obtain ⟨hP, hK, hE⟩ := hB
  have hl : lv_has ls 2 [(0, .ref (q 0)), (1, .int (nI k))] := hl
  have Fx : CallFix pg m cd cX0_needAlive 2 s _ wsX0_needAlive RX0 := Fx
  have hx := Fx.1
  have hb := Fx.2.1
  have hin : ∀ w ∈ wsX00, w ∈ wsX0_needAlive := by decide +kernel
  have hS : va_S (aw q 8) s.heap s.heap [] := va_S.rf
  have hP : va_P D vwCl (w0 ci cz q F P g) s.heap := hP
  refine lv_aload_n hx hb dX0_needAlive_0 rfl (lv_at hl 0 rfl) ?_
  refine r_get Fx hin hK hP 0 rfl 5 (by decide) (by decide +kernel) rfl rfl dX0_needAlive_1 ?_
  refine lv_iload_n hx hb dX0_needAlive_4 rfl (lv_at hl 1 rfl) ?_
  refine r_alive Fx hK hP (i := k) (by omega) (by omega) dX0_needAlive_5 ?_
  refine b_if_ne (tgt := 19) hx hb dX0_needAlive_6 (by decide) (fun h1 => absurd h1 ha1) (fun h1 => ?_)
  exact x0_throw (cls := xIS) (text := "this person is dead") Fx hl0 hE hS hex hlocks (by decide +kernel) (by decide +kernel) (by decide +kernel) (by decide +kernel) (by decide +kernel) hl.1 dX0_needAlive_9 dX0_needAlive_12 dX0_needAlive_13 dX0_needAlive_15 dX0_needAlive_18 (Nat.le_of_ble_eq_true rfl) (Nat.le_of_ble_eq_true rfl) (Nat.le_of_ble_eq_true rfl) (Nat.le_of_ble_eq_true rfl) (fun t ht => ⟨rfl, ht⟩) nin (Nat.le_refl _) (Nat.le_refl _)
set_option maxHeartbeats 4000000 in
set_option maxRecDepth 100000 in
theorem m_X0_needRoomForPerson (l : Launch) {D : va_G} {ci cz : ClassId} {cj : ClassId × ClassId} {q : Nat → Nat} {F P : Nat} {g : Nat → Nat → Int32} (hF : F ≤ 6) (hP12 : P ≤ 12) (ha0 : P < 12) : Met l yX0_needRoomForPerson wsX0_needRoomForPerson ({ frames := 0, cells := 0, slots := 0, locals := 0 } : Room) (va_Pc [.ref (q 0)] (B0 D ci cz cj q F P g)) (RQ none) 0 0 none_ := by
  refine Met.ofR (cc := cX0_needRoomForPerson) (maxL := 1) (ret := none) (by decide) rfl (Nat.le_of_ble_eq_true rfl) ?_
  intro pg en s m bl mt cd ls Fx hr hlocks hB hl
  obtain ⟨hP, hK, hE⟩ := hB
  have hl : lv_has ls 1 [(0, .ref (q 0))] := hl
  have Fx : CallFix pg m cd cX0_needRoomForPerson 1 s _ wsX0_needRoomForPerson RX0 := Fx
  have hx := Fx.1
  have hb := Fx.2.1
  have hin : ∀ w ∈ wsX00, w ∈ wsX0_needRoomForPerson := by decide +kernel
  have hS : va_S (aw q 8) s.heap s.heap [] := va_S.rf
  have hP : va_P D vwCl (w0 ci cz q F P g) s.heap := hP
  refine lv_aload_n hx hb dX0_needRoomForPerson_0 rfl (lv_at hl 0 rfl) ?_
  refine r_get Fx hin hK hP 0 rfl 4 (by decide) (by decide +kernel) rfl rfl dX0_needRoomForPerson_1 ?_
  refine lv_bipush (v := nI 12) hx hb dX0_needRoomForPerson_4 (by decide) ?_
  refine n_icmp_lt (tgt := 19) hx hb (by omega) (by omega) dX0_needRoomForPerson_6 (by decide) (fun h1 => ?_) (fun h1 => by omega)
  exact r_vret hx hb hr hlocks dX0_needRoomForPerson_19
set_option maxHeartbeats 4000000 in
set_option maxRecDepth 100000 in
theorem m_X0_needRoomForPerson_x (l : Launch) (hl0 : l.stackTraces = false) {D : va_G} {ci cz : ClassId} {cj : ClassId × ClassId} {q : Nat → Nat} {F P : Nat} {g : Nat → Nat → Int32} (hF : F ≤ 6) (hP12 : P ≤ 12) (ha0 : ¬ (P < 12)) : vx_Met l yX0_needRoomForPerson wsX0_needRoomForPerson ({ frames := 6, cells := 1, slots := 6, locals := 82 } : Room) (va_Pc [.ref (q 0)] (B0 D ci cz cj q F P g)) FF (XQ xIS) 1 6 none_ := by
  refine vx_ofX (cc := cX0_needRoomForPerson) (maxL := 1) (ret := none) (by decide) rfl (Nat.le_of_ble_eq_true rfl) ?_
  intro pg en s m bl mt cd ls Fx hr hlocks hex hB hl
  obtain ⟨hP, hK, hE⟩ := hB
  have hl : lv_has ls 1 [(0, .ref (q 0))] := hl
  have Fx : CallFix pg m cd cX0_needRoomForPerson 1 s _ wsX0_needRoomForPerson RX0 := Fx
  have hx := Fx.1
  have hb := Fx.2.1
  have hin : ∀ w ∈ wsX00, w ∈ wsX0_needRoomForPerson := by decide +kernel
  have hS : va_S (aw q 8) s.heap s.heap [] := va_S.rf
  have hP : va_P D vwCl (w0 ci cz q F P g) s.heap := hP
  refine lv_aload_n hx hb dX0_needRoomForPerson_0 rfl (lv_at hl 0 rfl) ?_
  refine r_get Fx hin hK hP 0 rfl 4 (by decide) (by decide +kernel) rfl rfl dX0_needRoomForPerson_1 ?_
  refine lv_bipush (v := nI 12) hx hb dX0_needRoomForPerson_4 (by decide) ?_
  refine n_icmp_lt (tgt := 19) hx hb (by omega) (by omega) dX0_needRoomForPerson_6 (by decide) (fun h1 => by omega) (fun h1 => ?_)
  exact x0_throw (cls := xIS) (text := "there are 12 people") Fx hl0 hE hS hex hlocks (by decide +kernel) (by decide +kernel) (by decide +kernel) (by decide +kernel) (by decide +kernel) hl.1 dX0_needRoomForPerson_9 dX0_needRoomForPerson_12 dX0_needRoomForPerson_13 dX0_needRoomForPerson_15 dX0_needRoomForPerson_18 (Nat.le_of_ble_eq_true rfl) (Nat.le_of_ble_eq_true rfl) (Nat.le_of_ble_eq_true rfl) (Nat.le_of_ble_eq_true rfl) (fun t ht => ⟨rfl, ht⟩) nin (Nat.le_refl _) (Nat.le_refl _)
set_option maxHeartbeats 4000000 in
set_option maxRecDepth 100000 in
theorem m_X0_needSale (l : Launch) {D : va_G} {ci cz : ClassId} {cj : ClassId × ClassId} {q : Nat → Nat} {F P : Nat} {g : Nat → Nat → Int32} (hF : F ≤ 6) (hP12 : P ≤ 12) (a : Nat) (b : Nat) (f : Nat) (w : Nat) (ha0 : a < P) (ha1 : b < P) (ha2 : f < F) (ha3 : w < 4) : Met l yX0_needSale wsX0_needSale ({ frames := 1, cells := 0, slots := 0, locals := 21 } : Room) (va_Pc [.ref (q 0), .int (nI a), .int (nI b), .int (nI f), .int (nI w)] (B0 D ci cz cj q F P g)) (RQ none) 0 0 none_ := by
  refine Met.ofR (cc := cX0_needSale) (maxL := 5) (ret := none) (by decide) rfl (Nat.le_of_ble_eq_true rfl) ?_
  intro pg en s m bl mt cd ls Fx hr hlocks hB hl
  obtain ⟨hP, hK, hE⟩ := hB
  have hl : lv_has ls 5 [(0, .ref (q 0)), (1, .int (nI a)), (2, .int (nI b)), (3, .int (nI f)), (4, .int (nI w))] := hl
  have Fx : CallFix pg m cd cX0_needSale 5 s _ wsX0_needSale RX0 := Fx
  have hx := Fx.1
  have hb := Fx.2.1
  have hS : va_S (aw q 8) s.heap s.heap [] := va_S.rf
  have hP : va_P D vwCl (w0 ci cz q F P g) s.heap := hP
  refine lv_aload_n hx hb dX0_needSale_0 rfl (lv_at hl 0 rfl) ?_
  refine lv_iload_n hx hb dX0_needSale_1 rfl (lv_at hl 1 rfl) ?_
  refine r_callR (rest := []) Fx (m_X0_needPerson l (D := D) (ci := ci) (cz := cz) (cj := cj) (q := q) (F := F) (P := P) (g := g) hF hP12 a (by omega)) (cwV 1 Fx.2.2.2.2 gX0_needSale_X0_needPerson rfl rfl rfl (by decide +kernel) ⟨Nat.le_of_ble_eq_true rfl, Nat.le_of_ble_eq_true rfl⟩) BW.bl (va_recv hK hP (ci := 0) (q0 := 0) rfl rfl) (BW.at hP hK hE hS) rfl hl.1 rfl (Nat.le_of_ble_eq_true rfl) dX0_needSale_2 ⟨Nat.zero_le _, Nat.zero_le _⟩ ?_
  refine lv_aload_n hx hb dX0_needSale_5 rfl (lv_at hl 0 rfl) ?_
  refine lv_iload_n hx hb dX0_needSale_6 rfl (lv_at hl 2 rfl) ?_
  refine r_callR (rest := []) Fx (m_X0_needPerson l (D := D) (ci := ci) (cz := cz) (cj := cj) (q := q) (F := F) (P := P) (g := g) hF hP12 b (by omega)) (cwV 1 Fx.2.2.2.2 gX0_needSale_X0_needPerson rfl rfl rfl (by decide +kernel) ⟨Nat.le_of_ble_eq_true rfl, Nat.le_of_ble_eq_true rfl⟩) BW.bl (va_recv hK hP (ci := 0) (q0 := 0) rfl rfl) (BW.at hP hK hE hS) rfl hl.1 rfl (Nat.le_of_ble_eq_true rfl) dX0_needSale_7 ⟨Nat.zero_le _, Nat.zero_le _⟩ ?_
  refine lv_aload_n hx hb dX0_needSale_10 rfl (lv_at hl 0 rfl) ?_
  refine lv_iload_n hx hb dX0_needSale_11 rfl (lv_at hl 3 rfl) ?_
  refine r_callR (rest := []) Fx (m_X0_needFerry l (D := D) (ci := ci) (cz := cz) (cj := cj) (q := q) (F := F) (P := P) (g := g) hF hP12 f (by omega)) (cwV 1 Fx.2.2.2.2 gX0_needSale_X0_needFerry rfl rfl rfl (by decide +kernel) ⟨Nat.le_of_ble_eq_true rfl, Nat.le_of_ble_eq_true rfl⟩) BW.bl (va_recv hK hP (ci := 0) (q0 := 0) rfl rfl) (BW.at hP hK hE hS) rfl hl.1 rfl (Nat.le_of_ble_eq_true rfl) dX0_needSale_12 ⟨Nat.zero_le _, Nat.zero_le _⟩ ?_
  refine lv_iload hx hb dX0_needSale_15 (lv_at hl 4 rfl) ?_
  refine r_callRS (rest := []) Fx (m_X0_needWatch l (D := D) (ci := ci) (cz := cz) (cj := cj) (q := q) (F := F) (P := P) (g := g) hF hP12 w (by omega)) (va_cwS 1 Fx.2.2.2.2 gX0_needSale_X0_needWatch rfl rfl rfl (by decide +kernel) ⟨Nat.le_of_ble_eq_true rfl, Nat.le_of_ble_eq_true rfl⟩) BW.bl (BW.at hP hK hE hS) rfl hl.1 rfl (Nat.le_of_ble_eq_true rfl) dX0_needSale_17 ⟨Nat.zero_le _, Nat.zero_le _⟩ ?_
  exact r_vret hx hb hr hlocks dX0_needSale_20
set_option maxHeartbeats 4000000 in
set_option maxRecDepth 100000 in
theorem m_X0_needSale_x (l : Launch) (hl0 : l.stackTraces = false) {D : va_G} {ci cz : ClassId} {cj : ClassId × ClassId} {q : Nat → Nat} {F P : Nat} {g : Nat → Nat → Int32} (hF : F ≤ 6) (hP12 : P ≤ 12) (a : Int32) (b : Int32) (f : Int32) (w : Int32) (ha0 : ¬ (inR a P ∧ inR b P ∧ inR f F ∧ inR w 4)) : vx_Met l yX0_needSale wsX0_needSale ({ frames := 7, cells := 1, slots := 6, locals := 103 } : Room) (va_Pc [.ref (q 0), .int a, .int b, .int f, .int w] (B0 D ci cz cj q F P g)) FF (XQ xIO) 1 6 none_ := by
  refine vx_ofX (cc := cX0_needSale) (maxL := 5) (ret := none) (by decide) rfl (Nat.le_of_ble_eq_true rfl) ?_
  intro pg en s m bl mt cd ls Fx hr hlocks hex hB hl
  obtain ⟨hP, hK, hE⟩ := hB
  have hl : lv_has ls 5 [(0, .ref (q 0)), (1, .int a), (2, .int b), (3, .int f), (4, .int w)] := hl
  have Fx : CallFix pg m cd cX0_needSale 5 s _ wsX0_needSale RX0 := Fx
  have hx := Fx.1
  have hb := Fx.2.1
  have hS : va_S (aw q 8) s.heap s.heap [] := va_S.rf
  have hP : va_P D vwCl (w0 ci cz q F P g) s.heap := hP
  refine lv_aload_n hx hb dX0_needSale_0 rfl (lv_at hl 0 rfl) ?_
  refine lv_iload_n hx hb dX0_needSale_1 rfl (lv_at hl 1 rfl) ?_
  by_cases h1 : inR a P
  rotate_left
  · refine r_callX (rest := []) Fx (m_X0_needPerson_x l hl0 (D := D) (ci := ci) (cz := cz) (cj := cj) (q := q) (F := F) (P := P) (g := g) hF hP12 a h1) (cwV 1 Fx.2.2.2.2 gX0_needSale_X0_needPerson rfl rfl rfl (by decide +kernel) ⟨Nat.le_of_ble_eq_true rfl, Nat.le_of_ble_eq_true rfl⟩) BW.bl (va_recv hK hP (ci := 0) (q0 := 0) rfl rfl) (BW.at hP hK hE hS) rfl hl.1 rfl (Nat.le_of_ble_eq_true rfl) dX0_needSale_2 ⟨Nat.le_of_ble_eq_true rfl, Nat.le_of_ble_eq_true rfl⟩ (fun ce q9 H1 hh hce hcv hcl => ?_)
    exact x_out hex hlocks hh hce hcv hcl (Nat.le_refl _) (Nat.le_refl _)
  obtain ⟨ja, h2, rfl⟩ := inR_of h1 (by omega)
  have h3 : ix (nI ja) = ja := ix_nI (by omega)
  refine r_callR (rest := []) Fx (m_X0_needPerson l (D := D) (ci := ci) (cz := cz) (cj := cj) (q := q) (F := F) (P := P) (g := g) hF hP12 ja (by omega)) (cwV 1 Fx.2.2.2.2 gX0_needSale_X0_needPerson rfl rfl rfl (by decide +kernel) ⟨Nat.le_of_ble_eq_true rfl, Nat.le_of_ble_eq_true rfl⟩) BW.bl (va_recv hK hP (ci := 0) (q0 := 0) rfl rfl) (BW.at hP hK hE hS) rfl hl.1 rfl (Nat.le_of_ble_eq_true rfl) dX0_needSale_2 ⟨Nat.zero_le _, Nat.zero_le _⟩ ?_
  refine lv_aload_n hx hb dX0_needSale_5 rfl (lv_at hl 0 rfl) ?_
  refine lv_iload_n hx hb dX0_needSale_6 rfl (lv_at hl 2 rfl) ?_
  by_cases h4 : inR b P
  rotate_left
  · refine r_callX (rest := []) Fx (m_X0_needPerson_x l hl0 (D := D) (ci := ci) (cz := cz) (cj := cj) (q := q) (F := F) (P := P) (g := g) hF hP12 b h4) (cwV 1 Fx.2.2.2.2 gX0_needSale_X0_needPerson rfl rfl rfl (by decide +kernel) ⟨Nat.le_of_ble_eq_true rfl, Nat.le_of_ble_eq_true rfl⟩) BW.bl (va_recv hK hP (ci := 0) (q0 := 0) rfl rfl) (BW.at hP hK hE hS) rfl hl.1 rfl (Nat.le_of_ble_eq_true rfl) dX0_needSale_7 ⟨Nat.le_of_ble_eq_true rfl, Nat.le_of_ble_eq_true rfl⟩ (fun ce q9 H1 hh hce hcv hcl => ?_)
    exact x_out hex hlocks hh hce hcv hcl (Nat.le_refl _) (Nat.le_refl _)
  obtain ⟨jb, h5, rfl⟩ := inR_of h4 (by omega)
  have h6 : ix (nI jb) = jb := ix_nI (by omega)
  refine r_callR (rest := []) Fx (m_X0_needPerson l (D := D) (ci := ci) (cz := cz) (cj := cj) (q := q) (F := F) (P := P) (g := g) hF hP12 jb (by omega)) (cwV 1 Fx.2.2.2.2 gX0_needSale_X0_needPerson rfl rfl rfl (by decide +kernel) ⟨Nat.le_of_ble_eq_true rfl, Nat.le_of_ble_eq_true rfl⟩) BW.bl (va_recv hK hP (ci := 0) (q0 := 0) rfl rfl) (BW.at hP hK hE hS) rfl hl.1 rfl (Nat.le_of_ble_eq_true rfl) dX0_needSale_7 ⟨Nat.zero_le _, Nat.zero_le _⟩ ?_
  refine lv_aload_n hx hb dX0_needSale_10 rfl (lv_at hl 0 rfl) ?_
  refine lv_iload_n hx hb dX0_needSale_11 rfl (lv_at hl 3 rfl) ?_
  by_cases h7 : inR f F
  rotate_left
  · refine r_callX (rest := []) Fx (m_X0_needFerry_x l hl0 (D := D) (ci := ci) (cz := cz) (cj := cj) (q := q) (F := F) (P := P) (g := g) hF hP12 f h7) (cwV 1 Fx.2.2.2.2 gX0_needSale_X0_needFerry rfl rfl rfl (by decide +kernel) ⟨Nat.le_of_ble_eq_true rfl, Nat.le_of_ble_eq_true rfl⟩) BW.bl (va_recv hK hP (ci := 0) (q0 := 0) rfl rfl) (BW.at hP hK hE hS) rfl hl.1 rfl (Nat.le_of_ble_eq_true rfl) dX0_needSale_12 ⟨Nat.le_of_ble_eq_true rfl, Nat.le_of_ble_eq_true rfl⟩ (fun ce q9 H1 hh hce hcv hcl => ?_)
    exact x_out hex hlocks hh hce hcv hcl (Nat.le_refl _) (Nat.le_refl _)
  obtain ⟨jf, h8, rfl⟩ := inR_of h7 (by omega)
  have h9 : ix (nI jf) = jf := ix_nI (by omega)
  refine r_callR (rest := []) Fx (m_X0_needFerry l (D := D) (ci := ci) (cz := cz) (cj := cj) (q := q) (F := F) (P := P) (g := g) hF hP12 jf (by omega)) (cwV 1 Fx.2.2.2.2 gX0_needSale_X0_needFerry rfl rfl rfl (by decide +kernel) ⟨Nat.le_of_ble_eq_true rfl, Nat.le_of_ble_eq_true rfl⟩) BW.bl (va_recv hK hP (ci := 0) (q0 := 0) rfl rfl) (BW.at hP hK hE hS) rfl hl.1 rfl (Nat.le_of_ble_eq_true rfl) dX0_needSale_12 ⟨Nat.zero_le _, Nat.zero_le _⟩ ?_
  refine lv_iload hx hb dX0_needSale_15 (lv_at hl 4 rfl) ?_
  by_cases h10 : inR w 4
  rotate_left
  · refine r_callXS (rest := []) Fx (m_X0_needWatch_x l hl0 (D := D) (ci := ci) (cz := cz) (cj := cj) (q := q) (F := F) (P := P) (g := g) hF hP12 w h10) (va_cwS 1 Fx.2.2.2.2 gX0_needSale_X0_needWatch rfl rfl rfl (by decide +kernel) ⟨Nat.le_of_ble_eq_true rfl, Nat.le_of_ble_eq_true rfl⟩) BW.bl (BW.at hP hK hE hS) rfl hl.1 rfl (Nat.le_of_ble_eq_true rfl) dX0_needSale_17 ⟨Nat.le_of_ble_eq_true rfl, Nat.le_of_ble_eq_true rfl⟩ (fun ce q9 H1 hh hce hcv hcl => ?_)
    exact x_out hex hlocks hh hce hcv hcl (Nat.le_refl _) (Nat.le_refl _)
  obtain ⟨jw, h11, rfl⟩ := inR_of h10 (by omega)
  have h12 : ix (nI jw) = jw := ix_nI (by omega)
  refine r_callRS (rest := []) Fx (m_X0_needWatch l (D := D) (ci := ci) (cz := cz) (cj := cj) (q := q) (F := F) (P := P) (g := g) hF hP12 jw (by omega)) (va_cwS 1 Fx.2.2.2.2 gX0_needSale_X0_needWatch rfl rfl rfl (by decide +kernel) ⟨Nat.le_of_ble_eq_true rfl, Nat.le_of_ble_eq_true rfl⟩) BW.bl (BW.at hP hK hE hS) rfl hl.1 rfl (Nat.le_of_ble_eq_true rfl) dX0_needSale_17 ⟨Nat.zero_le _, Nat.zero_le _⟩ ?_
  exact absurd ⟨h1, h4, h7, h10⟩ ha0
set_option maxHeartbeats 4000000 in
set_option maxRecDepth 100000 in
theorem m_X0_otherOwnerHas (l : Launch) {D : va_G} {ci cz : ClassId} {cj : ClassId × ClassId} {q : Nat → Nat} {F P : Nat} {g : Nat → Nat → Int32} (hF : F ≤ 6) (hP12 : P ≤ 12) (x : Int32) (k : Nat) (f : Nat) (w : Nat) (ha0 : k < P) (ha1 : f < 6) (ha2 : w < 4) : Met l yX0_otherOwnerHas wsX0_otherOwnerHas ({ frames := 2, cells := 0, slots := 0, locals := 45 } : Room) (va_Pc [.ref (q 0), .int x, .int (nI k), .int (nI f), .int (nI w)] (B0 D ci cz cj q F P g)) (RQ (some (.int (bI (sOth g P k f w x))))) 0 0 none_ := by
  refine Met.ofR (cc := cX0_otherOwnerHas) (maxL := 6) (ret := (some .boolean)) (by decide) rfl (Nat.le_of_ble_eq_true rfl) ?_
  intro pg en s m bl mt cd ls Fx hr hlocks hB hl
  obtain ⟨hP, hK, hE⟩ := hB
  have hl : lv_has ls 6 [(0, .ref (q 0)), (1, .int x), (2, .int (nI k)), (3, .int (nI f)), (4, .int (nI w))] := hl
  have Fx : CallFix pg m cd cX0_otherOwnerHas 6 s _ wsX0_otherOwnerHas RX0 := Fx
  have hx := Fx.1
  have hb := Fx.2.1
  have hin : ∀ w ∈ wsX00, w ∈ wsX0_otherOwnerHas := by decide +kernel
  have hS : va_S (aw q 8) s.heap s.heap [] := va_S.rf
  have hP : va_P D vwCl (w0 ci cz q F P g) s.heap := hP
  refine lv_iconst (v := nI 0) hx hb dX0_otherOwnerHas_0 (by decide) ?_
  refine lv_istore (lv' := [(5, .int (nI 0)), (0, .ref (q 0)), (1, .int x), (2, .int (nI k)), (3, .int (nI f)), (4, .int (nI w))]) hx hb dX0_otherOwnerHas_1 hl (by decide) rfl (fun ls hl => ?_)
  refine rloop (nL := 6) (N := P) (fun i => ∀ z, z < i → (fun z => decide (z ≠ k) && (decide (0 < own g f w z) && decide (x ≤ g 4 z))) z = false) (fun i => [(0, .ref (q 0)), (1, .int x), (2, .int (nI k)), (3, .int (nI f)), (4, .int (nI w)), (5, .int (nI i))]) (all_0) (lv_sub hl [1, 2, 3, 4, 5, 0] rfl) ?_ ?_
  · intro h1 ls hl
    have hl : lv_has ls 6 [(0, .ref (q 0)), (1, .int x), (2, .int (nI k)), (3, .int (nI f)), (4, .int (nI w)), (5, .int (nI P))] := hl
    refine lv_iload hx hb dX0_otherOwnerHas_3 (lv_at hl 5 rfl) ?_
    refine lv_aload_n hx hb dX0_otherOwnerHas_5 rfl (lv_at hl 0 rfl) ?_
    refine r_get Fx hin hK hP 0 rfl 4 (by decide) (by decide +kernel) rfl rfl dX0_otherOwnerHas_6 ?_
    refine n_icmp_ge (tgt := 49) hx hb (by omega) (by omega) dX0_otherOwnerHas_9 (by decide) (fun h2 => ?_) (fun h2 => by omega)
    refine lv_iconst (v := nI 0) hx hb dX0_otherOwnerHas_49 (by decide) ?_
    exact r_zret hx hb hr hlocks (by rw [sOth, an_none h1]; rfl) dX0_otherOwnerHas_50
  · intro i h4 h3 ih3 ls hl
    have hl : lv_has ls 6 [(0, .ref (q 0)), (1, .int x), (2, .int (nI k)), (3, .int (nI f)), (4, .int (nI w)), (5, .int (nI i))] := hl
    refine lv_iload hx hb dX0_otherOwnerHas_3 (lv_at hl 5 rfl) ?_
    refine lv_aload_n hx hb dX0_otherOwnerHas_5 rfl (lv_at hl 0 rfl) ?_
    refine r_get Fx hin hK hP 0 rfl 4 (by decide) (by decide +kernel) rfl rfl dX0_otherOwnerHas_6 ?_
    refine n_icmp_ge (tgt := 49) hx hb (by omega) (by omega) dX0_otherOwnerHas_9 (by decide) (fun h5 => by omega) (fun h5 => ?_)
    refine lv_iload hx hb dX0_otherOwnerHas_12 (lv_at hl 5 rfl) ?_
    refine lv_iload_n hx hb dX0_otherOwnerHas_14 rfl (lv_at hl 2 rfl) ?_
    refine n_icmp_eq (tgt := 43) hx hb (by omega) (by omega) dX0_otherOwnerHas_15 (by decide) (fun h6 => ?_) (fun h6 => ?_)
    · refine lv_iinc (v := nI (i + 1)) (lv' := [(5, .int (nI (i + 1))), (0, .ref (q 0)), (1, .int x), (2, .int (nI k)), (3, .int (nI f)), (4, .int (nI w))]) hx hb dX0_otherOwnerHas_43 hl (k := 5) rfl (nI_inc _ 1) (by decide) rfl (fun ls hl => ?_)
      refine lv_goto (tgt := 3) hx hb dX0_otherOwnerHas_46 (by decide) ?_
      exact ih3 (all_s h3 (by simp [Int32.not_lt, Int32.not_le, h3, h4, h5, h6])) _ (lv_sub hl [1, 2, 3, 4, 5, 0] rfl)
    · refine lv_aload_n hx hb dX0_otherOwnerHas_18 rfl (lv_at hl 0 rfl) ?_
      refine lv_iload_n hx hb dX0_otherOwnerHas_19 rfl (lv_at hl 3 rfl) ?_
      refine lv_iload hx hb dX0_otherOwnerHas_20 (lv_at hl 4 rfl) ?_
      refine lv_iload hx hb dX0_otherOwnerHas_22 (lv_at hl 5 rfl) ?_
      refine r_callR (rest := []) Fx (m_X0_owns l (D := D) (ci := ci) (cz := cz) (cj := cj) (q := q) (F := F) (P := P) (g := g) hF hP12 f w i (by omega) (by omega) (by omega)) (cwV 3 Fx.2.2.2.2 gX0_otherOwnerHas_X0_owns rfl rfl rfl (by decide +kernel) ⟨Nat.le_of_ble_eq_true rfl, Nat.le_of_ble_eq_true rfl⟩) BW.bl (va_recv hK hP (ci := 0) (q0 := 0) rfl rfl) (BW.at hP hK hE hS) rfl hl.1 rfl (Nat.le_of_ble_eq_true rfl) dX0_otherOwnerHas_24 ⟨Nat.zero_le _, Nat.zero_le _⟩ ?_
      refine lv_if_le (tgt := 43) hx hb dX0_otherOwnerHas_27 (by decide) (fun h7 => ?_) (fun h7 => ?_)
      · refine lv_iinc (v := nI (i + 1)) (lv' := [(5, .int (nI (i + 1))), (0, .ref (q 0)), (1, .int x), (2, .int (nI k)), (3, .int (nI f)), (4, .int (nI w))]) hx hb dX0_otherOwnerHas_43 hl (k := 5) rfl (nI_inc _ 1) (by decide) rfl (fun ls hl => ?_)
        refine lv_goto (tgt := 3) hx hb dX0_otherOwnerHas_46 (by decide) ?_
        exact ih3 (all_s h3 (by simp [Int32.not_lt, Int32.not_le, h3, h4, h5, h6, h7, Int32.not_lt.mpr h7])) _ (lv_sub hl [1, 2, 3, 4, 5, 0] rfl)
      · have h7 := Int32.not_le.mp h7
        refine lv_aload_n hx hb dX0_otherOwnerHas_30 rfl (lv_at hl 0 rfl) ?_
        refine r_get Fx hin hK hP 0 rfl 6 (by decide) (by decide +kernel) rfl rfl dX0_otherOwnerHas_31 ?_
        refine lv_iload hx hb dX0_otherOwnerHas_34 (lv_at hl 5 rfl) ?_
        refine r_iald Fx hK hP 5 0 rfl rfl (i := i) (by omega) (by decide) dX0_otherOwnerHas_36 ?_
        refine lv_iload_n hx hb dX0_otherOwnerHas_37 rfl (lv_at hl 1 rfl) ?_
        refine lv_icmp_lt (tgt := 43) hx hb dX0_otherOwnerHas_38 (by decide) (fun h8 => ?_) (fun h8 => ?_)
        · refine lv_iinc (v := nI (i + 1)) (lv' := [(5, .int (nI (i + 1))), (0, .ref (q 0)), (1, .int x), (2, .int (nI k)), (3, .int (nI f)), (4, .int (nI w))]) hx hb dX0_otherOwnerHas_43 hl (k := 5) rfl (nI_inc _ 1) (by decide) rfl (fun ls hl => ?_)
          refine lv_goto (tgt := 3) hx hb dX0_otherOwnerHas_46 (by decide) ?_
          exact ih3 (all_s h3 (by simp [Int32.not_lt, Int32.not_le, h3, h4, h5, h6, h7, Int32.not_le.mpr h7, h8, Int32.not_le.mpr h8])) _ (lv_sub hl [1, 2, 3, 4, 5, 0] rfl)
        · have h8 := Int32.not_lt.mp h8
          refine lv_iconst (v := nI 1) hx hb dX0_otherOwnerHas_41 (by decide) ?_
          exact r_zret hx hb hr hlocks (by rw [sOth, an_some (k := i) (by simp [Int32.not_lt, Int32.not_le, h3, h4, h5, h6, h7, Int32.not_le.mpr h7, h8, Int32.not_lt.mpr h8]) h4]; rfl) dX0_otherOwnerHas_42
set_option maxHeartbeats 4000000 in
set_option maxRecDepth 100000 in
theorem m_X0_mayBuy (l : Launch) {D : va_G} {ci cz : ClassId} {cj : ClassId × ClassId} {q : Nat → Nat} {F P : Nat} {g : Nat → Nat → Int32} (hF : F ≤ 6) (hP12 : P ≤ 12) (b : Nat) (k : Nat) (f : Nat) (w : Nat) (ha0 : b < P) (ha1 : k < P) (ha2 : f < 6) (ha3 : w < 4) : Met l yX0_mayBuy wsX0_mayBuy ({ frames := 3, cells := 0, slots := 0, locals := 70 } : Room) (va_Pc [.ref (q 0), .int (nI b), .int (nI k), .int (nI f), .int (nI w)] (B0 D ci cz cj q F P g)) (RQ (some (.int (bI (sMay g P b k f w))))) 0 0 none_ := by
  refine Met.ofR (cc := cX0_mayBuy) (maxL := 6) (ret := (some .boolean)) (by decide) rfl (Nat.le_of_ble_eq_true rfl) ?_
  intro pg en s m bl mt cd ls Fx hr hlocks hB hl
  obtain ⟨hP, hK, hE⟩ := hB
  have hl : lv_has ls 6 [(0, .ref (q 0)), (1, .int (nI b)), (2, .int (nI k)), (3, .int (nI f)), (4, .int (nI w))] := hl
  have Fx : CallFix pg m cd cX0_mayBuy 6 s _ wsX0_mayBuy RX0 := Fx
  have hx := Fx.1
  have hb := Fx.2.1
  have hin : ∀ w ∈ wsX00, w ∈ wsX0_mayBuy := by decide +kernel
  have hS : va_S (aw q 8) s.heap s.heap [] := va_S.rf
  have hP : va_P D vwCl (w0 ci cz q F P g) s.heap := hP
  refine lv_aload_n hx hb dX0_mayBuy_0 rfl (lv_at hl 0 rfl) ?_
  refine lv_iload_n hx hb dX0_mayBuy_1 rfl (lv_at hl 2 rfl) ?_
  refine lv_iload_n hx hb dX0_mayBuy_2 rfl (lv_at hl 3 rfl) ?_
  refine lv_iload hx hb dX0_mayBuy_3 (lv_at hl 4 rfl) ?_
  refine r_callR (rest := []) Fx (m_X0_priceOf l (D := D) (ci := ci) (cz := cz) (cj := cj) (q := q) (F := F) (P := P) (g := g) hF hP12 k f w (by omega) (by omega) (by omega)) (cwV 3 Fx.2.2.2.2 gX0_mayBuy_X0_priceOf rfl rfl rfl (by decide +kernel) ⟨Nat.le_of_ble_eq_true rfl, Nat.le_of_ble_eq_true rfl⟩) BW.bl (va_recv hK hP (ci := 0) (q0 := 0) rfl rfl) (BW.at hP hK hE hS) rfl hl.1 rfl (Nat.le_of_ble_eq_true rfl) dX0_mayBuy_5 ⟨Nat.zero_le _, Nat.zero_le _⟩ ?_
  refine lv_istore (lv' := [(5, .int (sPri g f w k)), (0, .ref (q 0)), (1, .int (nI b)), (2, .int (nI k)), (3, .int (nI f)), (4, .int (nI w))]) hx hb dX0_mayBuy_8 hl (by decide) rfl (fun ls hl => ?_)
  refine lv_aload_n hx hb dX0_mayBuy_10 rfl (lv_at hl 1 rfl) ?_
  refine r_get Fx hin hK hP 0 rfl 5 (by decide) (by decide +kernel) rfl rfl dX0_mayBuy_11 ?_
  refine lv_iload_n hx hb dX0_mayBuy_14 rfl (lv_at hl 2 rfl) ?_
  refine r_alive Fx hK hP (i := b) (by omega) (by omega) dX0_mayBuy_15 ?_
  refine b_if_eq (tgt := 35) hx hb dX0_mayBuy_16 (by decide) (fun h1 => ?_) (fun h1 => ?_)
  · refine lv_iconst (v := nI 0) hx hb dX0_mayBuy_35 (by decide) ?_
    exact r_zret hx hb hr hlocks (by simp [sMay, bI, Int32.not_lt, Int32.not_le, h1]) dX0_mayBuy_36
  · refine lv_iload_n hx hb dX0_mayBuy_19 rfl (lv_at hl 2 rfl) ?_
    refine lv_iload_n hx hb dX0_mayBuy_20 rfl (lv_at hl 3 rfl) ?_
    refine n_icmp_eq (tgt := 35) hx hb (by omega) (by omega) dX0_mayBuy_21 (by decide) (fun h2 => ?_) (fun h2 => ?_)
    · refine lv_iconst (v := nI 0) hx hb dX0_mayBuy_35 (by decide) ?_
      exact r_zret hx hb hr hlocks (by simp [sMay, bI, Int32.not_lt, Int32.not_le, h1, h2]) dX0_mayBuy_36
    · refine lv_aload_n hx hb dX0_mayBuy_24 rfl (lv_at hl 1 rfl) ?_
      refine r_get Fx hin hK hP 0 rfl 6 (by decide) (by decide +kernel) rfl rfl dX0_mayBuy_25 ?_
      refine lv_iload_n hx hb dX0_mayBuy_28 rfl (lv_at hl 2 rfl) ?_
      refine r_iald Fx hK hP 5 0 rfl rfl (i := b) (by omega) (by decide) dX0_mayBuy_29 ?_
      refine lv_iload hx hb dX0_mayBuy_30 (lv_at hl 0 rfl) ?_
      refine lv_icmp_ge (tgt := 37) hx hb dX0_mayBuy_32 (by decide) (fun h3 => ?_) (fun h3 => ?_)
      · refine lv_aload_n hx hb dX0_mayBuy_37 rfl (lv_at hl 1 rfl) ?_
        refine lv_iload_n hx hb dX0_mayBuy_38 rfl (lv_at hl 4 rfl) ?_
        refine lv_iload hx hb dX0_mayBuy_39 (lv_at hl 5 rfl) ?_
        refine lv_iload_n hx hb dX0_mayBuy_41 rfl (lv_at hl 3 rfl) ?_
        refine r_callR (rest := []) Fx (m_X0_owns l (D := D) (ci := ci) (cz := cz) (cj := cj) (q := q) (F := F) (P := P) (g := g) hF hP12 f w k (by omega) (by omega) (by omega)) (cwV 3 Fx.2.2.2.2 gX0_mayBuy_X0_owns rfl rfl rfl (by decide +kernel) ⟨Nat.le_of_ble_eq_true rfl, Nat.le_of_ble_eq_true rfl⟩) BW.bl (va_recv hK hP (ci := 0) (q0 := 0) rfl rfl) (BW.at hP hK hE hS) rfl hl.1 rfl (Nat.le_of_ble_eq_true rfl) dX0_mayBuy_42 ⟨Nat.zero_le _, Nat.zero_le _⟩ ?_
        refine lv_if_ne (tgt := 50) hx hb dX0_mayBuy_45 (by decide) (fun h4 => ?_) (fun h4 => ?_)
        · refine lv_aload_n hx hb dX0_mayBuy_50 rfl (lv_at hl 1 rfl) ?_
          refine lv_iload_n hx hb dX0_mayBuy_51 rfl (lv_at hl 4 rfl) ?_
          refine lv_iload hx hb dX0_mayBuy_52 (lv_at hl 5 rfl) ?_
          refine lv_iload_n hx hb dX0_mayBuy_54 rfl (lv_at hl 2 rfl) ?_
          refine r_callR (rest := []) Fx (m_X0_owns l (D := D) (ci := ci) (cz := cz) (cj := cj) (q := q) (F := F) (P := P) (g := g) hF hP12 f w b (by omega) (by omega) (by omega)) (cwV 3 Fx.2.2.2.2 gX0_mayBuy_X0_owns rfl rfl rfl (by decide +kernel) ⟨Nat.le_of_ble_eq_true rfl, Nat.le_of_ble_eq_true rfl⟩) BW.bl (va_recv hK hP (ci := 0) (q0 := 0) rfl rfl) (BW.at hP hK hE hS) rfl hl.1 rfl (Nat.le_of_ble_eq_true rfl) dX0_mayBuy_55 ⟨Nat.zero_le _, Nat.zero_le _⟩ ?_
          refine lv_if_gt (tgt := 74) hx hb dX0_mayBuy_58 (by decide) (fun h5 => ?_) (fun h5 => ?_)
          · refine lv_iconst (v := nI 1) hx hb dX0_mayBuy_74 (by decide) ?_
            refine lv_goto (tgt := 79) hx hb dX0_mayBuy_75 (by decide) ?_
            exact r_zret hx hb hr hlocks (by simp [sMay, bI, Int32.not_lt, Int32.not_le, h1, h2, h3, Int32.not_lt.mpr h3, h4, h5, Int32.not_le.mpr h5]) dX0_mayBuy_79
          · have h5 := Int32.not_lt.mp h5
            refine lv_aload_n hx hb dX0_mayBuy_61 rfl (lv_at hl 1 rfl) ?_
            refine lv_iload hx hb dX0_mayBuy_62 (lv_at hl 0 rfl) ?_
            refine lv_iload_n hx hb dX0_mayBuy_64 rfl (lv_at hl 3 rfl) ?_
            refine lv_iload_n hx hb dX0_mayBuy_65 rfl (lv_at hl 4 rfl) ?_
            refine lv_iload hx hb dX0_mayBuy_66 (lv_at hl 5 rfl) ?_
            refine r_callR (rest := []) Fx (m_X0_otherOwnerHas l (D := D) (ci := ci) (cz := cz) (cj := cj) (q := q) (F := F) (P := P) (g := g) hF hP12 (sPri g f w k) k f w (by omega) (by omega) (by omega)) (cwV 4 Fx.2.2.2.2 gX0_mayBuy_X0_otherOwnerHas rfl rfl rfl (by decide +kernel) ⟨Nat.le_of_ble_eq_true rfl, Nat.le_of_ble_eq_true rfl⟩) BW.bl (va_recv hK hP (ci := 0) (q0 := 0) rfl rfl) (BW.at hP hK hE hS) rfl hl.1 rfl (Nat.le_of_ble_eq_true rfl) dX0_mayBuy_68 ⟨Nat.zero_le _, Nat.zero_le _⟩ ?_
            refine b_if_ne (tgt := 78) hx hb dX0_mayBuy_71 (by decide) (fun h6 => ?_) (fun h6 => ?_)
            · refine lv_iconst (v := nI 0) hx hb dX0_mayBuy_78 (by decide) ?_
              exact r_zret hx hb hr hlocks (by simp [sMay, bI, Int32.not_lt, Int32.not_le, h1, h2, h3, Int32.not_lt.mpr h3, h4, h5, Int32.not_lt.mpr h5, h6]) dX0_mayBuy_79
            · refine lv_iconst (v := nI 1) hx hb dX0_mayBuy_74 (by decide) ?_
              refine lv_goto (tgt := 79) hx hb dX0_mayBuy_75 (by decide) ?_
              exact r_zret hx hb hr hlocks (by simp [sMay, bI, Int32.not_lt, Int32.not_le, h1, h2, h3, Int32.not_lt.mpr h3, h4, h5, Int32.not_lt.mpr h5, h6]) dX0_mayBuy_79
        · refine lv_iconst (v := nI 0) hx hb dX0_mayBuy_48 (by decide) ?_
          exact r_zret hx hb hr hlocks (by simp [sMay, bI, Int32.not_lt, Int32.not_le, h1, h2, h3, Int32.not_lt.mpr h3, h4]) dX0_mayBuy_49
      · have h3 := Int32.not_le.mp h3
        refine lv_iconst (v := nI 0) hx hb dX0_mayBuy_35 (by decide) ?_
        exact r_zret hx hb hr hlocks (by simp [sMay, bI, Int32.not_lt, Int32.not_le, h1, h2, h3, Int32.not_le.mpr h3]) dX0_mayBuy_36
set_option maxHeartbeats 4000000 in
set_option maxRecDepth 100000 in
theorem m_X0_fareOf (l : Launch) {D : va_G} {ci cz : ClassId} {cj : ClassId × ClassId} {q : Nat → Nat} {F P : Nat} {g : Nat → Nat → Int32} (hF : F ≤ 6) (hP12 : P ≤ 12) (k : Nat) (f : Nat) (w : Nat) (x : Int32) (ha0 : k < 12) (ha1 : f < 6) (ha2 : w < 4) : Met l yX0_fareOf wsX0_fareOf ({ frames := 2, cells := 0, slots := 0, locals := 45 } : Room) (va_Pc [.ref (q 0), .int (nI k), .int (nI f), .int (nI w), .int x] (B0 D ci cz cj q F P g)) (RQ (some (.int (sFar g f w k x)))) 0 0 none_ := by
  refine Met.ofR (cc := cX0_fareOf) (maxL := 5) (ret := (some .int)) (by decide) rfl (Nat.le_of_ble_eq_true rfl) ?_
  intro pg en s m bl mt cd ls Fx hr hlocks hB hl
  obtain ⟨hP, hK, hE⟩ := hB
  have hl : lv_has ls 5 [(0, .ref (q 0)), (1, .int (nI k)), (2, .int (nI f)), (3, .int (nI w)), (4, .int x)] := hl
  have Fx : CallFix pg m cd cX0_fareOf 5 s _ wsX0_fareOf RX0 := Fx
  have hx := Fx.1
  have hb := Fx.2.1
  have hin : ∀ w ∈ wsX00, w ∈ wsX0_fareOf := by decide +kernel
  have hS : va_S (aw q 8) s.heap s.heap [] := va_S.rf
  have hP : va_P D vwCl (w0 ci cz q F P g) s.heap := hP
  refine lv_aload_n hx hb dX0_fareOf_0 rfl (lv_at hl 0 rfl) ?_
  refine r_get Fx hin hK hP 0 rfl 1 (by decide) (by decide +kernel) rfl rfl dX0_fareOf_1 ?_
  refine lv_iload_n hx hb dX0_fareOf_4 rfl (lv_at hl 2 rfl) ?_
  refine r_iald Fx hK hP 1 0 rfl rfl (i := f) (by omega) (by decide) dX0_fareOf_5 ?_
  refine lv_iload hx hb dX0_fareOf_6 (lv_at hl 4 rfl) ?_
  refine lv_imul hx hb dX0_fareOf_8 ?_
  refine lv_aload_n hx hb dX0_fareOf_9 rfl (lv_at hl 0 rfl) ?_
  refine lv_iload_n hx hb dX0_fareOf_10 rfl (lv_at hl 2 rfl) ?_
  refine lv_iload_n hx hb dX0_fareOf_11 rfl (lv_at hl 3 rfl) ?_
  refine lv_iload_n hx hb dX0_fareOf_12 rfl (lv_at hl 1 rfl) ?_
  refine r_callR (rest := [.int ((g 0 f) * x)]) Fx (m_X0_owns l (D := D) (ci := ci) (cz := cz) (cj := cj) (q := q) (F := F) (P := P) (g := g) hF hP12 f w k (by omega) (by omega) (by omega)) (cwV 3 Fx.2.2.2.2 gX0_fareOf_X0_owns rfl rfl rfl (by decide +kernel) ⟨Nat.le_of_ble_eq_true rfl, Nat.le_of_ble_eq_true rfl⟩) BW.bl (va_recv hK hP (ci := 0) (q0 := 0) rfl rfl) (BW.at hP hK hE hS) rfl hl.1 rfl (Nat.le_of_ble_eq_true rfl) dX0_fareOf_13 ⟨Nat.zero_le _, Nat.zero_le _⟩ ?_
  refine lv_imul hx hb dX0_fareOf_16 ?_
  refine lv_bipush (v := nI 64) hx hb dX0_fareOf_17 (by decide) ?_
  refine lv_idiv hx hb dX0_fareOf_19 (by decide) ?_
  exact r_iret hx hb hr hlocks (rfl) dX0_fareOf_20
set_option maxHeartbeats 4000000 in
set_option maxRecDepth 100000 in
theorem m_X0_hasLivingChild (l : Launch) {D : va_G} {ci cz : ClassId} {cj : ClassId × ClassId} {q : Nat → Nat} {F P : Nat} {g : Nat → Nat → Int32} (hF : F ≤ 6) (hP12 : P ≤ 12) (k : Nat) : Met l yX0_hasLivingChild wsX0_hasLivingChild ({ frames := 0, cells := 0, slots := 0, locals := 0 } : Room) (va_Pc [.ref (q 0), .int (nI k)] (B0 D ci cz cj q F P g)) (RQ (some (.int (bI (sHlc g P k))))) 0 0 none_ := by
  refine Met.ofR (cc := cX0_hasLivingChild) (maxL := 3) (ret := (some .boolean)) (by decide) rfl (Nat.le_of_ble_eq_true rfl) ?_
  intro pg en s m bl mt cd ls Fx hr hlocks hB hl
  obtain ⟨hP, hK, hE⟩ := hB
  have hl : lv_has ls 3 [(0, .ref (q 0)), (1, .int (nI k))] := hl
  have Fx : CallFix pg m cd cX0_hasLivingChild 3 s _ wsX0_hasLivingChild RX0 := Fx
  have hx := Fx.1
  have hb := Fx.2.1
  have hin : ∀ w ∈ wsX00, w ∈ wsX0_hasLivingChild := by decide +kernel
  have hS : va_S (aw q 8) s.heap s.heap [] := va_S.rf
  have hP : va_P D vwCl (w0 ci cz q F P g) s.heap := hP
  refine lv_iconst (v := nI 0) hx hb dX0_hasLivingChild_0 (by decide) ?_
  refine lv_istore_n (lv' := [(2, .int (nI 0)), (0, .ref (q 0)), (1, .int (nI k))]) hx hb dX0_hasLivingChild_1 rfl hl (by decide) rfl (fun ls hl => ?_)
  refine rloop (nL := 3) (N := P) (fun i => ∀ z, z < i → (fun z => lv g z && decide (g 6 z = nI k)) z = false) (fun i => [(0, .ref (q 0)), (1, .int (nI k)), (2, .int (nI i))]) (all_0) (lv_sub hl [1, 2, 0] rfl) ?_ ?_
  · intro h1 ls hl
    have hl : lv_has ls 3 [(0, .ref (q 0)), (1, .int (nI k)), (2, .int (nI P))] := hl
    refine lv_iload_n hx hb dX0_hasLivingChild_2 rfl (lv_at hl 2 rfl) ?_
    refine lv_aload_n hx hb dX0_hasLivingChild_3 rfl (lv_at hl 0 rfl) ?_
    refine r_get Fx hin hK hP 0 rfl 4 (by decide) (by decide +kernel) rfl rfl dX0_hasLivingChild_4 ?_
    refine n_icmp_ge (tgt := 37) hx hb (by omega) (by omega) dX0_hasLivingChild_7 (by decide) (fun h2 => ?_) (fun h2 => by omega)
    refine lv_iconst (v := nI 0) hx hb dX0_hasLivingChild_37 (by decide) ?_
    exact r_zret hx hb hr hlocks (by rw [sHlc, an_none h1]; rfl) dX0_hasLivingChild_38
  · intro i h4 h3 ih2 ls hl
    have hl : lv_has ls 3 [(0, .ref (q 0)), (1, .int (nI k)), (2, .int (nI i))] := hl
    refine lv_iload_n hx hb dX0_hasLivingChild_2 rfl (lv_at hl 2 rfl) ?_
    refine lv_aload_n hx hb dX0_hasLivingChild_3 rfl (lv_at hl 0 rfl) ?_
    refine r_get Fx hin hK hP 0 rfl 4 (by decide) (by decide +kernel) rfl rfl dX0_hasLivingChild_4 ?_
    refine n_icmp_ge (tgt := 37) hx hb (by omega) (by omega) dX0_hasLivingChild_7 (by decide) (fun h5 => by omega) (fun h5 => ?_)
    refine lv_aload_n hx hb dX0_hasLivingChild_10 rfl (lv_at hl 0 rfl) ?_
    refine r_get Fx hin hK hP 0 rfl 5 (by decide) (by decide +kernel) rfl rfl dX0_hasLivingChild_11 ?_
    refine lv_iload_n hx hb dX0_hasLivingChild_14 rfl (lv_at hl 2 rfl) ?_
    refine r_alive Fx hK hP (i := i) (by omega) (by omega) dX0_hasLivingChild_15 ?_
    refine b_if_eq (tgt := 31) hx hb dX0_hasLivingChild_16 (by decide) (fun h6 => ?_) (fun h6 => ?_)
    · refine lv_iinc (v := nI (i + 1)) (lv' := [(2, .int (nI (i + 1))), (0, .ref (q 0)), (1, .int (nI k))]) hx hb dX0_hasLivingChild_31 hl (k := 2) rfl (nI_inc _ 1) (by decide) rfl (fun ls hl => ?_)
      refine lv_goto (tgt := 2) hx hb dX0_hasLivingChild_34 (by decide) ?_
      exact ih2 (all_s h3 (by simp [Int32.not_lt, Int32.not_le, h3, h4, h5, h6])) _ (lv_sub hl [1, 2, 0] rfl)
    · refine lv_aload_n hx hb dX0_hasLivingChild_19 rfl (lv_at hl 0 rfl) ?_
      refine r_get Fx hin hK hP 0 rfl 8 (by decide) (by decide +kernel) rfl rfl dX0_hasLivingChild_20 ?_
      refine lv_iload_n hx hb dX0_hasLivingChild_23 rfl (lv_at hl 2 rfl) ?_
      refine r_iald Fx hK hP 7 0 rfl rfl (i := i) (by omega) (by decide) dX0_hasLivingChild_24 ?_
      refine lv_iload_n hx hb dX0_hasLivingChild_25 rfl (lv_at hl 1 rfl) ?_
      refine lv_icmp_ne (tgt := 31) hx hb dX0_hasLivingChild_26 (by decide) (fun h7 => ?_) (fun h7 => ?_)
      · refine lv_iinc (v := nI (i + 1)) (lv' := [(2, .int (nI (i + 1))), (0, .ref (q 0)), (1, .int (nI k))]) hx hb dX0_hasLivingChild_31 hl (k := 2) rfl (nI_inc _ 1) (by decide) rfl (fun ls hl => ?_)
        refine lv_goto (tgt := 2) hx hb dX0_hasLivingChild_34 (by decide) ?_
        exact ih2 (all_s h3 (by simp [Int32.not_lt, Int32.not_le, h3, h4, h5, h6, h7])) _ (lv_sub hl [1, 2, 0] rfl)
      · refine lv_iconst (v := nI 1) hx hb dX0_hasLivingChild_29 (by decide) ?_
        exact r_zret hx hb hr hlocks (by rw [sHlc, an_some (k := i) (by simp [h3, h4, h5, h6, h7]) h4]; rfl) dX0_hasLivingChild_30
set_option maxHeartbeats 4000000 in
set_option maxRecDepth 100000 in
theorem m_X0_isHeir (l : Launch) {D : va_G} {ci cz : ClassId} {cj : ClassId × ClassId} {q : Nat → Nat} {F P : Nat} {g : Nat → Nat → Int32} (hF : F ≤ 6) (hP12 : P ≤ 12) (o : Nat) (k : Nat) (ha0 : o < P) (ha1 : k < P) : Met l yX0_isHeir wsX0_isHeir ({ frames := 1, cells := 0, slots := 0, locals := 22 } : Room) (va_Pc [.ref (q 0), .int (nI o), .int (nI k)] (B0 D ci cz cj q F P g)) (RQ (some (.int (bI (sIsH g P o k))))) 0 0 none_ := by
  refine Met.ofR (cc := cX0_isHeir) (maxL := 3) (ret := (some .boolean)) (by decide) rfl (Nat.le_of_ble_eq_true rfl) ?_
  intro pg en s m bl mt cd ls Fx hr hlocks hB hl
  obtain ⟨hP, hK, hE⟩ := hB
  have hl : lv_has ls 3 [(0, .ref (q 0)), (1, .int (nI o)), (2, .int (nI k))] := hl
  have Fx : CallFix pg m cd cX0_isHeir 3 s _ wsX0_isHeir RX0 := Fx
  have hx := Fx.1
  have hb := Fx.2.1
  have hin : ∀ w ∈ wsX00, w ∈ wsX0_isHeir := by decide +kernel
  have hS : va_S (aw q 8) s.heap s.heap [] := va_S.rf
  have hP : va_P D vwCl (w0 ci cz q F P g) s.heap := hP
  refine lv_aload_n hx hb dX0_isHeir_0 rfl (lv_at hl 0 rfl) ?_
  refine r_get Fx hin hK hP 0 rfl 5 (by decide) (by decide +kernel) rfl rfl dX0_isHeir_1 ?_
  refine lv_iload_n hx hb dX0_isHeir_4 rfl (lv_at hl 1 rfl) ?_
  refine r_alive Fx hK hP (i := o) (by omega) (by omega) dX0_isHeir_5 ?_
  refine b_if_eq (tgt := 14) hx hb dX0_isHeir_6 (by decide) (fun h1 => ?_) (fun h1 => ?_)
  · refine lv_iconst (v := nI 0) hx hb dX0_isHeir_14 (by decide) ?_
    exact r_zret hx hb hr hlocks (by simp [sIsH, bI, h1]) dX0_isHeir_15
  · refine lv_iload_n hx hb dX0_isHeir_9 rfl (lv_at hl 1 rfl) ?_
    refine lv_iload_n hx hb dX0_isHeir_10 rfl (lv_at hl 2 rfl) ?_
    refine n_icmp_ne (tgt := 16) hx hb (by omega) (by omega) dX0_isHeir_11 (by decide) (fun h2 => ?_) (fun h2 => ?_)
    · refine lv_aload_n hx hb dX0_isHeir_16 rfl (lv_at hl 0 rfl) ?_
      refine lv_iload_n hx hb dX0_isHeir_17 rfl (lv_at hl 2 rfl) ?_
      refine r_callR (rest := []) Fx (m_X0_hasLivingChild l (D := D) (ci := ci) (cz := cz) (cj := cj) (q := q) (F := F) (P := P) (g := g) hF hP12 k ) (cwV 1 Fx.2.2.2.2 gX0_isHeir_X0_hasLivingChild rfl rfl rfl (by decide +kernel) ⟨Nat.le_of_ble_eq_true rfl, Nat.le_of_ble_eq_true rfl⟩) BW.bl (va_recv hK hP (ci := 0) (q0 := 0) rfl rfl) (BW.at hP hK hE hS) rfl hl.1 rfl (Nat.le_of_ble_eq_true rfl) dX0_isHeir_18 ⟨Nat.zero_le _, Nat.zero_le _⟩ ?_
      refine b_if_eq (tgt := 40) hx hb dX0_isHeir_21 (by decide) (fun h3 => ?_) (fun h3 => ?_)
      · refine lv_aload_n hx hb dX0_isHeir_40 rfl (lv_at hl 0 rfl) ?_
        refine r_get Fx hin hK hP 0 rfl 8 (by decide) (by decide +kernel) rfl rfl dX0_isHeir_41 ?_
        refine lv_iload_n hx hb dX0_isHeir_44 rfl (lv_at hl 2 rfl) ?_
        refine r_iald Fx hK hP 7 0 rfl rfl (i := k) (by omega) (by decide) dX0_isHeir_45 ?_
        refine lv_iconst (v := -1) hx hb dX0_isHeir_46 (by decide) ?_
        refine lv_icmp_eq (tgt := 69) hx hb dX0_isHeir_47 (by decide) (fun h4 => ?_) (fun h4 => ?_)
        · refine lv_iconst (v := nI 0) hx hb dX0_isHeir_69 (by decide) ?_
          exact r_zret hx hb hr hlocks (by simp [sIsH, bI, h1, h2, h3, h4]) dX0_isHeir_70
        · refine lv_aload_n hx hb dX0_isHeir_50 rfl (lv_at hl 0 rfl) ?_
          refine r_get Fx hin hK hP 0 rfl 8 (by decide) (by decide +kernel) rfl rfl dX0_isHeir_51 ?_
          refine lv_iload_n hx hb dX0_isHeir_54 rfl (lv_at hl 1 rfl) ?_
          refine r_iald Fx hK hP 7 0 rfl rfl (i := o) (by omega) (by decide) dX0_isHeir_55 ?_
          refine lv_aload_n hx hb dX0_isHeir_56 rfl (lv_at hl 0 rfl) ?_
          refine r_get Fx hin hK hP 0 rfl 8 (by decide) (by decide +kernel) rfl rfl dX0_isHeir_57 ?_
          refine lv_iload_n hx hb dX0_isHeir_60 rfl (lv_at hl 2 rfl) ?_
          refine r_iald Fx hK hP 7 0 rfl rfl (i := k) (by omega) (by decide) dX0_isHeir_61 ?_
          refine lv_icmp_ne (tgt := 69) hx hb dX0_isHeir_62 (by decide) (fun h5 => ?_) (fun h5 => ?_)
          · refine lv_iconst (v := nI 0) hx hb dX0_isHeir_69 (by decide) ?_
            exact r_zret hx hb hr hlocks (by simp [sIsH, bI, h1, h2, h3, h4, h5]) dX0_isHeir_70
          · refine lv_iconst (v := nI 1) hx hb dX0_isHeir_65 (by decide) ?_
            refine lv_goto (tgt := 70) hx hb dX0_isHeir_66 (by decide) ?_
            exact r_zret hx hb hr hlocks (by simp [sIsH, bI, h1, h2, h3, h4, h5]) dX0_isHeir_70
      · refine lv_aload_n hx hb dX0_isHeir_24 rfl (lv_at hl 0 rfl) ?_
        refine r_get Fx hin hK hP 0 rfl 8 (by decide) (by decide +kernel) rfl rfl dX0_isHeir_25 ?_
        refine lv_iload_n hx hb dX0_isHeir_28 rfl (lv_at hl 1 rfl) ?_
        refine r_iald Fx hK hP 7 0 rfl rfl (i := o) (by omega) (by decide) dX0_isHeir_29 ?_
        refine lv_iload_n hx hb dX0_isHeir_30 rfl (lv_at hl 2 rfl) ?_
        refine lv_icmp_ne (tgt := 38) hx hb dX0_isHeir_31 (by decide) (fun h6 => ?_) (fun h6 => ?_)
        · refine lv_iconst (v := nI 0) hx hb dX0_isHeir_38 (by decide) ?_
          exact r_zret hx hb hr hlocks (by simp [sIsH, bI, h1, h2, h3, h6]) dX0_isHeir_39
        · refine lv_iconst (v := nI 1) hx hb dX0_isHeir_34 (by decide) ?_
          refine lv_goto (tgt := 39) hx hb dX0_isHeir_35 (by decide) ?_
          exact r_zret hx hb hr hlocks (by simp [sIsH, bI, h1, h2, h3, h6]) dX0_isHeir_39
    · refine lv_iconst (v := nI 0) hx hb dX0_isHeir_14 (by decide) ?_
      exact r_zret hx hb hr hlocks (by simp [sIsH, bI, h1, h2]) dX0_isHeir_15
set_option maxHeartbeats 4000000 in
set_option maxRecDepth 100000 in
theorem m_X0_countHeirsBelow (l : Launch) {D : va_G} {ci cz : ClassId} {cj : ClassId × ClassId} {q : Nat → Nat} {F P : Nat} {g : Nat → Nat → Int32} (hF : F ≤ 6) (hP12 : P ≤ 12) (n : Nat) (k : Nat) (ha0 : n ≤ P) (ha1 : k < P) : Met l yX0_countHeirsBelow wsX0_countHeirsBelow ({ frames := 2, cells := 0, slots := 0, locals := 44 } : Room) (va_Pc [.ref (q 0), .int (nI n), .int (nI k)] (B0 D ci cz cj q F P g)) (RQ (some (.int (nI (sCHB g P n k))))) 0 0 none_ := by
  refine Met.ofR (cc := cX0_countHeirsBelow) (maxL := 5) (ret := (some .int)) (by decide) rfl (Nat.le_of_ble_eq_true rfl) ?_
  intro pg en s m bl mt cd ls Fx hr hlocks hB hl
  obtain ⟨hP, hK, hE⟩ := hB
  have hl : lv_has ls 5 [(0, .ref (q 0)), (1, .int (nI n)), (2, .int (nI k))] := hl
  have Fx : CallFix pg m cd cX0_countHeirsBelow 5 s _ wsX0_countHeirsBelow RX0 := Fx
  have hx := Fx.1
  have hb := Fx.2.1
  have hS : va_S (aw q 8) s.heap s.heap [] := va_S.rf
  have hP : va_P D vwCl (w0 ci cz q F P g) s.heap := hP
  refine lv_iconst (v := nI 0) hx hb dX0_countHeirsBelow_0 (by decide) ?_
  refine lv_istore_n (lv' := [(3, .int (nI 0)), (0, .ref (q 0)), (1, .int (nI n)), (2, .int (nI k))]) hx hb dX0_countHeirsBelow_1 rfl hl (by decide) rfl (fun ls hl => ?_)
  refine lv_iconst (v := nI 0) hx hb dX0_countHeirsBelow_2 (by decide) ?_
  refine lv_istore (lv' := [(4, .int (nI 0)), (3, .int (nI 0)), (0, .ref (q 0)), (1, .int (nI n)), (2, .int (nI k))]) hx hb dX0_countHeirsBelow_3 hl (by decide) rfl (fun ls hl => ?_)
  refine rloop (nL := 5) (N := n) (fun _ => True) (fun i => [(0, .ref (q 0)), (1, .int (nI n)), (2, .int (nI k)), (3, .int (nI (cn (fun z => sIsH g P z k) i))), (4, .int (nI i))]) (trivial) (lv_sub hl [2, 3, 4, 1, 0] rfl) ?_ ?_
  · intro h1 ls hl
    have hl : lv_has ls 5 [(0, .ref (q 0)), (1, .int (nI n)), (2, .int (nI k)), (3, .int (nI (cn (fun z => sIsH g P z k) n))), (4, .int (nI n))] := hl
    refine lv_iload hx hb dX0_countHeirsBelow_5 (lv_at hl 4 rfl) ?_
    refine lv_iload_n hx hb dX0_countHeirsBelow_7 rfl (lv_at hl 1 rfl) ?_
    refine n_icmp_ge (tgt := 30) hx hb (by omega) (by omega) dX0_countHeirsBelow_8 (by decide) (fun h2 => ?_) (fun h2 => by omega)
    refine lv_iload_n hx hb dX0_countHeirsBelow_30 rfl (lv_at hl 3 rfl) ?_
    exact r_iret hx hb hr hlocks (rfl) dX0_countHeirsBelow_31
  · intro i h4 h3 ih5 ls hl
    have hl : lv_has ls 5 [(0, .ref (q 0)), (1, .int (nI n)), (2, .int (nI k)), (3, .int (nI (cn (fun z => sIsH g P z k) i))), (4, .int (nI i))] := hl
    refine lv_iload hx hb dX0_countHeirsBelow_5 (lv_at hl 4 rfl) ?_
    refine lv_iload_n hx hb dX0_countHeirsBelow_7 rfl (lv_at hl 1 rfl) ?_
    refine n_icmp_ge (tgt := 30) hx hb (by omega) (by omega) dX0_countHeirsBelow_8 (by decide) (fun h5 => by omega) (fun h5 => ?_)
    refine lv_aload_n hx hb dX0_countHeirsBelow_11 rfl (lv_at hl 0 rfl) ?_
    refine lv_iload hx hb dX0_countHeirsBelow_12 (lv_at hl 4 rfl) ?_
    refine lv_iload_n hx hb dX0_countHeirsBelow_14 rfl (lv_at hl 2 rfl) ?_
    refine r_callR (rest := []) Fx (m_X0_isHeir l (D := D) (ci := ci) (cz := cz) (cj := cj) (q := q) (F := F) (P := P) (g := g) hF hP12 i k (by omega) (by omega)) (cwV 2 Fx.2.2.2.2 gX0_countHeirsBelow_X0_isHeir rfl rfl rfl (by decide +kernel) ⟨Nat.le_of_ble_eq_true rfl, Nat.le_of_ble_eq_true rfl⟩) BW.bl (va_recv hK hP (ci := 0) (q0 := 0) rfl rfl) (BW.at hP hK hE hS) rfl hl.1 rfl (Nat.le_of_ble_eq_true rfl) dX0_countHeirsBelow_15 ⟨Nat.zero_le _, Nat.zero_le _⟩ ?_
    refine b_if_eq (tgt := 24) hx hb dX0_countHeirsBelow_18 (by decide) (fun h6 => ?_) (fun h6 => ?_)
    · refine lv_iinc (v := nI (i + 1)) (lv' := [(4, .int (nI (i + 1))), (0, .ref (q 0)), (1, .int (nI n)), (2, .int (nI k)), (3, .int (nI (cn (fun z => sIsH g P z k) i)))]) hx hb dX0_countHeirsBelow_24 hl (k := 4) rfl (nI_inc _ 1) (by decide) rfl (fun ls hl => ?_)
      refine lv_goto (tgt := 5) hx hb dX0_countHeirsBelow_27 (by decide) ?_
      have e3_ : nI (cn (fun z => sIsH g P z k) i) = nI (cn (fun z => sIsH g P z k) (i + 1)) := by simp [cn, h4, h5, h6]
      rw [e3_] at hl
      exact ih5 (trivial) _ (lv_sub hl [1, 2, 3, 4, 0] rfl)
    · refine lv_iinc (v := nI (cn (fun z => sIsH g P z k) i + 1)) (lv' := [(3, .int (nI (cn (fun z => sIsH g P z k) i + 1))), (0, .ref (q 0)), (1, .int (nI n)), (2, .int (nI k)), (4, .int (nI i))]) hx hb dX0_countHeirsBelow_21 hl (k := 3) rfl (nI_inc _ 1) (by decide) rfl (fun ls hl => ?_)
      refine lv_iinc (v := nI (i + 1)) (lv' := [(4, .int (nI (i + 1))), (3, .int (nI (cn (fun z => sIsH g P z k) i + 1))), (0, .ref (q 0)), (1, .int (nI n)), (2, .int (nI k))]) hx hb dX0_countHeirsBelow_24 hl (k := 4) rfl (nI_inc _ 1) (by decide) rfl (fun ls hl => ?_)
      refine lv_goto (tgt := 5) hx hb dX0_countHeirsBelow_27 (by decide) ?_
      have e3_ : nI (cn (fun z => sIsH g P z k) i + 1) = nI (cn (fun z => sIsH g P z k) (i + 1)) := by simp [cn, h4, h5, h6]
      rw [e3_] at hl
      exact ih5 (trivial) _ (lv_sub hl [2, 3, 4, 1, 0] rfl)
set_option maxHeartbeats 4000000 in
set_option maxRecDepth 100000 in
theorem m_X0_countHeirs (l : Launch) {D : va_G} {ci cz : ClassId} {cj : ClassId × ClassId} {q : Nat → Nat} {F P : Nat} {g : Nat → Nat → Int32} (hF : F ≤ 6) (hP12 : P ≤ 12) (k : Nat) (ha0 : k < P) : Met l yX0_countHeirs wsX0_countHeirs ({ frames := 3, cells := 0, slots := 0, locals := 68 } : Room) (va_Pc [.ref (q 0), .int (nI k)] (B0 D ci cz cj q F P g)) (RQ (some (.int (nI (sCHe g P k))))) 0 0 none_ := by
  refine Met.ofR (cc := cX0_countHeirs) (maxL := 2) (ret := (some .int)) (by decide) rfl (Nat.le_of_ble_eq_true rfl) ?_
  intro pg en s m bl mt cd ls Fx hr hlocks hB hl
  obtain ⟨hP, hK, hE⟩ := hB
  have hl : lv_has ls 2 [(0, .ref (q 0)), (1, .int (nI k))] := hl
  have Fx : CallFix pg m cd cX0_countHeirs 2 s _ wsX0_countHeirs RX0 := Fx
  have hx := Fx.1
  have hb := Fx.2.1
  have hin : ∀ w ∈ wsX00, w ∈ wsX0_countHeirs := by decide +kernel
  have hS : va_S (aw q 8) s.heap s.heap [] := va_S.rf
  have hP : va_P D vwCl (w0 ci cz q F P g) s.heap := hP
  refine lv_aload_n hx hb dX0_countHeirs_0 rfl (lv_at hl 0 rfl) ?_
  refine lv_aload_n hx hb dX0_countHeirs_1 rfl (lv_at hl 0 rfl) ?_
  refine r_get Fx hin hK hP 0 rfl 4 (by decide) (by decide +kernel) rfl rfl dX0_countHeirs_2 ?_
  refine lv_iload_n hx hb dX0_countHeirs_5 rfl (lv_at hl 1 rfl) ?_
  refine r_callR (rest := []) Fx (m_X0_countHeirsBelow l (D := D) (ci := ci) (cz := cz) (cj := cj) (q := q) (F := F) (P := P) (g := g) hF hP12 P k (by omega) (by omega)) (cwV 2 Fx.2.2.2.2 gX0_countHeirs_X0_countHeirsBelow rfl rfl rfl (by decide +kernel) ⟨Nat.le_of_ble_eq_true rfl, Nat.le_of_ble_eq_true rfl⟩) BW.bl (va_recv hK hP (ci := 0) (q0 := 0) rfl rfl) (BW.at hP hK hE hS) rfl hl.1 rfl (Nat.le_of_ble_eq_true rfl) dX0_countHeirs_6 ⟨Nat.zero_le _, Nat.zero_le _⟩ ?_
  exact r_iret hx hb hr hlocks (rfl) dX0_countHeirs_9
set_option maxHeartbeats 4000000 in
set_option maxRecDepth 100000 in
theorem m_X0_findHeir (l : Launch) {D : va_G} {ci cz : ClassId} {cj : ClassId × ClassId} {q : Nat → Nat} {F P : Nat} {g : Nat → Nat → Int32} (hF : F ≤ 6) (hP12 : P ≤ 12) (k : Nat) (x : Int32) (ha0 : k < P) : Met l yX0_findHeir wsX0_findHeir ({ frames := 2, cells := 0, slots := 0, locals := 44 } : Room) (va_Pc [.ref (q 0), .int (nI k), .int x] (B0 D ci cz cj q F P g)) (RQ (some (.int (sFH g P k x)))) 0 0 none_ := by
  refine Met.ofR (cc := cX0_findHeir) (maxL := 5) (ret := (some .int)) (by decide) rfl (Nat.le_of_ble_eq_true rfl) ?_
  intro pg en s m bl mt cd ls Fx hr hlocks hB hl
  obtain ⟨hP, hK, hE⟩ := hB
  have hl : lv_has ls 5 [(0, .ref (q 0)), (1, .int (nI k)), (2, .int x)] := hl
  have Fx : CallFix pg m cd cX0_findHeir 5 s _ wsX0_findHeir RX0 := Fx
  have hx := Fx.1
  have hb := Fx.2.1
  have hin : ∀ w ∈ wsX00, w ∈ wsX0_findHeir := by decide +kernel
  have hS : va_S (aw q 8) s.heap s.heap [] := va_S.rf
  have hP : va_P D vwCl (w0 ci cz q F P g) s.heap := hP
  refine lv_iconst (v := nI 0) hx hb dX0_findHeir_0 (by decide) ?_
  refine lv_istore_n (lv' := [(3, .int (nI 0)), (0, .ref (q 0)), (1, .int (nI k)), (2, .int x)]) hx hb dX0_findHeir_1 rfl hl (by decide) rfl (fun ls hl => ?_)
  refine lv_iconst (v := nI 0) hx hb dX0_findHeir_2 (by decide) ?_
  refine lv_istore (lv' := [(4, .int (nI 0)), (3, .int (nI 0)), (0, .ref (q 0)), (1, .int (nI k)), (2, .int x)]) hx hb dX0_findHeir_3 hl (by decide) rfl (fun ls hl => ?_)
  refine rloop (nL := 5) (N := P) (fun i => ∀ z, z < i → (fun z => sIsH g P z k && decide (nI (cn (fun z => sIsH g P z k) z) = x)) z = false) (fun i => [(0, .ref (q 0)), (1, .int (nI k)), (2, .int x), (3, .int (nI (cn (fun z => sIsH g P z k) i))), (4, .int (nI i))]) (all_0) (lv_sub hl [2, 3, 4, 1, 0] rfl) ?_ ?_
  · intro h1 ls hl
    have hl : lv_has ls 5 [(0, .ref (q 0)), (1, .int (nI k)), (2, .int x), (3, .int (nI (cn (fun z => sIsH g P z k) P))), (4, .int (nI P))] := hl
    refine lv_iload hx hb dX0_findHeir_5 (lv_at hl 4 rfl) ?_
    refine lv_aload_n hx hb dX0_findHeir_7 rfl (lv_at hl 0 rfl) ?_
    refine r_get Fx hin hK hP 0 rfl 4 (by decide) (by decide +kernel) rfl rfl dX0_findHeir_8 ?_
    refine n_icmp_ge (tgt := 41) hx hb (by omega) (by omega) dX0_findHeir_11 (by decide) (fun h2 => ?_) (fun h2 => by omega)
    refine lv_iconst (v := -1) hx hb dX0_findHeir_41 (by decide) ?_
    exact r_iret hx hb hr hlocks ((ff_none h1).symm) dX0_findHeir_42
  · intro i h4 h3 ih5 ls hl
    have hl : lv_has ls 5 [(0, .ref (q 0)), (1, .int (nI k)), (2, .int x), (3, .int (nI (cn (fun z => sIsH g P z k) i))), (4, .int (nI i))] := hl
    refine lv_iload hx hb dX0_findHeir_5 (lv_at hl 4 rfl) ?_
    refine lv_aload_n hx hb dX0_findHeir_7 rfl (lv_at hl 0 rfl) ?_
    refine r_get Fx hin hK hP 0 rfl 4 (by decide) (by decide +kernel) rfl rfl dX0_findHeir_8 ?_
    refine n_icmp_ge (tgt := 41) hx hb (by omega) (by omega) dX0_findHeir_11 (by decide) (fun h5 => by omega) (fun h5 => ?_)
    refine lv_aload_n hx hb dX0_findHeir_14 rfl (lv_at hl 0 rfl) ?_
    refine lv_iload hx hb dX0_findHeir_15 (lv_at hl 4 rfl) ?_
    refine lv_iload_n hx hb dX0_findHeir_17 rfl (lv_at hl 1 rfl) ?_
    refine r_callR (rest := []) Fx (m_X0_isHeir l (D := D) (ci := ci) (cz := cz) (cj := cj) (q := q) (F := F) (P := P) (g := g) hF hP12 i k (by omega) (by omega)) (cwV 2 Fx.2.2.2.2 gX0_findHeir_X0_isHeir rfl rfl rfl (by decide +kernel) ⟨Nat.le_of_ble_eq_true rfl, Nat.le_of_ble_eq_true rfl⟩) BW.bl (va_recv hK hP (ci := 0) (q0 := 0) rfl rfl) (BW.at hP hK hE hS) rfl hl.1 rfl (Nat.le_of_ble_eq_true rfl) dX0_findHeir_18 ⟨Nat.zero_le _, Nat.zero_le _⟩ ?_
    refine b_if_eq (tgt := 35) hx hb dX0_findHeir_21 (by decide) (fun h6 => ?_) (fun h6 => ?_)
    · refine lv_iinc (v := nI (i + 1)) (lv' := [(4, .int (nI (i + 1))), (0, .ref (q 0)), (1, .int (nI k)), (2, .int x), (3, .int (nI (cn (fun z => sIsH g P z k) i)))]) hx hb dX0_findHeir_35 hl (k := 4) rfl (nI_inc _ 1) (by decide) rfl (fun ls hl => ?_)
      refine lv_goto (tgt := 5) hx hb dX0_findHeir_38 (by decide) ?_
      have e3_ : nI (cn (fun z => sIsH g P z k) i) = nI (cn (fun z => sIsH g P z k) (i + 1)) := by simp [cn, h3, h4, h5, h6]
      rw [e3_] at hl
      exact ih5 (all_s h3 (by simp [Int32.not_lt, Int32.not_le, h3, h4, h5, h6])) _ (lv_sub hl [1, 2, 3, 4, 0] rfl)
    · refine lv_iload_n hx hb dX0_findHeir_24 rfl (lv_at hl 3 rfl) ?_
      refine lv_iload_n hx hb dX0_findHeir_25 rfl (lv_at hl 2 rfl) ?_
      refine lv_icmp_ne (tgt := 32) hx hb dX0_findHeir_26 (by decide) (fun h7 => ?_) (fun h7 => ?_)
      · refine lv_iinc (v := nI (cn (fun z => sIsH g P z k) i + 1)) (lv' := [(3, .int (nI (cn (fun z => sIsH g P z k) i + 1))), (0, .ref (q 0)), (1, .int (nI k)), (2, .int x), (4, .int (nI i))]) hx hb dX0_findHeir_32 hl (k := 3) rfl (nI_inc _ 1) (by decide) rfl (fun ls hl => ?_)
        refine lv_iinc (v := nI (i + 1)) (lv' := [(4, .int (nI (i + 1))), (3, .int (nI (cn (fun z => sIsH g P z k) i + 1))), (0, .ref (q 0)), (1, .int (nI k)), (2, .int x)]) hx hb dX0_findHeir_35 hl (k := 4) rfl (nI_inc _ 1) (by decide) rfl (fun ls hl => ?_)
        refine lv_goto (tgt := 5) hx hb dX0_findHeir_38 (by decide) ?_
        have e3_ : nI (cn (fun z => sIsH g P z k) i + 1) = nI (cn (fun z => sIsH g P z k) (i + 1)) := by simp [cn, h3, h4, h5, h6, h7]
        rw [e3_] at hl
        exact ih5 (all_s h3 (by simp [Int32.not_lt, Int32.not_le, h3, h4, h5, h6, h7])) _ (lv_sub hl [2, 3, 4, 1, 0] rfl)
      · refine lv_iload hx hb dX0_findHeir_29 (lv_at hl 4 rfl) ?_
        exact r_iret hx hb hr hlocks ((ff_some h3 (by simp [h3, h4, h5, h6, h7]) h4).symm) dX0_findHeir_31
set_option maxHeartbeats 4000000 in
set_option maxRecDepth 100000 in
theorem m_X0_partOf (l : Launch) {D : va_G} {ci cz : ClassId} {cj : ClassId × ClassId} {q : Nat → Nat} {F P : Nat} {g : Nat → Nat → Int32} (hF : F ≤ 6) (hP12 : P ≤ 12) (x : Int32) (c : Nat) (k : Nat) (ha0 : c ≤ 12) (ha1 : k ≤ 12) : Met l yX0_partOf wsX0_partOf ({ frames := 0, cells := 0, slots := 0, locals := 0 } : Room) (va_Pc [.int x, .int (nI c), .int (nI k)] (B0 D ci cz cj q F P g)) (RQ (some (.int (sPar x c k)))) 0 0 none_ := by
  refine Met.ofR (cc := cX0_partOf) (maxL := 6) (ret := (some .int)) (by decide) rfl (Nat.le_of_ble_eq_true rfl) ?_
  intro pg en s m bl mt cd ls Fx hr hlocks hB hl
  obtain ⟨hP, hK, hE⟩ := hB
  have hl : lv_has ls 6 [(0, .int x), (1, .int (nI c)), (2, .int (nI k))] := hl
  have Fx : CallFix pg m cd cX0_partOf 6 s _ wsX0_partOf RX0 := Fx
  have hx := Fx.1
  have hb := Fx.2.1
  have hS : va_S (aw q 8) s.heap s.heap [] := va_S.rf
  have hP : va_P D vwCl (w0 ci cz q F P g) s.heap := hP
  refine lv_iload_n hx hb dX0_partOf_0 rfl (lv_at hl 1 rfl) ?_
  refine lv_iconst (v := nI 1) hx hb dX0_partOf_1 (by decide) ?_
  refine n_icmp_gt (tgt := 7) hx hb (by omega) (by omega) dX0_partOf_2 (by decide) (fun h1 => ?_) (fun h1 => ?_)
  · refine lv_iload_n hx hb dX0_partOf_7 rfl (lv_at hl 0 rfl) ?_
    refine lv_iconst (v := nI 2) hx hb dX0_partOf_8 (by decide) ?_
    refine lv_idiv hx hb dX0_partOf_9 (by decide) ?_
    refine lv_istore_n (lv' := [(3, .int (x / (nI 2))), (0, .int x), (1, .int (nI c)), (2, .int (nI k))]) hx hb dX0_partOf_10 rfl hl (by decide) rfl (fun ls hl => ?_)
    refine lv_iload_n hx hb dX0_partOf_11 rfl (lv_at hl 3 rfl) ?_
    refine n_if_ne (tgt := 19) hx hb (by omega) dX0_partOf_12 (by decide) (fun h2 => ?_) (fun h2 => ?_)
    · refine lv_iload_n hx hb dX0_partOf_19 rfl (lv_at hl 2 rfl) ?_
      refine lv_iconst (v := nI 1) hx hb dX0_partOf_20 (by decide) ?_
      refine r_isub_n hx hb (by omega) dX0_partOf_21 ?_
      refine lv_istore (lv' := [(4, .int (nI (c - 1))), (3, .int (x / (nI 2))), (0, .int x), (1, .int (nI c)), (2, .int (nI k))]) hx hb dX0_partOf_22 hl (by decide) rfl (fun ls hl => ?_)
      refine lv_iload_n hx hb dX0_partOf_24 rfl (lv_at hl 1 rfl) ?_
      refine lv_iload hx hb dX0_partOf_25 (lv_at hl 0 rfl) ?_
      refine lv_idiv hx hb dX0_partOf_27 (nI_ne0 (by omega) (by omega)) ?_
      refine lv_istore (lv' := [(5, .int ((x / (nI 2)) / (nI (c - 1)))), (4, .int (nI (c - 1))), (3, .int (x / (nI 2))), (0, .int x), (1, .int (nI c)), (2, .int (nI k))]) hx hb dX0_partOf_28 hl (by decide) rfl (fun ls hl => ?_)
      refine lv_iload_n hx hb dX0_partOf_30 rfl (lv_at hl 5 rfl) ?_
      refine lv_iconst (v := nI 1) hx hb dX0_partOf_31 (by decide) ?_
      refine r_isub_n hx hb (by omega) dX0_partOf_32 ?_
      refine lv_iload_n hx hb dX0_partOf_33 rfl (lv_at hl 2 rfl) ?_
      refine lv_iload hx hb dX0_partOf_34 (lv_at hl 1 rfl) ?_
      refine lv_irem hx hb dX0_partOf_36 (nI_ne0 (by omega) (by omega)) ?_
      refine lv_icmp_ge (tgt := 47) hx hb dX0_partOf_37 (by decide) (fun h3 => ?_) (fun h3 => ?_)
      · refine lv_iload hx hb dX0_partOf_47 (lv_at hl 0 rfl) ?_
        exact r_iret hx hb hr hlocks (by simp [sPar, h1, Nat.not_le.mpr h1, Nat.ne_of_gt h1, h2, h3, Int32.not_lt.mpr h3]) dX0_partOf_49
      · have h3 := Int32.not_le.mp h3
        refine lv_iload hx hb dX0_partOf_40 (lv_at hl 0 rfl) ?_
        refine lv_iconst (v := nI 1) hx hb dX0_partOf_42 (by decide) ?_
        refine lv_iadd hx hb dX0_partOf_43 ?_
        refine lv_goto (tgt := 49) hx hb dX0_partOf_44 (by decide) ?_
        exact r_iret hx hb hr hlocks (by simp [sPar, h1, Nat.not_le.mpr h1, Nat.ne_of_gt h1, h2, h3, Int32.not_le.mpr h3]) dX0_partOf_49
    · refine lv_iload_n hx hb dX0_partOf_15 rfl (lv_at hl 1 rfl) ?_
      refine lv_iload_n hx hb dX0_partOf_16 rfl (lv_at hl 0 rfl) ?_
      refine lv_isub hx hb dX0_partOf_17 ?_
      exact r_iret hx hb hr hlocks (by simp [sPar, h1, Nat.not_le.mpr h1, Nat.ne_of_gt h1, h2]) dX0_partOf_18
  · refine lv_iload_n hx hb dX0_partOf_5 rfl (lv_at hl 0 rfl) ?_
    exact r_iret hx hb hr hlocks (by simp [sPar, h1, Nat.not_lt.mpr h1]) dX0_partOf_6
set_option maxHeartbeats 4000000 in
set_option maxRecDepth 100000 in
theorem m_X0_countChildren (l : Launch) {D : va_G} {ci cz : ClassId} {cj : ClassId × ClassId} {q : Nat → Nat} {F P : Nat} {g : Nat → Nat → Int32} (hF : F ≤ 6) (hP12 : P ≤ 12) (k : Nat) : Met l yX0_countChildren wsX0_countChildren ({ frames := 0, cells := 0, slots := 0, locals := 0 } : Room) (va_Pc [.ref (q 0), .int (nI k)] (B0 D ci cz cj q F P g)) (RQ (some (.int (nI (sChi g P k))))) 0 0 none_ := by
  refine Met.ofR (cc := cX0_countChildren) (maxL := 4) (ret := (some .int)) (by decide) rfl (Nat.le_of_ble_eq_true rfl) ?_
  intro pg en s m bl mt cd ls Fx hr hlocks hB hl
  obtain ⟨hP, hK, hE⟩ := hB
  have hl : lv_has ls 4 [(0, .ref (q 0)), (1, .int (nI k))] := hl
  have Fx : CallFix pg m cd cX0_countChildren 4 s _ wsX0_countChildren RX0 := Fx
  have hx := Fx.1
  have hb := Fx.2.1
  have hin : ∀ w ∈ wsX00, w ∈ wsX0_countChildren := by decide +kernel
  have hS : va_S (aw q 8) s.heap s.heap [] := va_S.rf
  have hP : va_P D vwCl (w0 ci cz q F P g) s.heap := hP
  refine lv_iconst (v := nI 0) hx hb dX0_countChildren_0 (by decide) ?_
  refine lv_istore_n (lv' := [(2, .int (nI 0)), (0, .ref (q 0)), (1, .int (nI k))]) hx hb dX0_countChildren_1 rfl hl (by decide) rfl (fun ls hl => ?_)
  refine lv_iconst (v := nI 0) hx hb dX0_countChildren_2 (by decide) ?_
  refine lv_istore_n (lv' := [(3, .int (nI 0)), (2, .int (nI 0)), (0, .ref (q 0)), (1, .int (nI k))]) hx hb dX0_countChildren_3 rfl hl (by decide) rfl (fun ls hl => ?_)
  refine rloop (nL := 4) (N := P) (fun _ => True) (fun i => [(0, .ref (q 0)), (1, .int (nI k)), (2, .int (nI (cn (fun z => decide (g 6 z = nI k)) i))), (3, .int (nI i))]) (trivial) (lv_sub hl [2, 3, 1, 0] rfl) ?_ ?_
  · intro h1 ls hl
    have hl : lv_has ls 4 [(0, .ref (q 0)), (1, .int (nI k)), (2, .int (nI (cn (fun z => decide (g 6 z = nI k)) P))), (3, .int (nI P))] := hl
    refine lv_iload_n hx hb dX0_countChildren_4 rfl (lv_at hl 3 rfl) ?_
    refine lv_aload_n hx hb dX0_countChildren_5 rfl (lv_at hl 0 rfl) ?_
    refine r_get Fx hin hK hP 0 rfl 4 (by decide) (by decide +kernel) rfl rfl dX0_countChildren_6 ?_
    refine n_icmp_ge (tgt := 31) hx hb (by omega) (by omega) dX0_countChildren_9 (by decide) (fun h2 => ?_) (fun h2 => by omega)
    refine lv_iload_n hx hb dX0_countChildren_31 rfl (lv_at hl 2 rfl) ?_
    exact r_iret hx hb hr hlocks (rfl) dX0_countChildren_32
  · intro i h4 h3 ih4 ls hl
    have hl : lv_has ls 4 [(0, .ref (q 0)), (1, .int (nI k)), (2, .int (nI (cn (fun z => decide (g 6 z = nI k)) i))), (3, .int (nI i))] := hl
    refine lv_iload_n hx hb dX0_countChildren_4 rfl (lv_at hl 3 rfl) ?_
    refine lv_aload_n hx hb dX0_countChildren_5 rfl (lv_at hl 0 rfl) ?_
    refine r_get Fx hin hK hP 0 rfl 4 (by decide) (by decide +kernel) rfl rfl dX0_countChildren_6 ?_
    refine n_icmp_ge (tgt := 31) hx hb (by omega) (by omega) dX0_countChildren_9 (by decide) (fun h5 => by omega) (fun h5 => ?_)
    refine lv_aload_n hx hb dX0_countChildren_12 rfl (lv_at hl 0 rfl) ?_
    refine r_get Fx hin hK hP 0 rfl 8 (by decide) (by decide +kernel) rfl rfl dX0_countChildren_13 ?_
    refine lv_iload_n hx hb dX0_countChildren_16 rfl (lv_at hl 3 rfl) ?_
    refine r_iald Fx hK hP 7 0 rfl rfl (i := i) (by omega) (by decide) dX0_countChildren_17 ?_
    refine lv_iload_n hx hb dX0_countChildren_18 rfl (lv_at hl 1 rfl) ?_
    refine lv_icmp_ne (tgt := 25) hx hb dX0_countChildren_19 (by decide) (fun h6 => ?_) (fun h6 => ?_)
    · refine lv_iinc (v := nI (i + 1)) (lv' := [(3, .int (nI (i + 1))), (0, .ref (q 0)), (1, .int (nI k)), (2, .int (nI (cn (fun z => decide (g 6 z = nI k)) i)))]) hx hb dX0_countChildren_25 hl (k := 3) rfl (nI_inc _ 1) (by decide) rfl (fun ls hl => ?_)
      refine lv_goto (tgt := 4) hx hb dX0_countChildren_28 (by decide) ?_
      have e2_ : nI (cn (fun z => decide (g 6 z = nI k)) i) = nI (cn (fun z => decide (g 6 z = nI k)) (i + 1)) := by simp [cn, h4, h5, h6]
      rw [e2_] at hl
      exact ih4 (trivial) _ (lv_sub hl [1, 2, 3, 0] rfl)
    · refine lv_iinc (v := nI (cn (fun z => decide (g 6 z = nI k)) i + 1)) (lv' := [(2, .int (nI (cn (fun z => decide (g 6 z = nI k)) i + 1))), (0, .ref (q 0)), (1, .int (nI k)), (3, .int (nI i))]) hx hb dX0_countChildren_22 hl (k := 2) rfl (nI_inc _ 1) (by decide) rfl (fun ls hl => ?_)
      refine lv_iinc (v := nI (i + 1)) (lv' := [(3, .int (nI (i + 1))), (2, .int (nI (cn (fun z => decide (g 6 z = nI k)) i + 1))), (0, .ref (q 0)), (1, .int (nI k))]) hx hb dX0_countChildren_25 hl (k := 3) rfl (nI_inc _ 1) (by decide) rfl (fun ls hl => ?_)
      refine lv_goto (tgt := 4) hx hb dX0_countChildren_28 (by decide) ?_
      have e2_ : nI (cn (fun z => decide (g 6 z = nI k)) i + 1) = nI (cn (fun z => decide (g 6 z = nI k)) (i + 1)) := by simp [cn, h4, h5, h6]
      rw [e2_] at hl
      exact ih4 (trivial) _ (lv_sub hl [2, 3, 1, 0] rfl)
set_option maxHeartbeats 4000000 in
set_option maxRecDepth 100000 in
theorem m_X0_living (l : Launch) {D : va_G} {ci cz : ClassId} {cj : ClassId × ClassId} {q : Nat → Nat} {F P : Nat} {g : Nat → Nat → Int32} (hF : F ≤ 6) (hP12 : P ≤ 12) : Met l yX0_living wsX0_living ({ frames := 0, cells := 0, slots := 0, locals := 0 } : Room) (va_Pc [.ref (q 0)] (B0 D ci cz cj q F P g)) (RQ (some (.int (nI (sLiv g P))))) 0 0 none_ := by
  refine Met.ofR (cc := cX0_living) (maxL := 3) (ret := (some .int)) (by decide) rfl (Nat.le_of_ble_eq_true rfl) ?_
  intro pg en s m bl mt cd ls Fx hr hlocks hB hl
  obtain ⟨hP, hK, hE⟩ := hB
  have hl : lv_has ls 3 [(0, .ref (q 0))] := hl
  have Fx : CallFix pg m cd cX0_living 3 s _ wsX0_living RX0 := Fx
  have hx := Fx.1
  have hb := Fx.2.1
  have hin : ∀ w ∈ wsX00, w ∈ wsX0_living := by decide +kernel
  have hS : va_S (aw q 8) s.heap s.heap [] := va_S.rf
  have hP : va_P D vwCl (w0 ci cz q F P g) s.heap := hP
  refine lv_iconst (v := nI 0) hx hb dX0_living_0 (by decide) ?_
  refine lv_istore_n (lv' := [(1, .int (nI 0)), (0, .ref (q 0))]) hx hb dX0_living_1 rfl hl (by decide) rfl (fun ls hl => ?_)
  refine lv_iconst (v := nI 0) hx hb dX0_living_2 (by decide) ?_
  refine lv_istore_n (lv' := [(2, .int (nI 0)), (1, .int (nI 0)), (0, .ref (q 0))]) hx hb dX0_living_3 rfl hl (by decide) rfl (fun ls hl => ?_)
  refine rloop (nL := 3) (N := P) (fun _ => True) (fun i => [(0, .ref (q 0)), (1, .int (nI (cn (fun z => lv g z) i))), (2, .int (nI i))]) (trivial) (lv_sub hl [2, 1, 0] rfl) ?_ ?_
  · intro h1 ls hl
    have hl : lv_has ls 3 [(0, .ref (q 0)), (1, .int (nI (cn (fun z => lv g z) P))), (2, .int (nI P))] := hl
    refine lv_iload_n hx hb dX0_living_4 rfl (lv_at hl 2 rfl) ?_
    refine lv_aload_n hx hb dX0_living_5 rfl (lv_at hl 0 rfl) ?_
    refine r_get Fx hin hK hP 0 rfl 4 (by decide) (by decide +kernel) rfl rfl dX0_living_6 ?_
    refine n_icmp_ge (tgt := 30) hx hb (by omega) (by omega) dX0_living_9 (by decide) (fun h2 => ?_) (fun h2 => by omega)
    refine lv_iload_n hx hb dX0_living_30 rfl (lv_at hl 1 rfl) ?_
    exact r_iret hx hb hr hlocks (rfl) dX0_living_31
  · intro i h4 h3 ih4 ls hl
    have hl : lv_has ls 3 [(0, .ref (q 0)), (1, .int (nI (cn (fun z => lv g z) i))), (2, .int (nI i))] := hl
    refine lv_iload_n hx hb dX0_living_4 rfl (lv_at hl 2 rfl) ?_
    refine lv_aload_n hx hb dX0_living_5 rfl (lv_at hl 0 rfl) ?_
    refine r_get Fx hin hK hP 0 rfl 4 (by decide) (by decide +kernel) rfl rfl dX0_living_6 ?_
    refine n_icmp_ge (tgt := 30) hx hb (by omega) (by omega) dX0_living_9 (by decide) (fun h5 => by omega) (fun h5 => ?_)
    refine lv_aload_n hx hb dX0_living_12 rfl (lv_at hl 0 rfl) ?_
    refine r_get Fx hin hK hP 0 rfl 5 (by decide) (by decide +kernel) rfl rfl dX0_living_13 ?_
    refine lv_iload_n hx hb dX0_living_16 rfl (lv_at hl 2 rfl) ?_
    refine r_alive Fx hK hP (i := i) (by omega) (by omega) dX0_living_17 ?_
    refine b_if_eq (tgt := 24) hx hb dX0_living_18 (by decide) (fun h6 => ?_) (fun h6 => ?_)
    · refine lv_iinc (v := nI (i + 1)) (lv' := [(2, .int (nI (i + 1))), (0, .ref (q 0)), (1, .int (nI (cn (fun z => lv g z) i)))]) hx hb dX0_living_24 hl (k := 2) rfl (nI_inc _ 1) (by decide) rfl (fun ls hl => ?_)
      refine lv_goto (tgt := 4) hx hb dX0_living_27 (by decide) ?_
      have e1_ : nI (cn (fun z => lv g z) i) = nI (cn (fun z => lv g z) (i + 1)) := by simp [cn, h4, h5, h6]
      rw [e1_] at hl
      exact ih4 (trivial) _ (lv_sub hl [1, 2, 0] rfl)
    · refine lv_iinc (v := nI (cn (fun z => lv g z) i + 1)) (lv' := [(1, .int (nI (cn (fun z => lv g z) i + 1))), (0, .ref (q 0)), (2, .int (nI i))]) hx hb dX0_living_21 hl (k := 1) rfl (nI_inc _ 1) (by decide) rfl (fun ls hl => ?_)
      refine lv_iinc (v := nI (i + 1)) (lv' := [(2, .int (nI (i + 1))), (1, .int (nI (cn (fun z => lv g z) i + 1))), (0, .ref (q 0))]) hx hb dX0_living_24 hl (k := 2) rfl (nI_inc _ 1) (by decide) rfl (fun ls hl => ?_)
      refine lv_goto (tgt := 4) hx hb dX0_living_27 (by decide) ?_
      have e1_ : nI (cn (fun z => lv g z) i + 1) = nI (cn (fun z => lv g z) (i + 1)) := by simp [cn, h4, h5, h6]
      rw [e1_] at hl
      exact ih4 (trivial) _ (lv_sub hl [2, 1, 0] rfl)
set_option maxHeartbeats 4000000 in
set_option maxRecDepth 100000 in
theorem m_X0_mix (l : Launch) {D : va_G} {ci cz : ClassId} {cj : ClassId × ClassId} {q : Nat → Nat} {F P : Nat} {g : Nat → Nat → Int32} (hF : F ≤ 6) (hP12 : P ≤ 12) (y : Int64) (x : Int64) : Met l yX0_mix wsX0_mix ({ frames := 0, cells := 0, slots := 0, locals := 0 } : Room) (va_Pc [.long y, .long x] (B0 D ci cz cj q F P g)) (RQ (some (.long (mx y x)))) 0 0 none_ := by
  refine Met.ofR (cc := cX0_mix) (maxL := 4) (ret := (some .long)) (by decide) rfl (Nat.le_of_ble_eq_true rfl) ?_
  intro pg en s m bl mt cd ls Fx hr hlocks hB hl
  obtain ⟨hP, hK, hE⟩ := hB
  have hl : lv_has ls 4 [(0, .long y), (2, .long x)] := hl
  have Fx : CallFix pg m cd cX0_mix 4 s _ wsX0_mix RX0 := Fx
  have hx := Fx.1
  have hb := Fx.2.1
  have hS : va_S (aw q 8) s.heap s.heap [] := va_S.rf
  have hP : va_P D vwCl (w0 ci cz q F P g) s.heap := hP
  refine lv_lload_n hx hb dX0_mix_0 rfl (lv_at hl 0 rfl) ?_
  refine lv_ldc2 hx hb Fx.2.2.2.1 (Fx.2.2.2.2 (.constantLong RX0 229 (31)) (by decide +kernel)) dX0_mix_1 ?_
  refine lv_lmul hx hb dX0_mix_4 ?_
  refine lv_lload_n hx hb dX0_mix_5 rfl (lv_at hl 1 rfl) ?_
  refine lv_ladd hx hb dX0_mix_6 ?_
  exact r_lret hx hb hr hlocks (rfl) dX0_mix_7
set_option maxHeartbeats 4000000 in
set_option maxRecDepth 100000 in
theorem m_X0_mixFerry (l : Launch) {D : va_G} {ci cz : ClassId} {cj : ClassId × ClassId} {q : Nat → Nat} {F P : Nat} {g : Nat → Nat → Int32} (hF : F ≤ 6) (hP12 : P ≤ 12) (y : Int64) (f : Nat) (ha0 : f < 6) : Met l yX0_mixFerry wsX0_mixFerry ({ frames := 2, cells := 0, slots := 0, locals := 45 } : Room) (va_Pc [.ref (q 0), .long y, .int (nI f)] (B0 D ci cz cj q F P g)) (RQ (some (.long (sDF g P y f)))) 0 0 none_ := by
  refine Met.ofR (cc := cX0_mixFerry) (maxL := 8) (ret := (some .long)) (by decide) rfl (Nat.le_of_ble_eq_true rfl) ?_
  intro pg en s m bl mt cd ls Fx hr hlocks hB hl
  obtain ⟨hP, hK, hE⟩ := hB
  have hl : lv_has ls 8 [(0, .ref (q 0)), (1, .long y), (3, .int (nI f))] := hl
  have Fx : CallFix pg m cd cX0_mixFerry 8 s _ wsX0_mixFerry RX0 := Fx
  have hx := Fx.1
  have hb := Fx.2.1
  have hin : ∀ w ∈ wsX00, w ∈ wsX0_mixFerry := by decide +kernel
  have hS : va_S (aw q 8) s.heap s.heap [] := va_S.rf
  have hP : va_P D vwCl (w0 ci cz q F P g) s.heap := hP
  refine lv_lload_n hx hb dX0_mixFerry_0 rfl (lv_at hl 1 rfl) ?_
  refine lv_aload_n hx hb dX0_mixFerry_1 rfl (lv_at hl 0 rfl) ?_
  refine r_get Fx hin hK hP 0 rfl 1 (by decide) (by decide +kernel) rfl rfl dX0_mixFerry_2 ?_
  refine lv_iload_n hx hb dX0_mixFerry_5 rfl (lv_at hl 2 rfl) ?_
  refine r_iald Fx hK hP 1 0 rfl rfl (i := f) (by omega) (by decide) dX0_mixFerry_6 ?_
  refine lv_i2l hx hb dX0_mixFerry_7 rfl ?_
  refine r_callRS (rest := []) Fx (m_X0_mix l (D := D) (ci := ci) (cz := cz) (cj := cj) (q := q) (F := F) (P := P) (g := g) hF hP12 y ((g 0 f).toInt64) ) (va_cwS 2 Fx.2.2.2.2 gX0_mixFerry_X0_mix rfl rfl rfl (by decide +kernel) ⟨Nat.le_of_ble_eq_true rfl, Nat.le_of_ble_eq_true rfl⟩) BW.bl (BW.at hP hK hE hS) rfl hl.1 rfl (Nat.le_of_ble_eq_true rfl) dX0_mixFerry_8 ⟨Nat.zero_le _, Nat.zero_le _⟩ ?_
  refine lv_lstore (lv' := [(4, .long (mx y ((g 0 f).toInt64))), (0, .ref (q 0)), (1, .long y), (3, .int (nI f))]) hx hb dX0_mixFerry_11 hl (by decide) rfl (fun ls hl => ?_)
  refine lv_lload hx hb dX0_mixFerry_13 (lv_at hl 0 rfl) ?_
  refine lv_aload_n hx hb dX0_mixFerry_15 rfl (lv_at hl 1 rfl) ?_
  refine r_get Fx hin hK hP 0 rfl 2 (by decide) (by decide +kernel) rfl rfl dX0_mixFerry_16 ?_
  refine lv_iload_n hx hb dX0_mixFerry_19 rfl (lv_at hl 3 rfl) ?_
  refine r_iald Fx hK hP 2 0 rfl rfl (i := f) (by omega) (by decide) dX0_mixFerry_20 ?_
  refine lv_i2l hx hb dX0_mixFerry_21 rfl ?_
  refine r_callRS (rest := []) Fx (m_X0_mix l (D := D) (ci := ci) (cz := cz) (cj := cj) (q := q) (F := F) (P := P) (g := g) hF hP12 (mx y ((g 0 f).toInt64)) ((g 1 f).toInt64) ) (va_cwS 2 Fx.2.2.2.2 gX0_mixFerry_X0_mix rfl rfl rfl (by decide +kernel) ⟨Nat.le_of_ble_eq_true rfl, Nat.le_of_ble_eq_true rfl⟩) BW.bl (BW.at hP hK hE hS) rfl hl.1 rfl (Nat.le_of_ble_eq_true rfl) dX0_mixFerry_22 ⟨Nat.zero_le _, Nat.zero_le _⟩ ?_
  refine lv_lstore (lv' := [(4, .long (mx (mx y ((g 0 f).toInt64)) ((g 1 f).toInt64))), (0, .ref (q 0)), (1, .long y), (3, .int (nI f))]) hx hb dX0_mixFerry_25 hl (by decide) rfl (fun ls hl => ?_)
  refine lv_iconst (v := nI 0) hx hb dX0_mixFerry_27 (by decide) ?_
  refine lv_istore (lv' := [(6, .int (nI 0)), (4, .long (mx (mx y ((g 0 f).toInt64)) ((g 1 f).toInt64))), (0, .ref (q 0)), (1, .long y), (3, .int (nI f))]) hx hb dX0_mixFerry_28 hl (by decide) rfl (fun ls hl => ?_)
  refine rloop (nL := 8) (N := 4) (fun _ => True) (fun i => [(0, .ref (q 0)), (1, .long y), (3, .int (nI f)), (4, .long (fo (fun d w => sDW g P f d w) (mx (mx y (g 0 f).toInt64) (g 1 f).toInt64) i)), (6, .int (nI i))]) (trivial) (lv_sub hl [2, 3, 4, 1, 0] rfl) ?_ ?_
  · intro h1 ls hl
    have hl : lv_has ls 8 [(0, .ref (q 0)), (1, .long y), (3, .int (nI f)), (4, .long (fo (fun d w => sDW g P f d w) (mx (mx y (g 0 f).toInt64) (g 1 f).toInt64) 4)), (6, .int (nI 4))] := hl
    refine lv_iload hx hb dX0_mixFerry_30 (lv_at hl 4 rfl) ?_
    refine lv_iconst (v := nI 4) hx hb dX0_mixFerry_32 (by decide) ?_
    refine n_icmp_ge (tgt := 77) hx hb (by omega) (by omega) dX0_mixFerry_33 (by decide) (fun h2 => ?_) (fun h2 => by omega)
    refine lv_lload hx hb dX0_mixFerry_77 (lv_at hl 3 rfl) ?_
    exact r_lret hx hb hr hlocks (rfl) dX0_mixFerry_79
  · intro i h4 h3 ih30 ls hl
    have hl : lv_has ls 8 [(0, .ref (q 0)), (1, .long y), (3, .int (nI f)), (4, .long (fo (fun d w => sDW g P f d w) (mx (mx y (g 0 f).toInt64) (g 1 f).toInt64) i)), (6, .int (nI i))] := hl
    refine lv_iload hx hb dX0_mixFerry_30 (lv_at hl 4 rfl) ?_
    refine lv_iconst (v := nI 4) hx hb dX0_mixFerry_32 (by decide) ?_
    refine n_icmp_ge (tgt := 77) hx hb (by omega) (by omega) dX0_mixFerry_33 (by decide) (fun h5 => by omega) (fun h5 => ?_)
    refine lv_iconst (v := nI 0) hx hb dX0_mixFerry_36 (by decide) ?_
    refine lv_istore (lv' := [(7, .int (nI 0)), (0, .ref (q 0)), (1, .long y), (3, .int (nI f)), (4, .long (fo (fun d w => sDW g P f d w) (mx (mx y (g 0 f).toInt64) (g 1 f).toInt64) i)), (6, .int (nI i))]) hx hb dX0_mixFerry_37 hl (by decide) rfl (fun ls hl => ?_)
    refine rloop (nL := 8) (N := P) (fun _ => True) (fun i' => [(0, .ref (q 0)), (1, .long y), (3, .int (nI f)), (4, .long (fo (fun d z => mx d (own g f i z).toInt64) (fo (fun d w => sDW g P f d w) (mx (mx y (g 0 f).toInt64) (g 1 f).toInt64) i) i')), (6, .int (nI i)), (7, .int (nI i'))]) (trivial) (lv_sub hl [1, 2, 3, 4, 5, 0] rfl) ?_ ?_
    · intro h6 ls hl
      have hl : lv_has ls 8 [(0, .ref (q 0)), (1, .long y), (3, .int (nI f)), (4, .long (fo (fun d z => mx d (own g f i z).toInt64) (fo (fun d w => sDW g P f d w) (mx (mx y (g 0 f).toInt64) (g 1 f).toInt64) i) P)), (6, .int (nI i)), (7, .int (nI P))] := hl
      refine lv_iload hx hb dX0_mixFerry_39 (lv_at hl 5 rfl) ?_
      refine lv_aload_n hx hb dX0_mixFerry_41 rfl (lv_at hl 0 rfl) ?_
      refine r_get Fx hin hK hP 0 rfl 4 (by decide) (by decide +kernel) rfl rfl dX0_mixFerry_42 ?_
      refine n_icmp_ge (tgt := 71) hx hb (by omega) (by omega) dX0_mixFerry_45 (by decide) (fun h7 => ?_) (fun h7 => by omega)
      refine lv_iinc (v := nI (i + 1)) (lv' := [(6, .int (nI (i + 1))), (0, .ref (q 0)), (1, .long y), (3, .int (nI f)), (4, .long (fo (fun d z => mx d (own g f i z).toInt64) (fo (fun d w => sDW g P f d w) (mx (mx y (g 0 f).toInt64) (g 1 f).toInt64) i) P)), (7, .int (nI P))]) hx hb dX0_mixFerry_71 hl (k := 4) rfl (nI_inc _ 1) (by decide) rfl (fun ls hl => ?_)
      refine lv_goto (tgt := 30) hx hb dX0_mixFerry_74 (by decide) ?_
      exact ih30 (trivial) _ (lv_sub hl [1, 2, 3, 4, 0] rfl)
    · intro i' h9 h8 ih39 ls hl
      have hl : lv_has ls 8 [(0, .ref (q 0)), (1, .long y), (3, .int (nI f)), (4, .long (fo (fun d z => mx d (own g f i z).toInt64) (fo (fun d w => sDW g P f d w) (mx (mx y (g 0 f).toInt64) (g 1 f).toInt64) i) i')), (6, .int (nI i)), (7, .int (nI i'))] := hl
      refine lv_iload hx hb dX0_mixFerry_39 (lv_at hl 5 rfl) ?_
      refine lv_aload_n hx hb dX0_mixFerry_41 rfl (lv_at hl 0 rfl) ?_
      refine r_get Fx hin hK hP 0 rfl 4 (by decide) (by decide +kernel) rfl rfl dX0_mixFerry_42 ?_
      refine n_icmp_ge (tgt := 71) hx hb (by omega) (by omega) dX0_mixFerry_45 (by decide) (fun h10 => by omega) (fun h10 => ?_)
      refine lv_lload hx hb dX0_mixFerry_48 (lv_at hl 3 rfl) ?_
      refine lv_aload_n hx hb dX0_mixFerry_50 rfl (lv_at hl 0 rfl) ?_
      refine lv_iload_n hx hb dX0_mixFerry_51 rfl (lv_at hl 2 rfl) ?_
      refine lv_iload hx hb dX0_mixFerry_52 (lv_at hl 4 rfl) ?_
      refine lv_iload hx hb dX0_mixFerry_54 (lv_at hl 5 rfl) ?_
      refine r_callR (rest := [.long (fo (fun d z => mx d (own g f i z).toInt64) (fo (fun d w => sDW g P f d w) (mx (mx y (g 0 f).toInt64) (g 1 f).toInt64) i) i')]) Fx (m_X0_owns l (D := D) (ci := ci) (cz := cz) (cj := cj) (q := q) (F := F) (P := P) (g := g) hF hP12 f i i' (by omega) (by omega) (by omega)) (cwV 3 Fx.2.2.2.2 gX0_mixFerry_X0_owns rfl rfl rfl (by decide +kernel) ⟨Nat.le_of_ble_eq_true rfl, Nat.le_of_ble_eq_true rfl⟩) BW.bl (va_recv hK hP (ci := 0) (q0 := 0) rfl rfl) (BW.at hP hK hE hS) rfl hl.1 rfl (Nat.le_of_ble_eq_true rfl) dX0_mixFerry_56 ⟨Nat.zero_le _, Nat.zero_le _⟩ ?_
      refine lv_i2l hx hb dX0_mixFerry_59 rfl ?_
      refine r_callRS (rest := []) Fx (m_X0_mix l (D := D) (ci := ci) (cz := cz) (cj := cj) (q := q) (F := F) (P := P) (g := g) hF hP12 (fo (fun d z => mx d (own g f i z).toInt64) (fo (fun d w => sDW g P f d w) (mx (mx y (g 0 f).toInt64) (g 1 f).toInt64) i) i') ((own g f i i').toInt64) ) (va_cwS 2 Fx.2.2.2.2 gX0_mixFerry_X0_mix rfl rfl rfl (by decide +kernel) ⟨Nat.le_of_ble_eq_true rfl, Nat.le_of_ble_eq_true rfl⟩) BW.bl (BW.at hP hK hE hS) rfl hl.1 rfl (Nat.le_of_ble_eq_true rfl) dX0_mixFerry_60 ⟨Nat.zero_le _, Nat.zero_le _⟩ ?_
      refine lv_lstore (lv' := [(4, .long (mx (fo (fun d z => mx d (own g f i z).toInt64) (fo (fun d w => sDW g P f d w) (mx (mx y (g 0 f).toInt64) (g 1 f).toInt64) i) i') ((own g f i i').toInt64))), (0, .ref (q 0)), (1, .long y), (3, .int (nI f)), (6, .int (nI i)), (7, .int (nI i'))]) hx hb dX0_mixFerry_63 hl (by decide) rfl (fun ls hl => ?_)
      refine lv_iinc (v := nI (i' + 1)) (lv' := [(7, .int (nI (i' + 1))), (4, .long (mx (fo (fun d z => mx d (own g f i z).toInt64) (fo (fun d w => sDW g P f d w) (mx (mx y (g 0 f).toInt64) (g 1 f).toInt64) i) i') ((own g f i i').toInt64))), (0, .ref (q 0)), (1, .long y), (3, .int (nI f)), (6, .int (nI i))]) hx hb dX0_mixFerry_65 hl (k := 5) rfl (nI_inc _ 1) (by decide) rfl (fun ls hl => ?_)
      refine lv_goto (tgt := 39) hx hb dX0_mixFerry_68 (by decide) ?_
      exact ih39 (trivial) _ (lv_sub hl [2, 3, 4, 1, 5, 0] rfl)
set_option maxHeartbeats 4000000 in
set_option maxRecDepth 100000 in
theorem m_X0_mixPerson (l : Launch) {D : va_G} {ci cz : ClassId} {cj : ClassId × ClassId} {q : Nat → Nat} {F P : Nat} {g : Nat → Nat → Int32} (hF : F ≤ 6) (hP12 : P ≤ 12) (y : Int64) (k : Nat) (ha0 : k < P) : Met l yX0_mixPerson wsX0_mixPerson ({ frames := 4, cells := 0, slots := 0, locals := 92 } : Room) (va_Pc [.ref (q 0), .long y, .int (nI k)] (B0 D ci cz cj q F P g)) (RQ (some (.long (sDP g F P y k)))) 0 0 none_ := by
  refine Met.ofR (cc := cX0_mixPerson) (maxL := 6) (ret := (some .long)) (by decide) rfl (Nat.le_of_ble_eq_true rfl) ?_
  intro pg en s m bl mt cd ls Fx hr hlocks hB hl
  obtain ⟨hP, hK, hE⟩ := hB
  have hl : lv_has ls 6 [(0, .ref (q 0)), (1, .long y), (3, .int (nI k))] := hl
  have Fx : CallFix pg m cd cX0_mixPerson 6 s _ wsX0_mixPerson RX0 := Fx
  have hx := Fx.1
  have hb := Fx.2.1
  have hin : ∀ w ∈ wsX00, w ∈ wsX0_mixPerson := by decide +kernel
  have hS : va_S (aw q 8) s.heap s.heap [] := va_S.rf
  have hP : va_P D vwCl (w0 ci cz q F P g) s.heap := hP
  refine lv_lload_n hx hb dX0_mixPerson_0 rfl (lv_at hl 1 rfl) ?_
  refine lv_aload_n hx hb dX0_mixPerson_1 rfl (lv_at hl 0 rfl) ?_
  refine r_get Fx hin hK hP 0 rfl 5 (by decide) (by decide +kernel) rfl rfl dX0_mixPerson_2 ?_
  refine lv_iload_n hx hb dX0_mixPerson_5 rfl (lv_at hl 2 rfl) ?_
  refine r_alive Fx hK hP (i := k) (by omega) (by omega) dX0_mixPerson_6 ?_
  refine b_if_eq (tgt := 14) hx hb dX0_mixPerson_7 (by decide) (fun h1 => ?_) (fun h1 => ?_)
  · refine lv_lconst (v := (0 : Int64)) hx hb dX0_mixPerson_14 (by decide) ?_
    refine r_callRS (rest := []) Fx (m_X0_mix l (D := D) (ci := ci) (cz := cz) (cj := cj) (q := q) (F := F) (P := P) (g := g) hF hP12 y (0 : Int64) ) (va_cwS 2 Fx.2.2.2.2 gX0_mixPerson_X0_mix rfl rfl rfl (by decide +kernel) ⟨Nat.le_of_ble_eq_true rfl, Nat.le_of_ble_eq_true rfl⟩) BW.bl (BW.at hP hK hE hS) rfl hl.1 rfl (Nat.le_of_ble_eq_true rfl) dX0_mixPerson_15 ⟨Nat.zero_le _, Nat.zero_le _⟩ ?_
    refine lv_lstore (lv' := [(4, .long (mx y (0 : Int64))), (0, .ref (q 0)), (1, .long y), (3, .int (nI k))]) hx hb dX0_mixPerson_18 hl (by decide) rfl (fun ls hl => ?_)
    refine lv_lload hx hb dX0_mixPerson_20 (lv_at hl 0 rfl) ?_
    refine lv_aload_n hx hb dX0_mixPerson_22 rfl (lv_at hl 1 rfl) ?_
    refine r_get Fx hin hK hP 0 rfl 6 (by decide) (by decide +kernel) rfl rfl dX0_mixPerson_23 ?_
    refine lv_iload_n hx hb dX0_mixPerson_26 rfl (lv_at hl 3 rfl) ?_
    refine r_iald Fx hK hP 5 0 rfl rfl (i := k) (by omega) (by decide) dX0_mixPerson_27 ?_
    refine lv_i2l hx hb dX0_mixPerson_28 rfl ?_
    refine r_callRS (rest := []) Fx (m_X0_mix l (D := D) (ci := ci) (cz := cz) (cj := cj) (q := q) (F := F) (P := P) (g := g) hF hP12 (mx y (0 : Int64)) ((g 4 k).toInt64) ) (va_cwS 2 Fx.2.2.2.2 gX0_mixPerson_X0_mix rfl rfl rfl (by decide +kernel) ⟨Nat.le_of_ble_eq_true rfl, Nat.le_of_ble_eq_true rfl⟩) BW.bl (BW.at hP hK hE hS) rfl hl.1 rfl (Nat.le_of_ble_eq_true rfl) dX0_mixPerson_29 ⟨Nat.zero_le _, Nat.zero_le _⟩ ?_
    refine lv_lstore (lv' := [(4, .long (mx (mx y (0 : Int64)) ((g 4 k).toInt64))), (0, .ref (q 0)), (1, .long y), (3, .int (nI k))]) hx hb dX0_mixPerson_32 hl (by decide) rfl (fun ls hl => ?_)
    refine lv_lload hx hb dX0_mixPerson_34 (lv_at hl 0 rfl) ?_
    refine lv_aload_n hx hb dX0_mixPerson_36 rfl (lv_at hl 1 rfl) ?_
    refine r_get Fx hin hK hP 0 rfl 7 (by decide) (by decide +kernel) rfl rfl dX0_mixPerson_37 ?_
    refine lv_iload_n hx hb dX0_mixPerson_40 rfl (lv_at hl 3 rfl) ?_
    refine r_iald Fx hK hP 6 0 rfl rfl (i := k) (by omega) (by decide) dX0_mixPerson_41 ?_
    refine lv_i2l hx hb dX0_mixPerson_42 rfl ?_
    refine r_callRS (rest := []) Fx (m_X0_mix l (D := D) (ci := ci) (cz := cz) (cj := cj) (q := q) (F := F) (P := P) (g := g) hF hP12 (mx (mx y (0 : Int64)) ((g 4 k).toInt64)) ((g 5 k).toInt64) ) (va_cwS 2 Fx.2.2.2.2 gX0_mixPerson_X0_mix rfl rfl rfl (by decide +kernel) ⟨Nat.le_of_ble_eq_true rfl, Nat.le_of_ble_eq_true rfl⟩) BW.bl (BW.at hP hK hE hS) rfl hl.1 rfl (Nat.le_of_ble_eq_true rfl) dX0_mixPerson_43 ⟨Nat.zero_le _, Nat.zero_le _⟩ ?_
    refine lv_lstore (lv' := [(4, .long (mx (mx (mx y (0 : Int64)) ((g 4 k).toInt64)) ((g 5 k).toInt64))), (0, .ref (q 0)), (1, .long y), (3, .int (nI k))]) hx hb dX0_mixPerson_46 hl (by decide) rfl (fun ls hl => ?_)
    refine lv_lload hx hb dX0_mixPerson_48 (lv_at hl 0 rfl) ?_
    refine lv_aload_n hx hb dX0_mixPerson_50 rfl (lv_at hl 1 rfl) ?_
    refine lv_iload_n hx hb dX0_mixPerson_51 rfl (lv_at hl 3 rfl) ?_
    refine r_callR (rest := [.long (mx (mx (mx y (0 : Int64)) ((g 4 k).toInt64)) ((g 5 k).toInt64))]) Fx (m_X0_countAllShares l (D := D) (ci := ci) (cz := cz) (cj := cj) (q := q) (F := F) (P := P) (g := g) hF hP12 k (by omega)) (cwV 1 Fx.2.2.2.2 gX0_mixPerson_X0_countAllShares rfl rfl rfl (by decide +kernel) ⟨Nat.le_of_ble_eq_true rfl, Nat.le_of_ble_eq_true rfl⟩) BW.bl (va_recv hK hP (ci := 0) (q0 := 0) rfl rfl) (BW.at hP hK hE hS) rfl hl.1 rfl (Nat.le_of_ble_eq_true rfl) dX0_mixPerson_52 ⟨Nat.zero_le _, Nat.zero_le _⟩ ?_
    refine lv_i2l hx hb dX0_mixPerson_55 rfl ?_
    refine r_callRS (rest := []) Fx (m_X0_mix l (D := D) (ci := ci) (cz := cz) (cj := cj) (q := q) (F := F) (P := P) (g := g) hF hP12 (mx (mx (mx y (0 : Int64)) ((g 4 k).toInt64)) ((g 5 k).toInt64)) ((sAll g F k).toInt64) ) (va_cwS 2 Fx.2.2.2.2 gX0_mixPerson_X0_mix rfl rfl rfl (by decide +kernel) ⟨Nat.le_of_ble_eq_true rfl, Nat.le_of_ble_eq_true rfl⟩) BW.bl (BW.at hP hK hE hS) rfl hl.1 rfl (Nat.le_of_ble_eq_true rfl) dX0_mixPerson_56 ⟨Nat.zero_le _, Nat.zero_le _⟩ ?_
    refine lv_lstore (lv' := [(4, .long (mx (mx (mx (mx y (0 : Int64)) ((g 4 k).toInt64)) ((g 5 k).toInt64)) ((sAll g F k).toInt64))), (0, .ref (q 0)), (1, .long y), (3, .int (nI k))]) hx hb dX0_mixPerson_59 hl (by decide) rfl (fun ls hl => ?_)
    refine lv_lload hx hb dX0_mixPerson_61 (lv_at hl 0 rfl) ?_
    refine lv_aload_n hx hb dX0_mixPerson_63 rfl (lv_at hl 1 rfl) ?_
    refine lv_iload_n hx hb dX0_mixPerson_64 rfl (lv_at hl 3 rfl) ?_
    refine r_callR (rest := [.long (mx (mx (mx (mx y (0 : Int64)) ((g 4 k).toInt64)) ((g 5 k).toInt64)) ((sAll g F k).toInt64))]) Fx (m_X0_countChildren l (D := D) (ci := ci) (cz := cz) (cj := cj) (q := q) (F := F) (P := P) (g := g) hF hP12 k ) (cwV 1 Fx.2.2.2.2 gX0_mixPerson_X0_countChildren rfl rfl rfl (by decide +kernel) ⟨Nat.le_of_ble_eq_true rfl, Nat.le_of_ble_eq_true rfl⟩) BW.bl (va_recv hK hP (ci := 0) (q0 := 0) rfl rfl) (BW.at hP hK hE hS) rfl hl.1 rfl (Nat.le_of_ble_eq_true rfl) dX0_mixPerson_65 ⟨Nat.zero_le _, Nat.zero_le _⟩ ?_
    refine lv_i2l hx hb dX0_mixPerson_68 rfl ?_
    refine r_callRS (rest := []) Fx (m_X0_mix l (D := D) (ci := ci) (cz := cz) (cj := cj) (q := q) (F := F) (P := P) (g := g) hF hP12 (mx (mx (mx (mx y (0 : Int64)) ((g 4 k).toInt64)) ((g 5 k).toInt64)) ((sAll g F k).toInt64)) ((nI (sChi g P k)).toInt64) ) (va_cwS 2 Fx.2.2.2.2 gX0_mixPerson_X0_mix rfl rfl rfl (by decide +kernel) ⟨Nat.le_of_ble_eq_true rfl, Nat.le_of_ble_eq_true rfl⟩) BW.bl (BW.at hP hK hE hS) rfl hl.1 rfl (Nat.le_of_ble_eq_true rfl) dX0_mixPerson_69 ⟨Nat.zero_le _, Nat.zero_le _⟩ ?_
    refine lv_lstore (lv' := [(4, .long (mx (mx (mx (mx (mx y (0 : Int64)) ((g 4 k).toInt64)) ((g 5 k).toInt64)) ((sAll g F k).toInt64)) ((nI (sChi g P k)).toInt64))), (0, .ref (q 0)), (1, .long y), (3, .int (nI k))]) hx hb dX0_mixPerson_72 hl (by decide) rfl (fun ls hl => ?_)
    refine lv_lload hx hb dX0_mixPerson_74 (lv_at hl 0 rfl) ?_
    refine lv_aload_n hx hb dX0_mixPerson_76 rfl (lv_at hl 1 rfl) ?_
    refine lv_iload_n hx hb dX0_mixPerson_77 rfl (lv_at hl 3 rfl) ?_
    refine r_callR (rest := [.long (mx (mx (mx (mx (mx y (0 : Int64)) ((g 4 k).toInt64)) ((g 5 k).toInt64)) ((sAll g F k).toInt64)) ((nI (sChi g P k)).toInt64))]) Fx (m_X0_countHeirs l (D := D) (ci := ci) (cz := cz) (cj := cj) (q := q) (F := F) (P := P) (g := g) hF hP12 k (by omega)) (cwV 1 Fx.2.2.2.2 gX0_mixPerson_X0_countHeirs rfl rfl rfl (by decide +kernel) ⟨Nat.le_of_ble_eq_true rfl, Nat.le_of_ble_eq_true rfl⟩) BW.bl (va_recv hK hP (ci := 0) (q0 := 0) rfl rfl) (BW.at hP hK hE hS) rfl hl.1 rfl (Nat.le_of_ble_eq_true rfl) dX0_mixPerson_78 ⟨Nat.zero_le _, Nat.zero_le _⟩ ?_
    refine lv_i2l hx hb dX0_mixPerson_81 rfl ?_
    refine r_callRS (rest := []) Fx (m_X0_mix l (D := D) (ci := ci) (cz := cz) (cj := cj) (q := q) (F := F) (P := P) (g := g) hF hP12 (mx (mx (mx (mx (mx y (0 : Int64)) ((g 4 k).toInt64)) ((g 5 k).toInt64)) ((sAll g F k).toInt64)) ((nI (sChi g P k)).toInt64)) ((nI (sCHe g P k)).toInt64) ) (va_cwS 2 Fx.2.2.2.2 gX0_mixPerson_X0_mix rfl rfl rfl (by decide +kernel) ⟨Nat.le_of_ble_eq_true rfl, Nat.le_of_ble_eq_true rfl⟩) BW.bl (BW.at hP hK hE hS) rfl hl.1 rfl (Nat.le_of_ble_eq_true rfl) dX0_mixPerson_82 ⟨Nat.zero_le _, Nat.zero_le _⟩ ?_
    exact r_lret hx hb hr hlocks (by simp [sDP, h1]) dX0_mixPerson_85
  · refine lv_lconst (v := (1 : Int64)) hx hb dX0_mixPerson_10 (by decide) ?_
    refine lv_goto (tgt := 15) hx hb dX0_mixPerson_11 (by decide) ?_
    refine r_callRS (rest := []) Fx (m_X0_mix l (D := D) (ci := ci) (cz := cz) (cj := cj) (q := q) (F := F) (P := P) (g := g) hF hP12 y (1 : Int64) ) (va_cwS 2 Fx.2.2.2.2 gX0_mixPerson_X0_mix rfl rfl rfl (by decide +kernel) ⟨Nat.le_of_ble_eq_true rfl, Nat.le_of_ble_eq_true rfl⟩) BW.bl (BW.at hP hK hE hS) rfl hl.1 rfl (Nat.le_of_ble_eq_true rfl) dX0_mixPerson_15 ⟨Nat.zero_le _, Nat.zero_le _⟩ ?_
    refine lv_lstore (lv' := [(4, .long (mx y (1 : Int64))), (0, .ref (q 0)), (1, .long y), (3, .int (nI k))]) hx hb dX0_mixPerson_18 hl (by decide) rfl (fun ls hl => ?_)
    refine lv_lload hx hb dX0_mixPerson_20 (lv_at hl 0 rfl) ?_
    refine lv_aload_n hx hb dX0_mixPerson_22 rfl (lv_at hl 1 rfl) ?_
    refine r_get Fx hin hK hP 0 rfl 6 (by decide) (by decide +kernel) rfl rfl dX0_mixPerson_23 ?_
    refine lv_iload_n hx hb dX0_mixPerson_26 rfl (lv_at hl 3 rfl) ?_
    refine r_iald Fx hK hP 5 0 rfl rfl (i := k) (by omega) (by decide) dX0_mixPerson_27 ?_
    refine lv_i2l hx hb dX0_mixPerson_28 rfl ?_
    refine r_callRS (rest := []) Fx (m_X0_mix l (D := D) (ci := ci) (cz := cz) (cj := cj) (q := q) (F := F) (P := P) (g := g) hF hP12 (mx y (1 : Int64)) ((g 4 k).toInt64) ) (va_cwS 2 Fx.2.2.2.2 gX0_mixPerson_X0_mix rfl rfl rfl (by decide +kernel) ⟨Nat.le_of_ble_eq_true rfl, Nat.le_of_ble_eq_true rfl⟩) BW.bl (BW.at hP hK hE hS) rfl hl.1 rfl (Nat.le_of_ble_eq_true rfl) dX0_mixPerson_29 ⟨Nat.zero_le _, Nat.zero_le _⟩ ?_
    refine lv_lstore (lv' := [(4, .long (mx (mx y (1 : Int64)) ((g 4 k).toInt64))), (0, .ref (q 0)), (1, .long y), (3, .int (nI k))]) hx hb dX0_mixPerson_32 hl (by decide) rfl (fun ls hl => ?_)
    refine lv_lload hx hb dX0_mixPerson_34 (lv_at hl 0 rfl) ?_
    refine lv_aload_n hx hb dX0_mixPerson_36 rfl (lv_at hl 1 rfl) ?_
    refine r_get Fx hin hK hP 0 rfl 7 (by decide) (by decide +kernel) rfl rfl dX0_mixPerson_37 ?_
    refine lv_iload_n hx hb dX0_mixPerson_40 rfl (lv_at hl 3 rfl) ?_
    refine r_iald Fx hK hP 6 0 rfl rfl (i := k) (by omega) (by decide) dX0_mixPerson_41 ?_
    refine lv_i2l hx hb dX0_mixPerson_42 rfl ?_
    refine r_callRS (rest := []) Fx (m_X0_mix l (D := D) (ci := ci) (cz := cz) (cj := cj) (q := q) (F := F) (P := P) (g := g) hF hP12 (mx (mx y (1 : Int64)) ((g 4 k).toInt64)) ((g 5 k).toInt64) ) (va_cwS 2 Fx.2.2.2.2 gX0_mixPerson_X0_mix rfl rfl rfl (by decide +kernel) ⟨Nat.le_of_ble_eq_true rfl, Nat.le_of_ble_eq_true rfl⟩) BW.bl (BW.at hP hK hE hS) rfl hl.1 rfl (Nat.le_of_ble_eq_true rfl) dX0_mixPerson_43 ⟨Nat.zero_le _, Nat.zero_le _⟩ ?_
    refine lv_lstore (lv' := [(4, .long (mx (mx (mx y (1 : Int64)) ((g 4 k).toInt64)) ((g 5 k).toInt64))), (0, .ref (q 0)), (1, .long y), (3, .int (nI k))]) hx hb dX0_mixPerson_46 hl (by decide) rfl (fun ls hl => ?_)
    refine lv_lload hx hb dX0_mixPerson_48 (lv_at hl 0 rfl) ?_
    refine lv_aload_n hx hb dX0_mixPerson_50 rfl (lv_at hl 1 rfl) ?_
    refine lv_iload_n hx hb dX0_mixPerson_51 rfl (lv_at hl 3 rfl) ?_
    refine r_callR (rest := [.long (mx (mx (mx y (1 : Int64)) ((g 4 k).toInt64)) ((g 5 k).toInt64))]) Fx (m_X0_countAllShares l (D := D) (ci := ci) (cz := cz) (cj := cj) (q := q) (F := F) (P := P) (g := g) hF hP12 k (by omega)) (cwV 1 Fx.2.2.2.2 gX0_mixPerson_X0_countAllShares rfl rfl rfl (by decide +kernel) ⟨Nat.le_of_ble_eq_true rfl, Nat.le_of_ble_eq_true rfl⟩) BW.bl (va_recv hK hP (ci := 0) (q0 := 0) rfl rfl) (BW.at hP hK hE hS) rfl hl.1 rfl (Nat.le_of_ble_eq_true rfl) dX0_mixPerson_52 ⟨Nat.zero_le _, Nat.zero_le _⟩ ?_
    refine lv_i2l hx hb dX0_mixPerson_55 rfl ?_
    refine r_callRS (rest := []) Fx (m_X0_mix l (D := D) (ci := ci) (cz := cz) (cj := cj) (q := q) (F := F) (P := P) (g := g) hF hP12 (mx (mx (mx y (1 : Int64)) ((g 4 k).toInt64)) ((g 5 k).toInt64)) ((sAll g F k).toInt64) ) (va_cwS 2 Fx.2.2.2.2 gX0_mixPerson_X0_mix rfl rfl rfl (by decide +kernel) ⟨Nat.le_of_ble_eq_true rfl, Nat.le_of_ble_eq_true rfl⟩) BW.bl (BW.at hP hK hE hS) rfl hl.1 rfl (Nat.le_of_ble_eq_true rfl) dX0_mixPerson_56 ⟨Nat.zero_le _, Nat.zero_le _⟩ ?_
    refine lv_lstore (lv' := [(4, .long (mx (mx (mx (mx y (1 : Int64)) ((g 4 k).toInt64)) ((g 5 k).toInt64)) ((sAll g F k).toInt64))), (0, .ref (q 0)), (1, .long y), (3, .int (nI k))]) hx hb dX0_mixPerson_59 hl (by decide) rfl (fun ls hl => ?_)
    refine lv_lload hx hb dX0_mixPerson_61 (lv_at hl 0 rfl) ?_
    refine lv_aload_n hx hb dX0_mixPerson_63 rfl (lv_at hl 1 rfl) ?_
    refine lv_iload_n hx hb dX0_mixPerson_64 rfl (lv_at hl 3 rfl) ?_
    refine r_callR (rest := [.long (mx (mx (mx (mx y (1 : Int64)) ((g 4 k).toInt64)) ((g 5 k).toInt64)) ((sAll g F k).toInt64))]) Fx (m_X0_countChildren l (D := D) (ci := ci) (cz := cz) (cj := cj) (q := q) (F := F) (P := P) (g := g) hF hP12 k ) (cwV 1 Fx.2.2.2.2 gX0_mixPerson_X0_countChildren rfl rfl rfl (by decide +kernel) ⟨Nat.le_of_ble_eq_true rfl, Nat.le_of_ble_eq_true rfl⟩) BW.bl (va_recv hK hP (ci := 0) (q0 := 0) rfl rfl) (BW.at hP hK hE hS) rfl hl.1 rfl (Nat.le_of_ble_eq_true rfl) dX0_mixPerson_65 ⟨Nat.zero_le _, Nat.zero_le _⟩ ?_
    refine lv_i2l hx hb dX0_mixPerson_68 rfl ?_
    refine r_callRS (rest := []) Fx (m_X0_mix l (D := D) (ci := ci) (cz := cz) (cj := cj) (q := q) (F := F) (P := P) (g := g) hF hP12 (mx (mx (mx (mx y (1 : Int64)) ((g 4 k).toInt64)) ((g 5 k).toInt64)) ((sAll g F k).toInt64)) ((nI (sChi g P k)).toInt64) ) (va_cwS 2 Fx.2.2.2.2 gX0_mixPerson_X0_mix rfl rfl rfl (by decide +kernel) ⟨Nat.le_of_ble_eq_true rfl, Nat.le_of_ble_eq_true rfl⟩) BW.bl (BW.at hP hK hE hS) rfl hl.1 rfl (Nat.le_of_ble_eq_true rfl) dX0_mixPerson_69 ⟨Nat.zero_le _, Nat.zero_le _⟩ ?_
    refine lv_lstore (lv' := [(4, .long (mx (mx (mx (mx (mx y (1 : Int64)) ((g 4 k).toInt64)) ((g 5 k).toInt64)) ((sAll g F k).toInt64)) ((nI (sChi g P k)).toInt64))), (0, .ref (q 0)), (1, .long y), (3, .int (nI k))]) hx hb dX0_mixPerson_72 hl (by decide) rfl (fun ls hl => ?_)
    refine lv_lload hx hb dX0_mixPerson_74 (lv_at hl 0 rfl) ?_
    refine lv_aload_n hx hb dX0_mixPerson_76 rfl (lv_at hl 1 rfl) ?_
    refine lv_iload_n hx hb dX0_mixPerson_77 rfl (lv_at hl 3 rfl) ?_
    refine r_callR (rest := [.long (mx (mx (mx (mx (mx y (1 : Int64)) ((g 4 k).toInt64)) ((g 5 k).toInt64)) ((sAll g F k).toInt64)) ((nI (sChi g P k)).toInt64))]) Fx (m_X0_countHeirs l (D := D) (ci := ci) (cz := cz) (cj := cj) (q := q) (F := F) (P := P) (g := g) hF hP12 k (by omega)) (cwV 1 Fx.2.2.2.2 gX0_mixPerson_X0_countHeirs rfl rfl rfl (by decide +kernel) ⟨Nat.le_of_ble_eq_true rfl, Nat.le_of_ble_eq_true rfl⟩) BW.bl (va_recv hK hP (ci := 0) (q0 := 0) rfl rfl) (BW.at hP hK hE hS) rfl hl.1 rfl (Nat.le_of_ble_eq_true rfl) dX0_mixPerson_78 ⟨Nat.zero_le _, Nat.zero_le _⟩ ?_
    refine lv_i2l hx hb dX0_mixPerson_81 rfl ?_
    refine r_callRS (rest := []) Fx (m_X0_mix l (D := D) (ci := ci) (cz := cz) (cj := cj) (q := q) (F := F) (P := P) (g := g) hF hP12 (mx (mx (mx (mx (mx y (1 : Int64)) ((g 4 k).toInt64)) ((g 5 k).toInt64)) ((sAll g F k).toInt64)) ((nI (sChi g P k)).toInt64)) ((nI (sCHe g P k)).toInt64) ) (va_cwS 2 Fx.2.2.2.2 gX0_mixPerson_X0_mix rfl rfl rfl (by decide +kernel) ⟨Nat.le_of_ble_eq_true rfl, Nat.le_of_ble_eq_true rfl⟩) BW.bl (BW.at hP hK hE hS) rfl hl.1 rfl (Nat.le_of_ble_eq_true rfl) dX0_mixPerson_82 ⟨Nat.zero_le _, Nat.zero_le _⟩ ?_
    exact r_lret hx hb hr hlocks (by simp [sDP, h1]) dX0_mixPerson_85
set_option maxHeartbeats 4000000 in
set_option maxRecDepth 100000 in
theorem m_X0_digest (l : Launch) {D : va_G} {ci cz : ClassId} {cj : ClassId × ClassId} {q : Nat → Nat} {F P : Nat} {g : Nat → Nat → Int32} (hF : F ≤ 6) (hP12 : P ≤ 12) : Met l yX0_digest wsX0_digest ({ frames := 5, cells := 0, slots := 0, locals := 117 } : Room) (va_Pc [.ref (q 0)] (B0 D ci cz cj q F P g)) (RQ (some (.long (sDig g F P)))) 0 0 none_ := by
  refine Met.ofR (cc := cX0_digest) (maxL := 4) (ret := (some .long)) (by decide) rfl (Nat.le_of_ble_eq_true rfl) ?_
  intro pg en s m bl mt cd ls Fx hr hlocks hB hl
  obtain ⟨hP, hK, hE⟩ := hB
  have hl : lv_has ls 4 [(0, .ref (q 0))] := hl
  have Fx : CallFix pg m cd cX0_digest 4 s _ wsX0_digest RX0 := Fx
  have hx := Fx.1
  have hb := Fx.2.1
  have hin : ∀ w ∈ wsX00, w ∈ wsX0_digest := by decide +kernel
  have hS : va_S (aw q 8) s.heap s.heap [] := va_S.rf
  have hP : va_P D vwCl (w0 ci cz q F P g) s.heap := hP
  refine lv_ldc2 hx hb Fx.2.2.2.1 (Fx.2.2.2.2 (.constantLong RX0 173 (1861)) (by decide +kernel)) dX0_digest_0 ?_
  refine lv_lstore_n (lv' := [(1, .long (1861 : Int64)), (0, .ref (q 0))]) hx hb dX0_digest_3 rfl hl (by decide) rfl (fun ls hl => ?_)
  refine lv_lload_n hx hb dX0_digest_4 rfl (lv_at hl 0 rfl) ?_
  refine lv_aload_n hx hb dX0_digest_5 rfl (lv_at hl 1 rfl) ?_
  refine r_get Fx hin hK hP 0 rfl 0 (by decide) (by decide +kernel) rfl rfl dX0_digest_6 ?_
  refine lv_i2l hx hb dX0_digest_9 rfl ?_
  refine r_callRS (rest := []) Fx (m_X0_mix l (D := D) (ci := ci) (cz := cz) (cj := cj) (q := q) (F := F) (P := P) (g := g) hF hP12 (1861 : Int64) ((nI F).toInt64) ) (va_cwS 2 Fx.2.2.2.2 gX0_digest_X0_mix rfl rfl rfl (by decide +kernel) ⟨Nat.le_of_ble_eq_true rfl, Nat.le_of_ble_eq_true rfl⟩) BW.bl (BW.at hP hK hE hS) rfl hl.1 rfl (Nat.le_of_ble_eq_true rfl) dX0_digest_10 ⟨Nat.zero_le _, Nat.zero_le _⟩ ?_
  refine lv_lstore_n (lv' := [(1, .long (mx (1861 : Int64) ((nI F).toInt64))), (0, .ref (q 0))]) hx hb dX0_digest_13 rfl hl (by decide) rfl (fun ls hl => ?_)
  refine lv_lload_n hx hb dX0_digest_14 rfl (lv_at hl 0 rfl) ?_
  refine lv_aload_n hx hb dX0_digest_15 rfl (lv_at hl 1 rfl) ?_
  refine r_get Fx hin hK hP 0 rfl 4 (by decide) (by decide +kernel) rfl rfl dX0_digest_16 ?_
  refine lv_i2l hx hb dX0_digest_19 rfl ?_
  refine r_callRS (rest := []) Fx (m_X0_mix l (D := D) (ci := ci) (cz := cz) (cj := cj) (q := q) (F := F) (P := P) (g := g) hF hP12 (mx (1861 : Int64) ((nI F).toInt64)) ((nI P).toInt64) ) (va_cwS 2 Fx.2.2.2.2 gX0_digest_X0_mix rfl rfl rfl (by decide +kernel) ⟨Nat.le_of_ble_eq_true rfl, Nat.le_of_ble_eq_true rfl⟩) BW.bl (BW.at hP hK hE hS) rfl hl.1 rfl (Nat.le_of_ble_eq_true rfl) dX0_digest_20 ⟨Nat.zero_le _, Nat.zero_le _⟩ ?_
  refine lv_lstore_n (lv' := [(1, .long (mx (mx (1861 : Int64) ((nI F).toInt64)) ((nI P).toInt64))), (0, .ref (q 0))]) hx hb dX0_digest_23 rfl hl (by decide) rfl (fun ls hl => ?_)
  refine lv_lload_n hx hb dX0_digest_24 rfl (lv_at hl 0 rfl) ?_
  refine lv_aload_n hx hb dX0_digest_25 rfl (lv_at hl 1 rfl) ?_
  refine r_callR (rest := [.long (mx (mx (1861 : Int64) ((nI F).toInt64)) ((nI P).toInt64))]) Fx (m_X0_living l (D := D) (ci := ci) (cz := cz) (cj := cj) (q := q) (F := F) (P := P) (g := g) hF hP12  ) (cwV 0 Fx.2.2.2.2 gX0_digest_X0_living rfl rfl rfl (by decide +kernel) ⟨Nat.le_of_ble_eq_true rfl, Nat.le_of_ble_eq_true rfl⟩) BW.bl (va_recv hK hP (ci := 0) (q0 := 0) rfl rfl) (BW.at hP hK hE hS) rfl hl.1 rfl (Nat.le_of_ble_eq_true rfl) dX0_digest_26 ⟨Nat.zero_le _, Nat.zero_le _⟩ ?_
  refine lv_i2l hx hb dX0_digest_29 rfl ?_
  refine r_callRS (rest := []) Fx (m_X0_mix l (D := D) (ci := ci) (cz := cz) (cj := cj) (q := q) (F := F) (P := P) (g := g) hF hP12 (mx (mx (1861 : Int64) ((nI F).toInt64)) ((nI P).toInt64)) ((nI (sLiv g P)).toInt64) ) (va_cwS 2 Fx.2.2.2.2 gX0_digest_X0_mix rfl rfl rfl (by decide +kernel) ⟨Nat.le_of_ble_eq_true rfl, Nat.le_of_ble_eq_true rfl⟩) BW.bl (BW.at hP hK hE hS) rfl hl.1 rfl (Nat.le_of_ble_eq_true rfl) dX0_digest_30 ⟨Nat.zero_le _, Nat.zero_le _⟩ ?_
  refine lv_lstore_n (lv' := [(1, .long (mx (mx (mx (1861 : Int64) ((nI F).toInt64)) ((nI P).toInt64)) ((nI (sLiv g P)).toInt64))), (0, .ref (q 0))]) hx hb dX0_digest_33 rfl hl (by decide) rfl (fun ls hl => ?_)
  refine lv_lload_n hx hb dX0_digest_34 rfl (lv_at hl 0 rfl) ?_
  refine lv_aload_n hx hb dX0_digest_35 rfl (lv_at hl 1 rfl) ?_
  refine r_get Fx hin hK hP 0 rfl 9 (by decide) (by decide +kernel) rfl rfl dX0_digest_36 ?_
  refine lv_i2l hx hb dX0_digest_39 rfl ?_
  refine r_callRS (rest := []) Fx (m_X0_mix l (D := D) (ci := ci) (cz := cz) (cj := cj) (q := q) (F := F) (P := P) (g := g) hF hP12 (mx (mx (mx (1861 : Int64) ((nI F).toInt64)) ((nI P).toInt64)) ((nI (sLiv g P)).toInt64)) ((g 7 0).toInt64) ) (va_cwS 2 Fx.2.2.2.2 gX0_digest_X0_mix rfl rfl rfl (by decide +kernel) ⟨Nat.le_of_ble_eq_true rfl, Nat.le_of_ble_eq_true rfl⟩) BW.bl (BW.at hP hK hE hS) rfl hl.1 rfl (Nat.le_of_ble_eq_true rfl) dX0_digest_40 ⟨Nat.zero_le _, Nat.zero_le _⟩ ?_
  refine lv_lstore_n (lv' := [(1, .long (mx (mx (mx (mx (1861 : Int64) ((nI F).toInt64)) ((nI P).toInt64)) ((nI (sLiv g P)).toInt64)) ((g 7 0).toInt64))), (0, .ref (q 0))]) hx hb dX0_digest_43 rfl hl (by decide) rfl (fun ls hl => ?_)
  refine lv_iconst (v := nI 0) hx hb dX0_digest_44 (by decide) ?_
  refine lv_istore_n (lv' := [(3, .int (nI 0)), (1, .long (mx (mx (mx (mx (1861 : Int64) ((nI F).toInt64)) ((nI P).toInt64)) ((nI (sLiv g P)).toInt64)) ((g 7 0).toInt64))), (0, .ref (q 0))]) hx hb dX0_digest_45 rfl hl (by decide) rfl (fun ls hl => ?_)
  refine rloop (nL := 4) (N := F) (fun _ => True) (fun i => [(0, .ref (q 0)), (1, .long (fo (fun d f => sDF g P d f) (sDig0 g F P) i)), (3, .int (nI i))]) (trivial) (lv_sub hl [2, 1, 0] rfl) ?_ ?_
  · intro h1 ls hl
    have hl : lv_has ls 4 [(0, .ref (q 0)), (1, .long (fo (fun d f => sDF g P d f) (sDig0 g F P) F)), (3, .int (nI F))] := hl
    refine lv_iload_n hx hb dX0_digest_46 rfl (lv_at hl 2 rfl) ?_
    refine lv_aload_n hx hb dX0_digest_47 rfl (lv_at hl 0 rfl) ?_
    refine r_get Fx hin hK hP 0 rfl 0 (by decide) (by decide +kernel) rfl rfl dX0_digest_48 ?_
    refine n_icmp_ge (tgt := 67) hx hb (by omega) (by omega) dX0_digest_51 (by decide) (fun h2 => ?_) (fun h2 => by omega)
    refine lv_iconst (v := nI 0) hx hb dX0_digest_67 (by decide) ?_
    refine lv_istore_n (lv' := [(3, .int (nI 0)), (0, .ref (q 0)), (1, .long (fo (fun d f => sDF g P d f) (sDig0 g F P) F))]) hx hb dX0_digest_68 rfl hl (by decide) rfl (fun ls hl => ?_)
    refine rloop (nL := 4) (N := P) (fun _ => True) (fun i' => [(0, .ref (q 0)), (1, .long (fo (fun d k => sDP g F P d k) (fo (fun d f => sDF g P d f) (sDig0 g F P) F) i')), (3, .int (nI i'))]) (trivial) (lv_sub hl [1, 2, 0] rfl) ?_ ?_
    · intro h3 ls hl
      have hl : lv_has ls 4 [(0, .ref (q 0)), (1, .long (fo (fun d k => sDP g F P d k) (fo (fun d f => sDF g P d f) (sDig0 g F P) F) P)), (3, .int (nI P))] := hl
      refine lv_iload_n hx hb dX0_digest_69 rfl (lv_at hl 2 rfl) ?_
      refine lv_aload_n hx hb dX0_digest_70 rfl (lv_at hl 0 rfl) ?_
      refine r_get Fx hin hK hP 0 rfl 4 (by decide) (by decide +kernel) rfl rfl dX0_digest_71 ?_
      refine n_icmp_ge (tgt := 90) hx hb (by omega) (by omega) dX0_digest_74 (by decide) (fun h4 => ?_) (fun h4 => by omega)
      refine lv_lload_n hx hb dX0_digest_90 rfl (lv_at hl 1 rfl) ?_
      exact r_lret hx hb hr hlocks (rfl) dX0_digest_91
    · intro i' h6 h5 ih69 ls hl
      have hl : lv_has ls 4 [(0, .ref (q 0)), (1, .long (fo (fun d k => sDP g F P d k) (fo (fun d f => sDF g P d f) (sDig0 g F P) F) i')), (3, .int (nI i'))] := hl
      refine lv_iload_n hx hb dX0_digest_69 rfl (lv_at hl 2 rfl) ?_
      refine lv_aload_n hx hb dX0_digest_70 rfl (lv_at hl 0 rfl) ?_
      refine r_get Fx hin hK hP 0 rfl 4 (by decide) (by decide +kernel) rfl rfl dX0_digest_71 ?_
      refine n_icmp_ge (tgt := 90) hx hb (by omega) (by omega) dX0_digest_74 (by decide) (fun h7 => by omega) (fun h7 => ?_)
      refine lv_aload_n hx hb dX0_digest_77 rfl (lv_at hl 0 rfl) ?_
      refine lv_lload_n hx hb dX0_digest_78 rfl (lv_at hl 1 rfl) ?_
      refine lv_iload_n hx hb dX0_digest_79 rfl (lv_at hl 2 rfl) ?_
      refine r_callR (rest := []) Fx (m_X0_mixPerson l (D := D) (ci := ci) (cz := cz) (cj := cj) (q := q) (F := F) (P := P) (g := g) hF hP12 (fo (fun d k => sDP g F P d k) (fo (fun d f => sDF g P d f) (sDig0 g F P) F) i') i' (by omega)) (cwV 2 Fx.2.2.2.2 gX0_digest_X0_mixPerson rfl rfl rfl (by decide +kernel) ⟨Nat.le_of_ble_eq_true rfl, Nat.le_of_ble_eq_true rfl⟩) BW.bl (va_recv hK hP (ci := 0) (q0 := 0) rfl rfl) (BW.at hP hK hE hS) rfl hl.1 rfl (Nat.le_of_ble_eq_true rfl) dX0_digest_80 ⟨Nat.zero_le _, Nat.zero_le _⟩ ?_
      refine lv_lstore_n (lv' := [(1, .long (sDP g F P (fo (fun d k => sDP g F P d k) (fo (fun d f => sDF g P d f) (sDig0 g F P) F) i') i')), (0, .ref (q 0)), (3, .int (nI i'))]) hx hb dX0_digest_83 rfl hl (by decide) rfl (fun ls hl => ?_)
      refine lv_iinc (v := nI (i' + 1)) (lv' := [(3, .int (nI (i' + 1))), (1, .long (sDP g F P (fo (fun d k => sDP g F P d k) (fo (fun d f => sDF g P d f) (sDig0 g F P) F) i') i')), (0, .ref (q 0))]) hx hb dX0_digest_84 hl (k := 2) rfl (nI_inc _ 1) (by decide) rfl (fun ls hl => ?_)
      refine lv_goto (tgt := 69) hx hb dX0_digest_87 (by decide) ?_
      exact ih69 (trivial) _ (lv_sub hl [2, 1, 0] rfl)
  · intro i h9 h8 ih46 ls hl
    have hl : lv_has ls 4 [(0, .ref (q 0)), (1, .long (fo (fun d f => sDF g P d f) (sDig0 g F P) i)), (3, .int (nI i))] := hl
    refine lv_iload_n hx hb dX0_digest_46 rfl (lv_at hl 2 rfl) ?_
    refine lv_aload_n hx hb dX0_digest_47 rfl (lv_at hl 0 rfl) ?_
    refine r_get Fx hin hK hP 0 rfl 0 (by decide) (by decide +kernel) rfl rfl dX0_digest_48 ?_
    refine n_icmp_ge (tgt := 67) hx hb (by omega) (by omega) dX0_digest_51 (by decide) (fun h10 => by omega) (fun h10 => ?_)
    refine lv_aload_n hx hb dX0_digest_54 rfl (lv_at hl 0 rfl) ?_
    refine lv_lload_n hx hb dX0_digest_55 rfl (lv_at hl 1 rfl) ?_
    refine lv_iload_n hx hb dX0_digest_56 rfl (lv_at hl 2 rfl) ?_
    refine r_callR (rest := []) Fx (m_X0_mixFerry l (D := D) (ci := ci) (cz := cz) (cj := cj) (q := q) (F := F) (P := P) (g := g) hF hP12 (fo (fun d f => sDF g P d f) (sDig0 g F P) i) i (by omega)) (cwV 2 Fx.2.2.2.2 gX0_digest_X0_mixFerry rfl rfl rfl (by decide +kernel) ⟨Nat.le_of_ble_eq_true rfl, Nat.le_of_ble_eq_true rfl⟩) BW.bl (va_recv hK hP (ci := 0) (q0 := 0) rfl rfl) (BW.at hP hK hE hS) rfl hl.1 rfl (Nat.le_of_ble_eq_true rfl) dX0_digest_57 ⟨Nat.zero_le _, Nat.zero_le _⟩ ?_
    refine lv_lstore_n (lv' := [(1, .long (sDF g P (fo (fun d f => sDF g P d f) (sDig0 g F P) i) i)), (0, .ref (q 0)), (3, .int (nI i))]) hx hb dX0_digest_60 rfl hl (by decide) rfl (fun ls hl => ?_)
    refine lv_iinc (v := nI (i + 1)) (lv' := [(3, .int (nI (i + 1))), (1, .long (sDF g P (fo (fun d f => sDF g P d f) (sDig0 g F P) i) i)), (0, .ref (q 0))]) hx hb dX0_digest_61 hl (k := 2) rfl (nI_inc _ 1) (by decide) rfl (fun ls hl => ?_)
    refine lv_goto (tgt := 46) hx hb dX0_digest_64 (by decide) ?_
    exact ih46 (trivial) _ (lv_sub hl [2, 1, 0] rfl)
