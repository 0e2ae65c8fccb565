/-! FerryRightsModel, III: what changes it -/
set_option maxHeartbeats 4000000 in
set_option maxRecDepth 100000 in
theorem m_X1_addFerry (l : Launch) {D : va_G} {ci cz cj : ClassId} {q : Nat → Nat} {F P : Nat} {g : Nat → Nat → Int32} {th : Int32} {he : Nat → Int32} {hn : Nat} (hq : DQ q 9) (hF : F ≤ 6) (hP12 : P ≤ 12) (a : Int32) (ha0 : Iv F P g) : Met l yX1_addFerry wsX1_addFerry ({ frames := 1, cells := 0, slots := 0, locals := 22 } : Room) (va_Pc [.ref (q 0), .int a] (B1 D ci cz cj q th F P g he hn)) (WQ (some (.int (rz (k_addFerry F a) (nI F)))) (fun H => ∃ (he : Nat → Int32) (hn : Nat), va_P D vwCl (w1 ci cz q (nI (k_addFerry F a)) (sF (k_addFerry F a) (F + 1) F) (sF (k_addFerry F a) P P) (sF (k_addFerry F a) (gTol g F a) g) he hn) H) (aw q 9)) 0 0 (aw q 9) := by
  refine Met.ofWr (cc := cX1_addFerry) (maxL := 2) (ret := (some .int)) (by decide) rfl (Nat.le_of_ble_eq_true rfl) ?_
  intro pg en s m bl mt cd ls Fx hr hlocks hB hl
  obtain ⟨hP, hK, hE⟩ := hB
  have hl : lv_has ls 2 [(0, .ref (q 0)), (1, .int a)] := hl
  have Fx : CallFix pg m cd cX1_addFerry 2 s _ wsX1_addFerry RX1 := Fx
  have hx := Fx.1
  have hb := Fx.2.1
  have hin : ∀ w ∈ wsX10, w ∈ wsX1_addFerry := by decide +kernel
  have hS : va_S (aw q 9) s.heap s.heap [] := va_S.rf
  have hP : va_P D vwCl (w1 ci cz q th F P g he hn) s.heap := hP
  refine lv_aload_n hx hb dX1_addFerry_0 rfl (lv_at hl 0 rfl) ?_
  refine lv_iconst (v := nI 0) hx hb dX1_addFerry_1 (by decide) ?_
  refine r_put Fx hin tyX1 tyX1_ok nmX1 hK hP (d1 hq) hS 1 rfl 0 (by decide) (by decide +kernel) rfl (by decide +kernel) rfl (Nat.le_of_ble_eq_true rfl) dX1_addFerry_2 (fun H locs hP hS => ?_)
  have hP : va_P D vwCl (w1 ci cz q (nI 0) F P g he hn) H := hP
  refine lv_iload_n hx hb dX1_addFerry_5 rfl (lv_at hl 1 rfl) ?_
  refine lv_iconst (v := nI 0) hx hb dX1_addFerry_6 (by decide) ?_
  refine lv_bipush (v := nI 20) hx hb dX1_addFerry_7 (by decide) ?_
  refine r_callRS (rest := []) Fx (m_X1_isIn l (D := D) (ci := ci) (cz := cz) (cj := cj) (q := q) (F := F) (P := P) (g := g) (th := nI 0) (he := he) (hn := hn) hF hP12 a (nI 0) (nI 20) ) (va_cwS 3 Fx.2.2.2.2 gX1_addFerry_X1_isIn rfl rfl rfl (by decide +kernel) ⟨Nat.le_of_ble_eq_true rfl, Nat.le_of_ble_eq_true rfl⟩) BW.bl (BW.at hP hK hE hS) rfl hl.1 rfl (Nat.le_of_ble_eq_true rfl) dX1_addFerry_9 ⟨Nat.zero_le _, Nat.zero_le _⟩ ?_
  refine r_as (bI (decide (0 ≤ a ∧ a ≤ nI 20))) rfl ?_
  refine b_if_ne (tgt := 21) hx hb dX1_addFerry_12 (by decide) (fun h1 => ?_) (fun h1 => ?_)
  · have h1 := of_decide_eq_true h1
    refine lv_aload_n hx hb dX1_addFerry_21 rfl (lv_at hl 0 rfl) ?_
    refine r_get Fx hin hK hP 1 rfl 1 (by decide) (by decide +kernel) rfl rfl dX1_addFerry_22 ?_
    refine lv_bipush (v := nI 6) hx hb dX1_addFerry_25 (by decide) ?_
    refine n_icmp_ne (tgt := 36) hx hb (by omega) (by omega) dX1_addFerry_27 (by decide) (fun h2 => ?_) (fun h2 => ?_)
    · refine lv_aload_n hx hb dX1_addFerry_36 rfl (lv_at hl 0 rfl) ?_
      refine r_get Fx hin hK hP 1 rfl 2 (by decide) (by decide +kernel) rfl rfl dX1_addFerry_37 ?_
      refine lv_aload_n hx hb dX1_addFerry_40 rfl (lv_at hl 0 rfl) ?_
      refine r_get Fx hin hK hP 1 rfl 1 (by decide) (by decide +kernel) rfl rfl dX1_addFerry_41 ?_
      refine lv_iload_n hx hb dX1_addFerry_44 rfl (lv_at hl 1 rfl) ?_
      refine r_iast Fx hK hP (d1 hq) hS 1 0 rfl rfl (i := F) (by omega) (by decide) dX1_addFerry_45 (fun H locs hP hS => ?_)
      have hP : va_P D vwCl (w1 ci cz q (nI 0) F P (va_up g 0 (upd (g 0) F a)) he hn) H := hP
      refine lv_aload_n hx hb dX1_addFerry_46 rfl (lv_at hl 0 rfl) ?_
      refine lv_dup hx hb dX1_addFerry_47 rfl ?_
      refine r_get Fx hin hK hP 1 rfl 1 (by decide) (by decide +kernel) rfl rfl dX1_addFerry_48 ?_
      refine lv_iconst (v := nI 1) hx hb dX1_addFerry_51 (by decide) ?_
      refine r_iadd_n hx hb dX1_addFerry_52 ?_
      refine r_put Fx hin tyX1 tyX1_ok nmX1 hK hP (d1 hq) hS 1 rfl 1 (by decide) (by decide +kernel) rfl (by decide +kernel) rfl (Nat.le_of_ble_eq_true rfl) dX1_addFerry_53 (fun H locs hP hS => ?_)
      have hP : va_P D vwCl (w1 ci cz q (nI 0) (F + 1) P (va_up g 0 (upd (g 0) F a)) he hn) H := hP
      refine lv_aload_n hx hb dX1_addFerry_56 rfl (lv_at hl 0 rfl) ?_
      refine r_get Fx hin hK hP 1 rfl 1 (by decide) (by decide +kernel) rfl rfl dX1_addFerry_57 ?_
      refine lv_iconst (v := nI 1) hx hb dX1_addFerry_60 (by decide) ?_
      refine r_isub_n hx hb (by omega) dX1_addFerry_61 ?_
      exact w_iret hx hb hr hlocks hS (⟨_, _, w1_0 (by simp [k_addFerry, lv, inR, inB, Int32.not_lt, Int32.not_le, h1, h2] <;> omega) (hP)⟩) (rz_0 (by simp [k_addFerry, lv, inR, inB, Int32.not_lt, Int32.not_le, h1, h2] <;> omega) (congrArg nI (by omega))) dX1_addFerry_62
    · refine lv_aload_n hx hb dX1_addFerry_30 rfl (lv_at hl 0 rfl) ?_
      refine lv_iconst (v := nI 2) hx hb dX1_addFerry_31 (by decide) ?_
      refine r_callW (rest := []) Fx (m_X1_no l (D := D) (ci := ci) (cz := cz) (cj := cj) (q := q) (F := F) (P := P) (g := g) (th := nI 0) (he := he) (hn := hn) hq hF hP12 (nI 2) ) (cwV 1 Fx.2.2.2.2 gX1_addFerry_X1_no rfl rfl rfl (by decide +kernel) ⟨Nat.le_of_ble_eq_true rfl, Nat.le_of_ble_eq_true rfl⟩) BW.bl (va_recv hK hP (ci := 1) (q0 := 0) rfl rfl) (BW.at hP hK hE hS) rfl hl.1 rfl (Nat.le_of_ble_eq_true rfl) dX1_addFerry_32 ⟨Nat.zero_le _, Nat.zero_le _⟩ hS (fun _ h => h) (fun H locs hP hS _ _ => ?_)
      have hP : va_P D vwCl (w1 ci cz q (nI 2) F P g he hn) H := hP
      exact w_iret hx hb hr hlocks hS (⟨_, _, w1_n 1 (by simp [k_addFerry, lv, inR, inB, Int32.not_lt, Int32.not_le, h1, h2] <;> omega) hP⟩) (rz_n 1 (by simp [k_addFerry, lv, inR, inB, Int32.not_lt, Int32.not_le, h1, h2] <;> omega)) dX1_addFerry_35
  · have h1 := of_decide_eq_false h1
    refine lv_aload_n hx hb dX1_addFerry_15 rfl (lv_at hl 0 rfl) ?_
    refine lv_iconst (v := nI 1) hx hb dX1_addFerry_16 (by decide) ?_
    refine r_callW (rest := []) Fx (m_X1_no l (D := D) (ci := ci) (cz := cz) (cj := cj) (q := q) (F := F) (P := P) (g := g) (th := nI 0) (he := he) (hn := hn) hq hF hP12 (nI 1) ) (cwV 1 Fx.2.2.2.2 gX1_addFerry_X1_no rfl rfl rfl (by decide +kernel) ⟨Nat.le_of_ble_eq_true rfl, Nat.le_of_ble_eq_true rfl⟩) BW.bl (va_recv hK hP (ci := 1) (q0 := 0) rfl rfl) (BW.at hP hK hE hS) rfl hl.1 rfl (Nat.le_of_ble_eq_true rfl) dX1_addFerry_17 ⟨Nat.zero_le _, Nat.zero_le _⟩ hS (fun _ h => h) (fun H locs hP hS _ _ => ?_)
    have hP : va_P D vwCl (w1 ci cz q (nI 1) F P g he hn) H := hP
    exact w_iret hx hb hr hlocks hS (⟨_, _, w1_n 0 (by simp [k_addFerry, lv, inR, inB, Int32.not_lt, Int32.not_le, h1] <;> omega) hP⟩) (rz_n 0 (by simp [k_addFerry, lv, inR, inB, Int32.not_lt, Int32.not_le, h1] <;> omega)) dX1_addFerry_20
set_option maxHeartbeats 4000000 in
set_option maxRecDepth 100000 in
theorem m_X1_addPerson (l : Launch) {D : va_G} {ci cz cj : ClassId} {q : Nat → Nat} {F P : Nat} {g : Nat → Nat → Int32} {th : Int32} {he : Nat → Int32} {hn : Nat} (hq : DQ q 9) (hF : F ≤ 6) (hP12 : P ≤ 12) (ha0 : Iv F P g) : Met l yX1_addPerson wsX1_addPerson ({ frames := 1, cells := 0, slots := 0, locals := 21 } : Room) (va_Pc [.ref (q 0)] (B1 D ci cz cj q th F P g he hn)) (WQ (some (.int (rz (k_addPerson P) (nI P)))) (fun H => ∃ (he : Nat → Int32) (hn : Nat), va_P D vwCl (w1 ci cz q (nI (k_addPerson P)) (sF (k_addPerson P) F F) (sF (k_addPerson P) (P + 1) P) (sF (k_addPerson P) (gPar g P (-1)) g) he hn) H) (aw q 9)) 0 0 (aw q 9) := by
  refine Met.ofWr (cc := cX1_addPerson) (maxL := 1) (ret := (some .int)) (by decide) rfl (Nat.le_of_ble_eq_true rfl) ?_
  intro pg en s m bl mt cd ls Fx hr hlocks hB hl
  obtain ⟨hP, hK, hE⟩ := hB
  have hl : lv_has ls 1 [(0, .ref (q 0))] := hl
  have Fx : CallFix pg m cd cX1_addPerson 1 s _ wsX1_addPerson RX1 := Fx
  have hx := Fx.1
  have hb := Fx.2.1
  have hin : ∀ w ∈ wsX10, w ∈ wsX1_addPerson := by decide +kernel
  have hS : va_S (aw q 9) s.heap s.heap [] := va_S.rf
  have hP : va_P D vwCl (w1 ci cz q th F P g he hn) s.heap := hP
  refine lv_aload_n hx hb dX1_addPerson_0 rfl (lv_at hl 0 rfl) ?_
  refine lv_iconst (v := nI 0) hx hb dX1_addPerson_1 (by decide) ?_
  refine r_put Fx hin tyX1 tyX1_ok nmX1 hK hP (d1 hq) hS 1 rfl 0 (by decide) (by decide +kernel) rfl (by decide +kernel) rfl (Nat.le_of_ble_eq_true rfl) dX1_addPerson_2 (fun H locs hP hS => ?_)
  have hP : va_P D vwCl (w1 ci cz q (nI 0) F P g he hn) H := hP
  refine lv_aload_n hx hb dX1_addPerson_5 rfl (lv_at hl 0 rfl) ?_
  refine r_get Fx hin hK hP 1 rfl 5 (by decide) (by decide +kernel) rfl rfl dX1_addPerson_6 ?_
  refine lv_bipush (v := nI 12) hx hb dX1_addPerson_9 (by decide) ?_
  refine n_icmp_ge (tgt := 22) hx hb (by omega) (by omega) dX1_addPerson_11 (by decide) (fun h1 => ?_) (fun h1 => ?_)
  · refine lv_aload_n hx hb dX1_addPerson_22 rfl (lv_at hl 0 rfl) ?_
    refine lv_iconst (v := nI 1) hx hb dX1_addPerson_23 (by decide) ?_
    refine r_callW (rest := []) Fx (m_X1_no l (D := D) (ci := ci) (cz := cz) (cj := cj) (q := q) (F := F) (P := P) (g := g) (th := nI 0) (he := he) (hn := hn) hq hF hP12 (nI 1) ) (cwV 1 Fx.2.2.2.2 gX1_addPerson_X1_no rfl rfl rfl (by decide +kernel) ⟨Nat.le_of_ble_eq_true rfl, Nat.le_of_ble_eq_true rfl⟩) BW.bl (va_recv hK hP (ci := 1) (q0 := 0) rfl rfl) (BW.at hP hK hE hS) rfl hl.1 rfl (Nat.le_of_ble_eq_true rfl) dX1_addPerson_24 ⟨Nat.zero_le _, Nat.zero_le _⟩ hS (fun _ h => h) (fun H locs hP hS _ _ => ?_)
    have hP : va_P D vwCl (w1 ci cz q (nI 1) F P g he hn) H := hP
    exact w_iret hx hb hr hlocks hS (⟨_, _, w1_n 0 (by simp [k_addPerson, lv, inR, inB, Int32.not_lt, Int32.not_le, h1, Nat.not_lt.mpr h1]) hP⟩) (rz_n 0 (by simp [k_addPerson, lv, inR, inB, Int32.not_lt, Int32.not_le, h1, Nat.not_lt.mpr h1])) dX1_addPerson_27
  · refine lv_aload_n hx hb dX1_addPerson_14 rfl (lv_at hl 0 rfl) ?_
    refine lv_iconst (v := -1) hx hb dX1_addPerson_15 (by decide) ?_
    refine r_callW (rest := []) Fx (m_X1_person l (D := D) (ci := ci) (cz := cz) (cj := cj) (q := q) (F := F) (P := P) (g := g) (th := nI 0) (he := he) (hn := hn) hq hF hP12 (-1) (by omega)) (cwV 1 Fx.2.2.2.2 gX1_addPerson_X1_person rfl rfl rfl (by decide +kernel) ⟨Nat.le_of_ble_eq_true rfl, Nat.le_of_ble_eq_true rfl⟩) BW.bl (va_recv hK hP (ci := 1) (q0 := 0) rfl rfl) (BW.at hP hK hE hS) rfl hl.1 rfl (Nat.le_of_ble_eq_true rfl) dX1_addPerson_16 ⟨Nat.zero_le _, Nat.zero_le _⟩ hS (fun _ h => h) (fun H locs hP hS _ _ => ?_)
    have hP : va_P D vwCl (w1 ci cz q (nI 0) F (P + 1) (gPar g P (-1)) he hn) H := hP
    refine lv_goto (tgt := 27) hx hb dX1_addPerson_19 (by decide) ?_
    exact w_iret hx hb hr hlocks hS (⟨_, _, w1_0 (by simp [k_addPerson, lv, inR, inB, Int32.not_lt, Int32.not_le, h1, Nat.not_le.mpr h1, Nat.ne_of_gt h1]) (hP)⟩) (rz_0 (by simp [k_addPerson, lv, inR, inB, Int32.not_lt, Int32.not_le, h1, Nat.not_le.mpr h1, Nat.ne_of_gt h1]) rfl) dX1_addPerson_27
set_option maxHeartbeats 4000000 in
set_option maxRecDepth 100000 in
theorem m_X1_addChild (l : Launch) {D : va_G} {ci cz cj : ClassId} {q : Nat → Nat} {F P : Nat} {g : Nat → Nat → Int32} {th : Int32} {he : Nat → Int32} {hn : Nat} (hq : DQ q 9) (hF : F ≤ 6) (hP12 : P ≤ 12) (a : Int32) (ha0 : Iv F P g) : Met l yX1_addChild wsX1_addChild ({ frames := 2, cells := 0, slots := 0, locals := 43 } : Room) (va_Pc [.ref (q 0), .int a] (B1 D ci cz cj q th F P g he hn)) (WQ (some (.int (rz (k_addChild P g a) (nI P)))) (fun H => ∃ (he : Nat → Int32) (hn : Nat), va_P D vwCl (w1 ci cz q (nI (k_addChild P g a)) (sF (k_addChild P g a) F F) (sF (k_addChild P g a) (P + 1) P) (sF (k_addChild P g a) (gPar g P a) g) he hn) H) (aw q 9)) 0 0 (aw q 9) := by
  refine Met.ofWr (cc := cX1_addChild) (maxL := 2) (ret := (some .int)) (by decide) rfl (Nat.le_of_ble_eq_true rfl) ?_
  intro pg en s m bl mt cd ls Fx hr hlocks hB hl
  obtain ⟨hP, hK, hE⟩ := hB
  have hl : lv_has ls 2 [(0, .ref (q 0)), (1, .int a)] := hl
  have Fx : CallFix pg m cd cX1_addChild 2 s _ wsX1_addChild RX1 := Fx
  have hx := Fx.1
  have hb := Fx.2.1
  have hin : ∀ w ∈ wsX10, w ∈ wsX1_addChild := by decide +kernel
  have hS : va_S (aw q 9) s.heap s.heap [] := va_S.rf
  have hP : va_P D vwCl (w1 ci cz q th F P g he hn) s.heap := hP
  refine lv_aload_n hx hb dX1_addChild_0 rfl (lv_at hl 0 rfl) ?_
  refine lv_iconst (v := nI 0) hx hb dX1_addChild_1 (by decide) ?_
  refine r_put Fx hin tyX1 tyX1_ok nmX1 hK hP (d1 hq) hS 1 rfl 0 (by decide) (by decide +kernel) rfl (by decide +kernel) rfl (Nat.le_of_ble_eq_true rfl) dX1_addChild_2 (fun H locs hP hS => ?_)
  have hP : va_P D vwCl (w1 ci cz q (nI 0) F P g he hn) H := hP
  refine lv_aload_n hx hb dX1_addChild_5 rfl (lv_at hl 0 rfl) ?_
  refine lv_iload_n hx hb dX1_addChild_6 rfl (lv_at hl 1 rfl) ?_
  refine r_callR (rest := []) Fx (m_X1_isPerson l (D := D) (ci := ci) (cz := cz) (cj := cj) (q := q) (F := F) (P := P) (g := g) (th := nI 0) (he := he) (hn := hn) hF hP12 a ) (cwV 1 Fx.2.2.2.2 gX1_addChild_X1_isPerson rfl rfl rfl (by decide +kernel) ⟨Nat.le_of_ble_eq_true rfl, Nat.le_of_ble_eq_true rfl⟩) BW.bl (va_recv hK hP (ci := 1) (q0 := 0) rfl rfl) (BW.at hP hK hE hS) rfl hl.1 rfl (Nat.le_of_ble_eq_true rfl) dX1_addChild_7 ⟨Nat.zero_le _, Nat.zero_le _⟩ ?_
  refine b_if_ne (tgt := 19) hx hb dX1_addChild_10 (by decide) (fun h1 => ?_) (fun h1 => ?_)
  · have h1 := of_decide_eq_true h1
    obtain ⟨ja, h2, rfl⟩ := inR_of h1 (by omega)
    have h3 : ix (nI ja) = ja := ix_nI (by omega)
    refine lv_aload_n hx hb dX1_addChild_19 rfl (lv_at hl 0 rfl) ?_
    refine r_get Fx hin hK hP 1 rfl 9 (by decide) (by decide +kernel) rfl rfl dX1_addChild_20 ?_
    refine lv_iload_n hx hb dX1_addChild_23 rfl (lv_at hl 1 rfl) ?_
    refine r_zald Fx hK hP 4 1 rfl rfl (i := ja) (by omega) (by decide) dX1_addChild_24 ?_
    refine lv_if_ne (tgt := 37) hx hb dX1_addChild_25 (by decide) (fun h4 => ?_) (fun h4 => ?_)
    · refine lv_aload_n hx hb dX1_addChild_37 rfl (lv_at hl 0 rfl) ?_
      refine lv_iconst (v := nI 2) hx hb dX1_addChild_38 (by decide) ?_
      refine r_callW (rest := []) Fx (m_X1_no l (D := D) (ci := ci) (cz := cz) (cj := cj) (q := q) (F := F) (P := P) (g := g) (th := nI 0) (he := he) (hn := hn) hq hF hP12 (nI 2) ) (cwV 1 Fx.2.2.2.2 gX1_addChild_X1_no rfl rfl rfl (by decide +kernel) ⟨Nat.le_of_ble_eq_true rfl, Nat.le_of_ble_eq_true rfl⟩) BW.bl (va_recv hK hP (ci := 1) (q0 := 0) rfl rfl) (BW.at hP hK hE hS) rfl hl.1 rfl (Nat.le_of_ble_eq_true rfl) dX1_addChild_39 ⟨Nat.zero_le _, Nat.zero_le _⟩ hS (fun _ h => h) (fun H locs hP hS _ _ => ?_)
      have hP : va_P D vwCl (w1 ci cz q (nI 2) F P g he hn) H := hP
      refine lv_goto (tgt := 50) hx hb dX1_addChild_42 (by decide) ?_
      exact w_iret hx hb hr hlocks hS (⟨_, _, w1_n 1 (by first | (simp [k_addChild, lv, inR, inB, Int32.not_lt, Int32.not_le, h1, h2, h3, h4]; done) | (simp [k_addChild, lv, inR, inB, Int32.not_lt, Int32.not_le, h1, h2, h3]; omega)) hP⟩) (rz_n 1 (by first | (simp [k_addChild, lv, inR, inB, Int32.not_lt, Int32.not_le, h1, h2, h3, h4]; done) | (simp [k_addChild, lv, inR, inB, Int32.not_lt, Int32.not_le, h1, h2, h3]; omega))) dX1_addChild_50
    · refine lv_aload_n hx hb dX1_addChild_28 rfl (lv_at hl 0 rfl) ?_
      refine r_get Fx hin hK hP 1 rfl 5 (by decide) (by decide +kernel) rfl rfl dX1_addChild_29 ?_
      refine lv_bipush (v := nI 12) hx hb dX1_addChild_32 (by decide) ?_
      refine n_icmp_ne (tgt := 45) hx hb (by omega) (by omega) dX1_addChild_34 (by decide) (fun h5 => ?_) (fun h5 => ?_)
      · refine lv_aload_n hx hb dX1_addChild_45 rfl (lv_at hl 0 rfl) ?_
        refine lv_iload_n hx hb dX1_addChild_46 rfl (lv_at hl 1 rfl) ?_
        refine r_callW (rest := []) Fx (m_X1_person l (D := D) (ci := ci) (cz := cz) (cj := cj) (q := q) (F := F) (P := P) (g := g) (th := nI 0) (he := he) (hn := hn) hq hF hP12 (nI ja) (by omega)) (cwV 1 Fx.2.2.2.2 gX1_addChild_X1_person rfl rfl rfl (by decide +kernel) ⟨Nat.le_of_ble_eq_true rfl, Nat.le_of_ble_eq_true rfl⟩) BW.bl (va_recv hK hP (ci := 1) (q0 := 0) rfl rfl) (BW.at hP hK hE hS) rfl hl.1 rfl (Nat.le_of_ble_eq_true rfl) dX1_addChild_47 ⟨Nat.zero_le _, Nat.zero_le _⟩ hS (fun _ h => h) (fun H locs hP hS _ _ => ?_)
        have hP : va_P D vwCl (w1 ci cz q (nI 0) F (P + 1) (gPar g P (nI ja)) he hn) H := hP
        exact w_iret hx hb hr hlocks hS (⟨_, _, w1_0 (by first | (simp [k_addChild, lv, inR, inB, Int32.not_lt, Int32.not_le, h1, h2, h3, h4, h5]; done) | (simp [k_addChild, lv, inR, inB, Int32.not_lt, Int32.not_le, h1, h2, h3, h4]; omega)) (hP)⟩) (rz_0 (by first | (simp [k_addChild, lv, inR, inB, Int32.not_lt, Int32.not_le, h1, h2, h3, h4, h5]; done) | (simp [k_addChild, lv, inR, inB, Int32.not_lt, Int32.not_le, h1, h2, h3, h4]; omega)) rfl) dX1_addChild_50
      · refine lv_aload_n hx hb dX1_addChild_37 rfl (lv_at hl 0 rfl) ?_
        refine lv_iconst (v := nI 2) hx hb dX1_addChild_38 (by decide) ?_
        refine r_callW (rest := []) Fx (m_X1_no l (D := D) (ci := ci) (cz := cz) (cj := cj) (q := q) (F := F) (P := P) (g := g) (th := nI 0) (he := he) (hn := hn) hq hF hP12 (nI 2) ) (cwV 1 Fx.2.2.2.2 gX1_addChild_X1_no rfl rfl rfl (by decide +kernel) ⟨Nat.le_of_ble_eq_true rfl, Nat.le_of_ble_eq_true rfl⟩) BW.bl (va_recv hK hP (ci := 1) (q0 := 0) rfl rfl) (BW.at hP hK hE hS) rfl hl.1 rfl (Nat.le_of_ble_eq_true rfl) dX1_addChild_39 ⟨Nat.zero_le _, Nat.zero_le _⟩ hS (fun _ h => h) (fun H locs hP hS _ _ => ?_)
        have hP : va_P D vwCl (w1 ci cz q (nI 2) F P g he hn) H := hP
        refine lv_goto (tgt := 50) hx hb dX1_addChild_42 (by decide) ?_
        exact w_iret hx hb hr hlocks hS (⟨_, _, w1_n 1 (by first | (simp [k_addChild, lv, inR, inB, Int32.not_lt, Int32.not_le, h1, h2, h3, h4, h5]; done) | (simp [k_addChild, lv, inR, inB, Int32.not_lt, Int32.not_le, h1, h2, h3, h4]; omega)) hP⟩) (rz_n 1 (by first | (simp [k_addChild, lv, inR, inB, Int32.not_lt, Int32.not_le, h1, h2, h3, h4, h5]; done) | (simp [k_addChild, lv, inR, inB, Int32.not_lt, Int32.not_le, h1, h2, h3, h4]; omega))) dX1_addChild_50
  · have h1 := of_decide_eq_false h1
    refine lv_aload_n hx hb dX1_addChild_13 rfl (lv_at hl 0 rfl) ?_
    refine lv_iconst (v := nI 1) hx hb dX1_addChild_14 (by decide) ?_
    refine r_callW (rest := []) Fx (m_X1_no l (D := D) (ci := ci) (cz := cz) (cj := cj) (q := q) (F := F) (P := P) (g := g) (th := nI 0) (he := he) (hn := hn) hq hF hP12 (nI 1) ) (cwV 1 Fx.2.2.2.2 gX1_addChild_X1_no rfl rfl rfl (by decide +kernel) ⟨Nat.le_of_ble_eq_true rfl, Nat.le_of_ble_eq_true rfl⟩) BW.bl (va_recv hK hP (ci := 1) (q0 := 0) rfl rfl) (BW.at hP hK hE hS) rfl hl.1 rfl (Nat.le_of_ble_eq_true rfl) dX1_addChild_15 ⟨Nat.zero_le _, Nat.zero_le _⟩ hS (fun _ h => h) (fun H locs hP hS _ _ => ?_)
    have hP : va_P D vwCl (w1 ci cz q (nI 1) F P g he hn) H := hP
    exact w_iret hx hb hr hlocks hS (⟨_, _, w1_n 0 (by first | (simp [k_addChild, lv, inR, inB, Int32.not_lt, Int32.not_le, h1]; done) | (simp [k_addChild, lv, inR, inB, Int32.not_lt, Int32.not_le, ]; omega)) hP⟩) (rz_n 0 (by first | (simp [k_addChild, lv, inR, inB, Int32.not_lt, Int32.not_le, h1]; done) | (simp [k_addChild, lv, inR, inB, Int32.not_lt, Int32.not_le, ]; omega))) dX1_addChild_18
set_option maxHeartbeats 4000000 in
set_option maxRecDepth 100000 in
theorem m_X1_pay (l : Launch) {D : va_G} {ci cz cj : ClassId} {q : Nat → Nat} {F P : Nat} {g : Nat → Nat → Int32} {th : Int32} {he : Nat → Int32} {hn : Nat} (hq : DQ q 9) (hF : F ≤ 6) (hP12 : P ≤ 12) (a : Int32) (b : Int32) (ha0 : Iv F P g) : Met l yX1_pay wsX1_pay ({ frames := 2, cells := 0, slots := 0, locals := 43 } : Room) (va_Pc [.ref (q 0), .int a, .int b] (B1 D ci cz cj q th F P g he hn)) (WQ (some (.int (rz (k_pay P g a b) (mn (g 4 (ix a) + b))))) (fun H => ∃ (he : Nat → Int32) (hn : Nat), va_P D vwCl (w1 ci cz q (nI (k_pay P g a b)) (sF (k_pay P g a b) F F) (sF (k_pay P g a b) P P) (sF (k_pay P g a b) (gGet g (ix a) b) g) he hn) H) (aw q 9)) 0 0 (aw q 9) := by
  refine Met.ofWr (cc := cX1_pay) (maxL := 3) (ret := (some .int)) (by decide) rfl (Nat.le_of_ble_eq_true rfl) ?_
  intro pg en s m bl mt cd ls Fx hr hlocks hB hl
  obtain ⟨hP, hK, hE⟩ := hB
  have hl : lv_has ls 3 [(0, .ref (q 0)), (1, .int a), (2, .int b)] := hl
  have Fx : CallFix pg m cd cX1_pay 3 s _ wsX1_pay RX1 := Fx
  have hx := Fx.1
  have hb := Fx.2.1
  have hin : ∀ w ∈ wsX10, w ∈ wsX1_pay := by decide +kernel
  have hS : va_S (aw q 9) s.heap s.heap [] := va_S.rf
  have hP : va_P D vwCl (w1 ci cz q th F P g he hn) s.heap := hP
  refine lv_aload_n hx hb dX1_pay_0 rfl (lv_at hl 0 rfl) ?_
  refine lv_iconst (v := nI 0) hx hb dX1_pay_1 (by decide) ?_
  refine r_put Fx hin tyX1 tyX1_ok nmX1 hK hP (d1 hq) hS 1 rfl 0 (by decide) (by decide +kernel) rfl (by decide +kernel) rfl (Nat.le_of_ble_eq_true rfl) dX1_pay_2 (fun H locs hP hS => ?_)
  have hP : va_P D vwCl (w1 ci cz q (nI 0) F P g he hn) H := hP
  refine lv_aload_n hx hb dX1_pay_5 rfl (lv_at hl 0 rfl) ?_
  refine lv_iload_n hx hb dX1_pay_6 rfl (lv_at hl 1 rfl) ?_
  refine r_callR (rest := []) Fx (m_X1_isPerson l (D := D) (ci := ci) (cz := cz) (cj := cj) (q := q) (F := F) (P := P) (g := g) (th := nI 0) (he := he) (hn := hn) hF hP12 a ) (cwV 1 Fx.2.2.2.2 gX1_pay_X1_isPerson rfl rfl rfl (by decide +kernel) ⟨Nat.le_of_ble_eq_true rfl, Nat.le_of_ble_eq_true rfl⟩) BW.bl (va_recv hK hP (ci := 1) (q0 := 0) rfl rfl) (BW.at hP hK hE hS) rfl hl.1 rfl (Nat.le_of_ble_eq_true rfl) dX1_pay_7 ⟨Nat.zero_le _, Nat.zero_le _⟩ ?_
  refine b_if_ne (tgt := 19) hx hb dX1_pay_10 (by decide) (fun h1 => ?_) (fun h1 => ?_)
  · have h1 := of_decide_eq_true h1
    obtain ⟨ja, h2, rfl⟩ := inR_of h1 (by omega)
    have h3 : ix (nI ja) = ja := ix_nI (by omega)
    refine lv_iload_n hx hb dX1_pay_19 rfl (lv_at hl 2 rfl) ?_
    refine lv_iconst (v := nI 1) hx hb dX1_pay_20 (by decide) ?_
    refine lv_sipush (v := nI 9999) hx hb dX1_pay_21 (by decide) ?_
    refine r_callRS (rest := []) Fx (m_X1_isIn l (D := D) (ci := ci) (cz := cz) (cj := cj) (q := q) (F := F) (P := P) (g := g) (th := nI 0) (he := he) (hn := hn) hF hP12 b (nI 1) (nI 9999) ) (va_cwS 3 Fx.2.2.2.2 gX1_pay_X1_isIn rfl rfl rfl (by decide +kernel) ⟨Nat.le_of_ble_eq_true rfl, Nat.le_of_ble_eq_true rfl⟩) BW.bl (BW.at hP hK hE hS) rfl hl.1 rfl (Nat.le_of_ble_eq_true rfl) dX1_pay_24 ⟨Nat.zero_le _, Nat.zero_le _⟩ ?_
    refine r_as (bI (decide (inB 1 9999 b))) rfl ?_
    refine b_if_ne (tgt := 36) hx hb dX1_pay_27 (by decide) (fun h4 => ?_) (fun h4 => ?_)
    · have h4 := of_decide_eq_true h4
      refine lv_aload_n hx hb dX1_pay_36 rfl (lv_at hl 0 rfl) ?_
      refine r_get Fx hin hK hP 1 rfl 9 (by decide) (by decide +kernel) rfl rfl dX1_pay_37 ?_
      refine lv_iload_n hx hb dX1_pay_40 rfl (lv_at hl 1 rfl) ?_
      refine r_zald Fx hK hP 4 1 rfl rfl (i := ja) (by omega) (by decide) dX1_pay_41 ?_
      refine lv_if_eq (tgt := 51) hx hb dX1_pay_42 (by decide) (fun h5 => ?_) (fun h5 => ?_)
      · refine lv_aload_n hx hb dX1_pay_51 rfl (lv_at hl 0 rfl) ?_
        refine lv_iload_n hx hb dX1_pay_52 rfl (lv_at hl 1 rfl) ?_
        refine lv_iload_n hx hb dX1_pay_53 rfl (lv_at hl 2 rfl) ?_
        refine r_callW (rest := []) Fx (m_X1_get l (D := D) (ci := ci) (cz := cz) (cj := cj) (q := q) (F := F) (P := P) (g := g) (th := nI 0) (he := he) (hn := hn) hq hF hP12 ja b (by omega)) (cwV 2 Fx.2.2.2.2 gX1_pay_X1_get rfl rfl rfl (by decide +kernel) ⟨Nat.le_of_ble_eq_true rfl, Nat.le_of_ble_eq_true rfl⟩) BW.bl (va_recv hK hP (ci := 1) (q0 := 0) rfl rfl) (BW.at hP hK hE hS) rfl hl.1 rfl (Nat.le_of_ble_eq_true rfl) dX1_pay_54 ⟨Nat.zero_le _, Nat.zero_le _⟩ hS (fun _ h => h) (fun H locs hP hS _ _ => ?_)
        have hP : va_P D vwCl (w1 ci cz q (nI 0) F P (gGet g ja b) he hn) H := hP
        refine lv_aload_n hx hb dX1_pay_57 rfl (lv_at hl 0 rfl) ?_
        refine r_get Fx hin hK hP 1 rfl 6 (by decide) (by decide +kernel) rfl rfl dX1_pay_58 ?_
        refine lv_iload_n hx hb dX1_pay_61 rfl (lv_at hl 1 rfl) ?_
        refine r_iald Fx hK hP 5 0 rfl rfl (i := ja) (by omega) (by decide) dX1_pay_62 ?_
        exact w_iret hx hb hr hlocks hS (⟨_, _, w1_0 (by simp [k_pay, lv, inR, inB, Int32.not_lt, Int32.not_le, h1, h2, h3, h4, h5]) (by simp only [h3]; exact hP)⟩) (rz_0 (by simp [k_pay, lv, inR, inB, Int32.not_lt, Int32.not_le, h1, h2, h3, h4, h5]) (by simp [gGet, va_up, upd, h3])) dX1_pay_63
      · refine lv_aload_n hx hb dX1_pay_45 rfl (lv_at hl 0 rfl) ?_
        refine lv_iconst (v := nI 3) hx hb dX1_pay_46 (by decide) ?_
        refine r_callW (rest := []) Fx (m_X1_no l (D := D) (ci := ci) (cz := cz) (cj := cj) (q := q) (F := F) (P := P) (g := g) (th := nI 0) (he := he) (hn := hn) hq hF hP12 (nI 3) ) (cwV 1 Fx.2.2.2.2 gX1_pay_X1_no rfl rfl rfl (by decide +kernel) ⟨Nat.le_of_ble_eq_true rfl, Nat.le_of_ble_eq_true rfl⟩) BW.bl (va_recv hK hP (ci := 1) (q0 := 0) rfl rfl) (BW.at hP hK hE hS) rfl hl.1 rfl (Nat.le_of_ble_eq_true rfl) dX1_pay_47 ⟨Nat.zero_le _, Nat.zero_le _⟩ hS (fun _ h => h) (fun H locs hP hS _ _ => ?_)
        have hP : va_P D vwCl (w1 ci cz q (nI 3) F P g he hn) H := hP
        exact w_iret hx hb hr hlocks hS (⟨_, _, w1_n 2 (by simp [k_pay, lv, inR, inB, Int32.not_lt, Int32.not_le, h1, h2, h3, h4, h5]) hP⟩) (rz_n 2 (by simp [k_pay, lv, inR, inB, Int32.not_lt, Int32.not_le, h1, h2, h3, h4, h5])) dX1_pay_50
    · have h4 := of_decide_eq_false h4
      refine lv_aload_n hx hb dX1_pay_30 rfl (lv_at hl 0 rfl) ?_
      refine lv_iconst (v := nI 2) hx hb dX1_pay_31 (by decide) ?_
      refine r_callW (rest := []) Fx (m_X1_no l (D := D) (ci := ci) (cz := cz) (cj := cj) (q := q) (F := F) (P := P) (g := g) (th := nI 0) (he := he) (hn := hn) hq hF hP12 (nI 2) ) (cwV 1 Fx.2.2.2.2 gX1_pay_X1_no rfl rfl rfl (by decide +kernel) ⟨Nat.le_of_ble_eq_true rfl, Nat.le_of_ble_eq_true rfl⟩) BW.bl (va_recv hK hP (ci := 1) (q0 := 0) rfl rfl) (BW.at hP hK hE hS) rfl hl.1 rfl (Nat.le_of_ble_eq_true rfl) dX1_pay_32 ⟨Nat.zero_le _, Nat.zero_le _⟩ hS (fun _ h => h) (fun H locs hP hS _ _ => ?_)
      have hP : va_P D vwCl (w1 ci cz q (nI 2) F P g he hn) H := hP
      exact w_iret hx hb hr hlocks hS (⟨_, _, w1_n 1 (by simp [k_pay, lv, inR, inB, Int32.not_lt, Int32.not_le, h1, h2, h3, h4]) hP⟩) (rz_n 1 (by simp [k_pay, lv, inR, inB, Int32.not_lt, Int32.not_le, h1, h2, h3, h4])) dX1_pay_35
  · have h1 := of_decide_eq_false h1
    refine lv_aload_n hx hb dX1_pay_13 rfl (lv_at hl 0 rfl) ?_
    refine lv_iconst (v := nI 1) hx hb dX1_pay_14 (by decide) ?_
    refine r_callW (rest := []) Fx (m_X1_no l (D := D) (ci := ci) (cz := cz) (cj := cj) (q := q) (F := F) (P := P) (g := g) (th := nI 0) (he := he) (hn := hn) hq hF hP12 (nI 1) ) (cwV 1 Fx.2.2.2.2 gX1_pay_X1_no rfl rfl rfl (by decide +kernel) ⟨Nat.le_of_ble_eq_true rfl, Nat.le_of_ble_eq_true rfl⟩) BW.bl (va_recv hK hP (ci := 1) (q0 := 0) rfl rfl) (BW.at hP hK hE hS) rfl hl.1 rfl (Nat.le_of_ble_eq_true rfl) dX1_pay_15 ⟨Nat.zero_le _, Nat.zero_le _⟩ hS (fun _ h => h) (fun H locs hP hS _ _ => ?_)
    have hP : va_P D vwCl (w1 ci cz q (nI 1) F P g he hn) H := hP
    exact w_iret hx hb hr hlocks hS (⟨_, _, w1_n 0 (by simp [k_pay, lv, inR, inB, Int32.not_lt, Int32.not_le, h1]) hP⟩) (rz_n 0 (by simp [k_pay, lv, inR, inB, Int32.not_lt, Int32.not_le, h1])) dX1_pay_18
set_option maxHeartbeats 4000000 in
set_option maxRecDepth 100000 in
theorem m_X1_grant (l : Launch) {D : va_G} {ci cz cj : ClassId} {q : Nat → Nat} {F P : Nat} {g : Nat → Nat → Int32} {th : Int32} {he : Nat → Int32} {hn : Nat} (hq : DQ q 9) (hF : F ≤ 6) (hP12 : P ≤ 12) (f : Int32) (w : Int32) (a : Int32) (b : Int32) (ha0 : Iv F P g) : Met l yX1_grant wsX1_grant ({ frames := 3, cells := 0, slots := 0, locals := 65 } : Room) (va_Pc [.ref (q 0), .int f, .int w, .int a, .int b] (B1 D ci cz cj q th F P g he hn)) (WQ (some (.int (rz (k_grant F P g f w a b) (sCro (gAdd g (ix f) (ix w) (ix a) b) P (ix f) (ix w))))) (fun H => ∃ (he : Nat → Int32) (hn : Nat), va_P D vwCl (w1 ci cz q (nI (k_grant F P g f w a b)) (sF (k_grant F P g f w a b) F F) (sF (k_grant F P g f w a b) P P) (sF (k_grant F P g f w a b) (gAdd g (ix f) (ix w) (ix a) b) g) he hn) H) (aw q 9)) 0 0 (aw q 9) := by
  refine Met.ofWr (cc := cX1_grant) (maxL := 5) (ret := (some .int)) (by decide) rfl (Nat.le_of_ble_eq_true rfl) ?_
  intro pg en s m bl mt cd ls Fx hr hlocks hB hl
  obtain ⟨hP, hK, hE⟩ := hB
  have hl : lv_has ls 5 [(0, .ref (q 0)), (1, .int f), (2, .int w), (3, .int a), (4, .int b)] := hl
  have Fx : CallFix pg m cd cX1_grant 5 s _ wsX1_grant RX1 := Fx
  have hx := Fx.1
  have hb := Fx.2.1
  have hin : ∀ w ∈ wsX10, w ∈ wsX1_grant := by decide +kernel
  have hS : va_S (aw q 9) s.heap s.heap [] := va_S.rf
  have hP : va_P D vwCl (w1 ci cz q th F P g he hn) s.heap := hP
  refine lv_aload_n hx hb dX1_grant_0 rfl (lv_at hl 0 rfl) ?_
  refine lv_iconst (v := nI 0) hx hb dX1_grant_1 (by decide) ?_
  refine r_put Fx hin tyX1 tyX1_ok nmX1 hK hP (d1 hq) hS 1 rfl 0 (by decide) (by decide +kernel) rfl (by decide +kernel) rfl (Nat.le_of_ble_eq_true rfl) dX1_grant_2 (fun H locs hP hS => ?_)
  have hP : va_P D vwCl (w1 ci cz q (nI 0) F P g he hn) H := hP
  refine lv_aload_n hx hb dX1_grant_5 rfl (lv_at hl 0 rfl) ?_
  refine lv_iload_n hx hb dX1_grant_6 rfl (lv_at hl 1 rfl) ?_
  refine lv_iload_n hx hb dX1_grant_7 rfl (lv_at hl 2 rfl) ?_
  refine r_callR (rest := []) Fx (m_X1_isWatch l (D := D) (ci := ci) (cz := cz) (cj := cj) (q := q) (F := F) (P := P) (g := g) (th := nI 0) (he := he) (hn := hn) hF hP12 f w ) (cwV 2 Fx.2.2.2.2 gX1_grant_X1_isWatch rfl rfl rfl (by decide +kernel) ⟨Nat.le_of_ble_eq_true rfl, Nat.le_of_ble_eq_true rfl⟩) BW.bl (va_recv hK hP (ci := 1) (q0 := 0) rfl rfl) (BW.at hP hK hE hS) rfl hl.1 rfl (Nat.le_of_ble_eq_true rfl) dX1_grant_8 ⟨Nat.zero_le _, Nat.zero_le _⟩ ?_
  refine b_if_eq (tgt := 22) hx hb dX1_grant_11 (by decide) (fun h1 => ?_) (fun h1 => ?_)
  · have h1 := of_decide_eq_false h1
    rcases Classical.not_and_iff_not_or_not.mp h1 with h1 | h1
    · refine lv_aload_n hx hb dX1_grant_22 rfl (lv_at hl 0 rfl) ?_
      refine lv_iconst (v := nI 1) hx hb dX1_grant_23 (by decide) ?_
      refine r_callW (rest := []) Fx (m_X1_no l (D := D) (ci := ci) (cz := cz) (cj := cj) (q := q) (F := F) (P := P) (g := g) (th := nI 0) (he := he) (hn := hn) hq hF hP12 (nI 1) ) (cwV 1 Fx.2.2.2.2 gX1_grant_X1_no rfl rfl rfl (by decide +kernel) ⟨Nat.le_of_ble_eq_true rfl, Nat.le_of_ble_eq_true rfl⟩) BW.bl (va_recv hK hP (ci := 1) (q0 := 0) rfl rfl) (BW.at hP hK hE hS) rfl hl.1 rfl (Nat.le_of_ble_eq_true rfl) dX1_grant_24 ⟨Nat.zero_le _, Nat.zero_le _⟩ hS (fun _ h => h) (fun H locs hP hS _ _ => ?_)
      have hP : va_P D vwCl (w1 ci cz q (nI 1) F P g he hn) H := hP
      exact w_iret hx hb hr hlocks hS (⟨_, _, w1_n 0 (by simp [k_grant, lv, inR, inB, Int32.not_lt, Int32.not_le, h1]) hP⟩) (rz_n 0 (by simp [k_grant, lv, inR, inB, Int32.not_lt, Int32.not_le, h1])) dX1_grant_27
    · refine lv_aload_n hx hb dX1_grant_22 rfl (lv_at hl 0 rfl) ?_
      refine lv_iconst (v := nI 1) hx hb dX1_grant_23 (by decide) ?_
      refine r_callW (rest := []) Fx (m_X1_no l (D := D) (ci := ci) (cz := cz) (cj := cj) (q := q) (F := F) (P := P) (g := g) (th := nI 0) (he := he) (hn := hn) hq hF hP12 (nI 1) ) (cwV 1 Fx.2.2.2.2 gX1_grant_X1_no rfl rfl rfl (by decide +kernel) ⟨Nat.le_of_ble_eq_true rfl, Nat.le_of_ble_eq_true rfl⟩) BW.bl (va_recv hK hP (ci := 1) (q0 := 0) rfl rfl) (BW.at hP hK hE hS) rfl hl.1 rfl (Nat.le_of_ble_eq_true rfl) dX1_grant_24 ⟨Nat.zero_le _, Nat.zero_le _⟩ hS (fun _ h => h) (fun H locs hP hS _ _ => ?_)
      have hP : va_P D vwCl (w1 ci cz q (nI 1) F P g he hn) H := hP
      exact w_iret hx hb hr hlocks hS (⟨_, _, w1_n 0 (by simp [k_grant, lv, inR, inB, Int32.not_lt, Int32.not_le, h1]) hP⟩) (rz_n 0 (by simp [k_grant, lv, inR, inB, Int32.not_lt, Int32.not_le, h1])) dX1_grant_27
  · have h1 := of_decide_eq_true h1
    obtain ⟨h2, h3⟩ := h1
    obtain ⟨jf, h4, rfl⟩ := inR_of h2 (by omega)
    have h5 : ix (nI jf) = jf := ix_nI (by omega)
    obtain ⟨jw, h6, rfl⟩ := inR_of h3 (by omega)
    have h7 : ix (nI jw) = jw := ix_nI (by omega)
    refine lv_aload_n hx hb dX1_grant_14 rfl (lv_at hl 0 rfl) ?_
    refine lv_iload_n hx hb dX1_grant_15 rfl (lv_at hl 3 rfl) ?_
    refine r_callR (rest := []) Fx (m_X1_isPerson l (D := D) (ci := ci) (cz := cz) (cj := cj) (q := q) (F := F) (P := P) (g := g) (th := nI 0) (he := he) (hn := hn) hF hP12 a ) (cwV 1 Fx.2.2.2.2 gX1_grant_X1_isPerson rfl rfl rfl (by decide +kernel) ⟨Nat.le_of_ble_eq_true rfl, Nat.le_of_ble_eq_true rfl⟩) BW.bl (va_recv hK hP (ci := 1) (q0 := 0) rfl rfl) (BW.at hP hK hE hS) rfl hl.1 rfl (Nat.le_of_ble_eq_true rfl) dX1_grant_16 ⟨Nat.zero_le _, Nat.zero_le _⟩ ?_
    refine b_if_ne (tgt := 28) hx hb dX1_grant_19 (by decide) (fun h8 => ?_) (fun h8 => ?_)
    · have h8 := of_decide_eq_true h8
      obtain ⟨ja, h9, rfl⟩ := inR_of h8 (by omega)
      have h10 : ix (nI ja) = ja := ix_nI (by omega)
      refine lv_iload hx hb dX1_grant_28 (lv_at hl 4 rfl) ?_
      refine lv_iconst (v := nI 1) hx hb dX1_grant_30 (by decide) ?_
      refine lv_bipush (v := nI 64) hx hb dX1_grant_31 (by decide) ?_
      refine r_callRS (rest := []) Fx (m_X1_isIn l (D := D) (ci := ci) (cz := cz) (cj := cj) (q := q) (F := F) (P := P) (g := g) (th := nI 0) (he := he) (hn := hn) hF hP12 b (nI 1) (nI 64) ) (va_cwS 3 Fx.2.2.2.2 gX1_grant_X1_isIn rfl rfl rfl (by decide +kernel) ⟨Nat.le_of_ble_eq_true rfl, Nat.le_of_ble_eq_true rfl⟩) BW.bl (BW.at hP hK hE hS) rfl hl.1 rfl (Nat.le_of_ble_eq_true rfl) dX1_grant_33 ⟨Nat.zero_le _, Nat.zero_le _⟩ ?_
      refine r_as (bI (decide (inB 1 64 b))) rfl ?_
      refine b_if_ne (tgt := 45) hx hb dX1_grant_36 (by decide) (fun h11 => ?_) (fun h11 => ?_)
      · have h11 := of_decide_eq_true h11
        refine lv_aload_n hx hb dX1_grant_45 rfl (lv_at hl 0 rfl) ?_
        refine r_get Fx hin hK hP 1 rfl 9 (by decide) (by decide +kernel) rfl rfl dX1_grant_46 ?_
        refine lv_iload_n hx hb dX1_grant_49 rfl (lv_at hl 3 rfl) ?_
        refine r_zald Fx hK hP 4 1 rfl rfl (i := ja) (by omega) (by decide) dX1_grant_50 ?_
        refine lv_if_ne (tgt := 65) hx hb dX1_grant_51 (by decide) (fun h12 => ?_) (fun h12 => ?_)
        · refine lv_aload_n hx hb dX1_grant_65 rfl (lv_at hl 0 rfl) ?_
          refine lv_iconst (v := nI 3) hx hb dX1_grant_66 (by decide) ?_
          refine r_callW (rest := []) Fx (m_X1_no l (D := D) (ci := ci) (cz := cz) (cj := cj) (q := q) (F := F) (P := P) (g := g) (th := nI 0) (he := he) (hn := hn) hq hF hP12 (nI 3) ) (cwV 1 Fx.2.2.2.2 gX1_grant_X1_no rfl rfl rfl (by decide +kernel) ⟨Nat.le_of_ble_eq_true rfl, Nat.le_of_ble_eq_true rfl⟩) BW.bl (va_recv hK hP (ci := 1) (q0 := 0) rfl rfl) (BW.at hP hK hE hS) rfl hl.1 rfl (Nat.le_of_ble_eq_true rfl) dX1_grant_67 ⟨Nat.zero_le _, Nat.zero_le _⟩ hS (fun _ h => h) (fun H locs hP hS _ _ => ?_)
          have hP : va_P D vwCl (w1 ci cz q (nI 3) F P g he hn) H := hP
          exact w_iret hx hb hr hlocks hS (⟨_, _, w1_n 2 (by simp [k_grant, lv, inR, inB, Int32.not_lt, Int32.not_le, h2, h3, h4, h5, h6, h7, h8, h9, h10, h11, h12]) hP⟩) (rz_n 2 (by simp [k_grant, lv, inR, inB, Int32.not_lt, Int32.not_le, h2, h3, h4, h5, h6, h7, h8, h9, h10, h11, h12])) dX1_grant_70
        · refine lv_aload_n hx hb dX1_grant_54 rfl (lv_at hl 0 rfl) ?_
          refine lv_iload_n hx hb dX1_grant_55 rfl (lv_at hl 1 rfl) ?_
          refine lv_iload_n hx hb dX1_grant_56 rfl (lv_at hl 2 rfl) ?_
          refine r_callR (rest := []) Fx (m_X1_crown l (D := D) (ci := ci) (cz := cz) (cj := cj) (q := q) (F := F) (P := P) (g := g) (th := nI 0) (he := he) (hn := hn) hF hP12 jf jw (by omega) (by omega)) (cwV 2 Fx.2.2.2.2 gX1_grant_X1_crown rfl rfl rfl (by decide +kernel) ⟨Nat.le_of_ble_eq_true rfl, Nat.le_of_ble_eq_true rfl⟩) BW.bl (va_recv hK hP (ci := 1) (q0 := 0) rfl rfl) (BW.at hP hK hE hS) rfl hl.1 rfl (Nat.le_of_ble_eq_true rfl) dX1_grant_57 ⟨Nat.zero_le _, Nat.zero_le _⟩ ?_
          refine lv_iload hx hb dX1_grant_60 (lv_at hl 4 rfl) ?_
          refine lv_icmp_ge (tgt := 71) hx hb dX1_grant_62 (by decide) (fun h13 => ?_) (fun h13 => ?_)
          · refine lv_aload_n hx hb dX1_grant_71 rfl (lv_at hl 0 rfl) ?_
            refine r_get Fx hin hK hP 1 rfl 4 (by decide) (by decide +kernel) rfl rfl dX1_grant_72 ?_
            refine lv_iload_n hx hb dX1_grant_75 rfl (lv_at hl 1 rfl) ?_
            refine lv_iload_n hx hb dX1_grant_76 rfl (lv_at hl 2 rfl) ?_
            refine lv_iload_n hx hb dX1_grant_77 rfl (lv_at hl 3 rfl) ?_
            refine r_callRS (rest := [.ref (q 3)]) Fx (m_X1_at l (D := D) (ci := ci) (cz := cz) (cj := cj) (q := q) (F := F) (P := P) (g := g) (th := nI 0) (he := he) (hn := hn) hF hP12 jf jw ja ) (va_cwS 3 Fx.2.2.2.2 gX1_grant_X1_at rfl rfl rfl (by decide +kernel) ⟨Nat.le_of_ble_eq_true rfl, Nat.le_of_ble_eq_true rfl⟩) BW.bl (BW.at hP hK hE hS) rfl hl.1 rfl (Nat.le_of_ble_eq_true rfl) dX1_grant_78 ⟨Nat.zero_le _, Nat.zero_le _⟩ ?_
            refine lv_dup2_11 hx hb dX1_grant_81 rfl rfl ?_
            refine r_iald Fx hK hP 3 0 rfl rfl (i := sl jf jw ja) (sl_lt (by omega) (by omega) (by omega)) (by decide) dX1_grant_82 ?_
            refine r_as (own g jf jw ja) rfl ?_
            refine lv_iload hx hb dX1_grant_83 (lv_at hl 4 rfl) ?_
            refine lv_iadd hx hb dX1_grant_85 ?_
            refine r_iast Fx hK hP (d1 hq) hS 3 0 rfl rfl (i := sl jf jw ja) (sl_lt (by omega) (by omega) (by omega)) (by decide) dX1_grant_86 (fun H locs hP hS => ?_)
            have hP : va_P D vwCl (w1 ci cz q (nI 0) F P (gAdd g jf jw ja b) he hn) H := hP
            refine lv_aload_n hx hb dX1_grant_87 rfl (lv_at hl 0 rfl) ?_
            refine lv_iload_n hx hb dX1_grant_88 rfl (lv_at hl 1 rfl) ?_
            refine lv_iload_n hx hb dX1_grant_89 rfl (lv_at hl 2 rfl) ?_
            refine r_callR (rest := []) Fx (m_X1_crown l (D := D) (ci := ci) (cz := cz) (cj := cj) (q := q) (F := F) (P := P) (g := gAdd g jf jw ja b) (th := nI 0) (he := he) (hn := hn) hF hP12 jf jw (by omega) (by omega)) (cwV 2 Fx.2.2.2.2 gX1_grant_X1_crown rfl rfl rfl (by decide +kernel) ⟨Nat.le_of_ble_eq_true rfl, Nat.le_of_ble_eq_true rfl⟩) BW.bl (va_recv hK hP (ci := 1) (q0 := 0) rfl rfl) (BW.at hP hK hE hS) rfl hl.1 rfl (Nat.le_of_ble_eq_true rfl) dX1_grant_90 ⟨Nat.zero_le _, Nat.zero_le _⟩ ?_
            exact w_iret hx hb hr hlocks hS (⟨_, _, w1_0 (by simp [k_grant, lv, inR, inB, Int32.not_lt, Int32.not_le, h2, h3, h4, h5, h6, h7, h8, h9, h10, h11, h12, h13, Int32.not_lt.mpr h13]) (by simp only [h5, h7, h10]; exact hP)⟩) (rz_0 (by simp [k_grant, lv, inR, inB, Int32.not_lt, Int32.not_le, h2, h3, h4, h5, h6, h7, h8, h9, h10, h11, h12, h13, Int32.not_lt.mpr h13]) (by simp [k_grant, lv, h2, h3, h4, h5, h6, h7, h8, h9, h10, h11, h12, h13, Int32.not_lt.mpr h13])) dX1_grant_93
          · have h13 := Int32.not_le.mp h13
            refine lv_aload_n hx hb dX1_grant_65 rfl (lv_at hl 0 rfl) ?_
            refine lv_iconst (v := nI 3) hx hb dX1_grant_66 (by decide) ?_
            refine r_callW (rest := []) Fx (m_X1_no l (D := D) (ci := ci) (cz := cz) (cj := cj) (q := q) (F := F) (P := P) (g := g) (th := nI 0) (he := he) (hn := hn) hq hF hP12 (nI 3) ) (cwV 1 Fx.2.2.2.2 gX1_grant_X1_no rfl rfl rfl (by decide +kernel) ⟨Nat.le_of_ble_eq_true rfl, Nat.le_of_ble_eq_true rfl⟩) BW.bl (va_recv hK hP (ci := 1) (q0 := 0) rfl rfl) (BW.at hP hK hE hS) rfl hl.1 rfl (Nat.le_of_ble_eq_true rfl) dX1_grant_67 ⟨Nat.zero_le _, Nat.zero_le _⟩ hS (fun _ h => h) (fun H locs hP hS _ _ => ?_)
            have hP : va_P D vwCl (w1 ci cz q (nI 3) F P g he hn) H := hP
            exact w_iret hx hb hr hlocks hS (⟨_, _, w1_n 2 (by simp [k_grant, lv, inR, inB, Int32.not_lt, Int32.not_le, h2, h3, h4, h5, h6, h7, h8, h9, h10, h11, h12, h13, Int32.not_le.mpr h13]) hP⟩) (rz_n 2 (by simp [k_grant, lv, inR, inB, Int32.not_lt, Int32.not_le, h2, h3, h4, h5, h6, h7, h8, h9, h10, h11, h12, h13, Int32.not_le.mpr h13])) dX1_grant_70
      · have h11 := of_decide_eq_false h11
        refine lv_aload_n hx hb dX1_grant_39 rfl (lv_at hl 0 rfl) ?_
        refine lv_iconst (v := nI 2) hx hb dX1_grant_40 (by decide) ?_
        refine r_callW (rest := []) Fx (m_X1_no l (D := D) (ci := ci) (cz := cz) (cj := cj) (q := q) (F := F) (P := P) (g := g) (th := nI 0) (he := he) (hn := hn) hq hF hP12 (nI 2) ) (cwV 1 Fx.2.2.2.2 gX1_grant_X1_no rfl rfl rfl (by decide +kernel) ⟨Nat.le_of_ble_eq_true rfl, Nat.le_of_ble_eq_true rfl⟩) BW.bl (va_recv hK hP (ci := 1) (q0 := 0) rfl rfl) (BW.at hP hK hE hS) rfl hl.1 rfl (Nat.le_of_ble_eq_true rfl) dX1_grant_41 ⟨Nat.zero_le _, Nat.zero_le _⟩ hS (fun _ h => h) (fun H locs hP hS _ _ => ?_)
        have hP : va_P D vwCl (w1 ci cz q (nI 2) F P g he hn) H := hP
        exact w_iret hx hb hr hlocks hS (⟨_, _, w1_n 1 (by simp [k_grant, lv, inR, inB, Int32.not_lt, Int32.not_le, h2, h3, h4, h5, h6, h7, h8, h9, h10, h11]) hP⟩) (rz_n 1 (by simp [k_grant, lv, inR, inB, Int32.not_lt, Int32.not_le, h2, h3, h4, h5, h6, h7, h8, h9, h10, h11])) dX1_grant_44
    · have h8 := of_decide_eq_false h8
      refine lv_aload_n hx hb dX1_grant_22 rfl (lv_at hl 0 rfl) ?_
      refine lv_iconst (v := nI 1) hx hb dX1_grant_23 (by decide) ?_
      refine r_callW (rest := []) Fx (m_X1_no l (D := D) (ci := ci) (cz := cz) (cj := cj) (q := q) (F := F) (P := P) (g := g) (th := nI 0) (he := he) (hn := hn) hq hF hP12 (nI 1) ) (cwV 1 Fx.2.2.2.2 gX1_grant_X1_no rfl rfl rfl (by decide +kernel) ⟨Nat.le_of_ble_eq_true rfl, Nat.le_of_ble_eq_true rfl⟩) BW.bl (va_recv hK hP (ci := 1) (q0 := 0) rfl rfl) (BW.at hP hK hE hS) rfl hl.1 rfl (Nat.le_of_ble_eq_true rfl) dX1_grant_24 ⟨Nat.zero_le _, Nat.zero_le _⟩ hS (fun _ h => h) (fun H locs hP hS _ _ => ?_)
      have hP : va_P D vwCl (w1 ci cz q (nI 1) F P g he hn) H := hP
      exact w_iret hx hb hr hlocks hS (⟨_, _, w1_n 0 (by simp [k_grant, lv, inR, inB, Int32.not_lt, Int32.not_le, h2, h3, h4, h5, h6, h7, h8]) hP⟩) (rz_n 0 (by simp [k_grant, lv, inR, inB, Int32.not_lt, Int32.not_le, h2, h3, h4, h5, h6, h7, h8])) dX1_grant_27
set_option maxHeartbeats 4000000 in
set_option maxRecDepth 100000 in
theorem m_X1_give (l : Launch) {D : va_G} {ci cz cj : ClassId} {q : Nat → Nat} {F P : Nat} {g : Nat → Nat → Int32} {th : Int32} {he : Nat → Int32} {hn : Nat} (hq : DQ q 9) (hF : F ≤ 6) (hP12 : P ≤ 12) (a : Int32) (b : Int32) (f : Int32) (w : Int32) (n : Int32) (ha0 : Iv F P g) : Met l yX1_give wsX1_give ({ frames := 3, cells := 0, slots := 0, locals := 65 } : Room) (va_Pc [.ref (q 0), .int a, .int b, .int f, .int w, .int n] (B1 D ci cz cj q th F P g he hn)) (WQ (some (.int (rz (k_give F P g a b f w n) (own (gGiv g (ix a) (ix b) (ix f) (ix w) n) (ix f) (ix w) (ix b))))) (fun H => ∃ (he : Nat → Int32) (hn : Nat), va_P D vwCl (w1 ci cz q (nI (k_give F P g a b f w n)) (sF (k_give F P g a b f w n) F F) (sF (k_give F P g a b f w n) P P) (sF (k_give F P g a b f w n) (gGiv g (ix a) (ix b) (ix f) (ix w) n) g) he hn) H) (aw q 9)) 0 0 (aw q 9) := by
  refine Met.ofWr (cc := cX1_give) (maxL := 6) (ret := (some .int)) (by decide) rfl (Nat.le_of_ble_eq_true rfl) ?_
  intro pg en s m bl mt cd ls Fx hr hlocks hB hl
  obtain ⟨hP, hK, hE⟩ := hB
  have hl : lv_has ls 6 [(0, .ref (q 0)), (1, .int a), (2, .int b), (3, .int f), (4, .int w), (5, .int n)] := hl
  have Fx : CallFix pg m cd cX1_give 6 s _ wsX1_give RX1 := Fx
  have hx := Fx.1
  have hb := Fx.2.1
  have hin : ∀ w ∈ wsX10, w ∈ wsX1_give := by decide +kernel
  have hS : va_S (aw q 9) s.heap s.heap [] := va_S.rf
  have hP : va_P D vwCl (w1 ci cz q th F P g he hn) s.heap := hP
  refine lv_aload_n hx hb dX1_give_0 rfl (lv_at hl 0 rfl) ?_
  refine lv_iconst (v := nI 0) hx hb dX1_give_1 (by decide) ?_
  refine r_put Fx hin tyX1 tyX1_ok nmX1 hK hP (d1 hq) hS 1 rfl 0 (by decide) (by decide +kernel) rfl (by decide +kernel) rfl (Nat.le_of_ble_eq_true rfl) dX1_give_2 (fun H locs hP hS => ?_)
  have hP : va_P D vwCl (w1 ci cz q (nI 0) F P g he hn) H := hP
  refine lv_aload_n hx hb dX1_give_5 rfl (lv_at hl 0 rfl) ?_
  refine lv_iload_n hx hb dX1_give_6 rfl (lv_at hl 1 rfl) ?_
  refine r_callR (rest := []) Fx (m_X1_isPerson l (D := D) (ci := ci) (cz := cz) (cj := cj) (q := q) (F := F) (P := P) (g := g) (th := nI 0) (he := he) (hn := hn) hF hP12 a ) (cwV 1 Fx.2.2.2.2 gX1_give_X1_isPerson rfl rfl rfl (by decide +kernel) ⟨Nat.le_of_ble_eq_true rfl, Nat.le_of_ble_eq_true rfl⟩) BW.bl (va_recv hK hP (ci := 1) (q0 := 0) rfl rfl) (BW.at hP hK hE hS) rfl hl.1 rfl (Nat.le_of_ble_eq_true rfl) dX1_give_7 ⟨Nat.zero_le _, Nat.zero_le _⟩ ?_
  refine b_if_eq (tgt := 31) hx hb dX1_give_10 (by decide) (fun h1 => ?_) (fun h1 => ?_)
  · have h1 := of_decide_eq_false h1
    refine lv_aload_n hx hb dX1_give_31 rfl (lv_at hl 0 rfl) ?_
    refine lv_iconst (v := nI 1) hx hb dX1_give_32 (by decide) ?_
    refine r_callW (rest := []) Fx (m_X1_no l (D := D) (ci := ci) (cz := cz) (cj := cj) (q := q) (F := F) (P := P) (g := g) (th := nI 0) (he := he) (hn := hn) hq hF hP12 (nI 1) ) (cwV 1 Fx.2.2.2.2 gX1_give_X1_no rfl rfl rfl (by decide +kernel) ⟨Nat.le_of_ble_eq_true rfl, Nat.le_of_ble_eq_true rfl⟩) BW.bl (va_recv hK hP (ci := 1) (q0 := 0) rfl rfl) (BW.at hP hK hE hS) rfl hl.1 rfl (Nat.le_of_ble_eq_true rfl) dX1_give_33 ⟨Nat.zero_le _, Nat.zero_le _⟩ hS (fun _ h => h) (fun H locs hP hS _ _ => ?_)
    have hP : va_P D vwCl (w1 ci cz q (nI 1) F P g he hn) H := hP
    exact w_iret hx hb hr hlocks hS (⟨_, _, w1_n 0 (by simp [k_give, lv, inR, inB, Int32.not_lt, Int32.not_le, h1]) hP⟩) (rz_n 0 (by simp [k_give, lv, inR, inB, Int32.not_lt, Int32.not_le, h1])) dX1_give_36
  · have h1 := of_decide_eq_true h1
    obtain ⟨ja, h2, rfl⟩ := inR_of h1 (by omega)
    have h3 : ix (nI ja) = ja := ix_nI (by omega)
    refine lv_aload_n hx hb dX1_give_13 rfl (lv_at hl 0 rfl) ?_
    refine lv_iload_n hx hb dX1_give_14 rfl (lv_at hl 2 rfl) ?_
    refine r_callR (rest := []) Fx (m_X1_isPerson l (D := D) (ci := ci) (cz := cz) (cj := cj) (q := q) (F := F) (P := P) (g := g) (th := nI 0) (he := he) (hn := hn) hF hP12 b ) (cwV 1 Fx.2.2.2.2 gX1_give_X1_isPerson rfl rfl rfl (by decide +kernel) ⟨Nat.le_of_ble_eq_true rfl, Nat.le_of_ble_eq_true rfl⟩) BW.bl (va_recv hK hP (ci := 1) (q0 := 0) rfl rfl) (BW.at hP hK hE hS) rfl hl.1 rfl (Nat.le_of_ble_eq_true rfl) dX1_give_15 ⟨Nat.zero_le _, Nat.zero_le _⟩ ?_
    refine b_if_eq (tgt := 31) hx hb dX1_give_18 (by decide) (fun h4 => ?_) (fun h4 => ?_)
    · have h4 := of_decide_eq_false h4
      refine lv_aload_n hx hb dX1_give_31 rfl (lv_at hl 0 rfl) ?_
      refine lv_iconst (v := nI 1) hx hb dX1_give_32 (by decide) ?_
      refine r_callW (rest := []) Fx (m_X1_no l (D := D) (ci := ci) (cz := cz) (cj := cj) (q := q) (F := F) (P := P) (g := g) (th := nI 0) (he := he) (hn := hn) hq hF hP12 (nI 1) ) (cwV 1 Fx.2.2.2.2 gX1_give_X1_no rfl rfl rfl (by decide +kernel) ⟨Nat.le_of_ble_eq_true rfl, Nat.le_of_ble_eq_true rfl⟩) BW.bl (va_recv hK hP (ci := 1) (q0 := 0) rfl rfl) (BW.at hP hK hE hS) rfl hl.1 rfl (Nat.le_of_ble_eq_true rfl) dX1_give_33 ⟨Nat.zero_le _, Nat.zero_le _⟩ hS (fun _ h => h) (fun H locs hP hS _ _ => ?_)
      have hP : va_P D vwCl (w1 ci cz q (nI 1) F P g he hn) H := hP
      exact w_iret hx hb hr hlocks hS (⟨_, _, w1_n 0 (by simp [k_give, lv, inR, inB, Int32.not_lt, Int32.not_le, h1, h2, h3, h4]) hP⟩) (rz_n 0 (by simp [k_give, lv, inR, inB, Int32.not_lt, Int32.not_le, h1, h2, h3, h4])) dX1_give_36
    · have h4 := of_decide_eq_true h4
      obtain ⟨jb, h5, rfl⟩ := inR_of h4 (by omega)
      have h6 : ix (nI jb) = jb := ix_nI (by omega)
      refine lv_aload_n hx hb dX1_give_21 rfl (lv_at hl 0 rfl) ?_
      refine lv_iload_n hx hb dX1_give_22 rfl (lv_at hl 3 rfl) ?_
      refine lv_iload hx hb dX1_give_23 (lv_at hl 4 rfl) ?_
      refine r_callR (rest := []) Fx (m_X1_isWatch l (D := D) (ci := ci) (cz := cz) (cj := cj) (q := q) (F := F) (P := P) (g := g) (th := nI 0) (he := he) (hn := hn) hF hP12 f w ) (cwV 2 Fx.2.2.2.2 gX1_give_X1_isWatch rfl rfl rfl (by decide +kernel) ⟨Nat.le_of_ble_eq_true rfl, Nat.le_of_ble_eq_true rfl⟩) BW.bl (va_recv hK hP (ci := 1) (q0 := 0) rfl rfl) (BW.at hP hK hE hS) rfl hl.1 rfl (Nat.le_of_ble_eq_true rfl) dX1_give_25 ⟨Nat.zero_le _, Nat.zero_le _⟩ ?_
      refine b_if_ne (tgt := 37) hx hb dX1_give_28 (by decide) (fun h7 => ?_) (fun h7 => ?_)
      · have h7 := of_decide_eq_true h7
        obtain ⟨h8, h9⟩ := h7
        obtain ⟨jf, h10, rfl⟩ := inR_of h8 (by omega)
        have h11 : ix (nI jf) = jf := ix_nI (by omega)
        obtain ⟨jw, h12, rfl⟩ := inR_of h9 (by omega)
        have h13 : ix (nI jw) = jw := ix_nI (by omega)
        refine lv_iload hx hb dX1_give_37 (lv_at hl 5 rfl) ?_
        refine lv_iconst (v := nI 1) hx hb dX1_give_39 (by decide) ?_
        refine lv_bipush (v := nI 64) hx hb dX1_give_40 (by decide) ?_
        refine r_callRS (rest := []) Fx (m_X1_isIn l (D := D) (ci := ci) (cz := cz) (cj := cj) (q := q) (F := F) (P := P) (g := g) (th := nI 0) (he := he) (hn := hn) hF hP12 n (nI 1) (nI 64) ) (va_cwS 3 Fx.2.2.2.2 gX1_give_X1_isIn rfl rfl rfl (by decide +kernel) ⟨Nat.le_of_ble_eq_true rfl, Nat.le_of_ble_eq_true rfl⟩) BW.bl (BW.at hP hK hE hS) rfl hl.1 rfl (Nat.le_of_ble_eq_true rfl) dX1_give_42 ⟨Nat.zero_le _, Nat.zero_le _⟩ ?_
        refine r_as (bI (decide (inB 1 64 n))) rfl ?_
        refine b_if_eq (tgt := 53) hx hb dX1_give_45 (by decide) (fun h14 => ?_) (fun h14 => ?_)
        · have h14 := of_decide_eq_false h14
          refine lv_aload_n hx hb dX1_give_53 rfl (lv_at hl 0 rfl) ?_
          refine lv_iconst (v := nI 2) hx hb dX1_give_54 (by decide) ?_
          refine r_callW (rest := []) Fx (m_X1_no l (D := D) (ci := ci) (cz := cz) (cj := cj) (q := q) (F := F) (P := P) (g := g) (th := nI 0) (he := he) (hn := hn) hq hF hP12 (nI 2) ) (cwV 1 Fx.2.2.2.2 gX1_give_X1_no rfl rfl rfl (by decide +kernel) ⟨Nat.le_of_ble_eq_true rfl, Nat.le_of_ble_eq_true rfl⟩) BW.bl (va_recv hK hP (ci := 1) (q0 := 0) rfl rfl) (BW.at hP hK hE hS) rfl hl.1 rfl (Nat.le_of_ble_eq_true rfl) dX1_give_55 ⟨Nat.zero_le _, Nat.zero_le _⟩ hS (fun _ h => h) (fun H locs hP hS _ _ => ?_)
          have hP : va_P D vwCl (w1 ci cz q (nI 2) F P g he hn) H := hP
          exact w_iret hx hb hr hlocks hS (⟨_, _, w1_n 1 (by simp [k_give, lv, inR, inB, Int32.not_lt, Int32.not_le, h1, h2, h3, h4, h5, h6, h8, h9, h10, h11, h12, h13, h14]) hP⟩) (rz_n 1 (by simp [k_give, lv, inR, inB, Int32.not_lt, Int32.not_le, h1, h2, h3, h4, h5, h6, h8, h9, h10, h11, h12, h13, h14])) dX1_give_58
        · have h14 := of_decide_eq_true h14
          refine lv_iload_n hx hb dX1_give_48 rfl (lv_at hl 1 rfl) ?_
          refine lv_iload_n hx hb dX1_give_49 rfl (lv_at hl 2 rfl) ?_
          refine n_icmp_ne (tgt := 59) hx hb (by omega) (by omega) dX1_give_50 (by decide) (fun h15 => ?_) (fun h15 => ?_)
          · have h16 : ¬ nI ja = nI jb := fun e9 => h15 ((nI_eq (by omega) (by omega)).mp e9)
            refine lv_aload_n hx hb dX1_give_59 rfl (lv_at hl 0 rfl) ?_
            refine r_get Fx hin hK hP 1 rfl 9 (by decide) (by decide +kernel) rfl rfl dX1_give_60 ?_
            refine lv_iload_n hx hb dX1_give_63 rfl (lv_at hl 2 rfl) ?_
            refine r_zald Fx hK hP 4 1 rfl rfl (i := jb) (by omega) (by decide) dX1_give_64 ?_
            refine lv_if_ne (tgt := 85) hx hb dX1_give_65 (by decide) (fun h17 => ?_) (fun h17 => ?_)
            · refine lv_aload_n hx hb dX1_give_85 rfl (lv_at hl 0 rfl) ?_
              refine lv_iconst (v := nI 3) hx hb dX1_give_86 (by decide) ?_
              refine r_callW (rest := []) Fx (m_X1_no l (D := D) (ci := ci) (cz := cz) (cj := cj) (q := q) (F := F) (P := P) (g := g) (th := nI 0) (he := he) (hn := hn) hq hF hP12 (nI 3) ) (cwV 1 Fx.2.2.2.2 gX1_give_X1_no rfl rfl rfl (by decide +kernel) ⟨Nat.le_of_ble_eq_true rfl, Nat.le_of_ble_eq_true rfl⟩) BW.bl (va_recv hK hP (ci := 1) (q0 := 0) rfl rfl) (BW.at hP hK hE hS) rfl hl.1 rfl (Nat.le_of_ble_eq_true rfl) dX1_give_87 ⟨Nat.zero_le _, Nat.zero_le _⟩ hS (fun _ h => h) (fun H locs hP hS _ _ => ?_)
              have hP : va_P D vwCl (w1 ci cz q (nI 3) F P g he hn) H := hP
              exact w_iret hx hb hr hlocks hS (⟨_, _, w1_n 2 (by simp [k_give, lv, inR, inB, Int32.not_lt, Int32.not_le, h1, h2, h3, h4, h5, h6, h8, h9, h10, h11, h12, h13, h14, h15, h16, h17]) hP⟩) (rz_n 2 (by simp [k_give, lv, inR, inB, Int32.not_lt, Int32.not_le, h1, h2, h3, h4, h5, h6, h8, h9, h10, h11, h12, h13, h14, h15, h16, h17])) dX1_give_90
            · refine lv_aload_n hx hb dX1_give_68 rfl (lv_at hl 0 rfl) ?_
              refine r_get Fx hin hK hP 1 rfl 4 (by decide) (by decide +kernel) rfl rfl dX1_give_69 ?_
              refine lv_iload_n hx hb dX1_give_72 rfl (lv_at hl 3 rfl) ?_
              refine lv_iload hx hb dX1_give_73 (lv_at hl 4 rfl) ?_
              refine lv_iload_n hx hb dX1_give_75 rfl (lv_at hl 1 rfl) ?_
              refine r_callRS (rest := [.ref (q 3)]) Fx (m_X1_at l (D := D) (ci := ci) (cz := cz) (cj := cj) (q := q) (F := F) (P := P) (g := g) (th := nI 0) (he := he) (hn := hn) hF hP12 jf jw ja ) (va_cwS 3 Fx.2.2.2.2 gX1_give_X1_at rfl rfl rfl (by decide +kernel) ⟨Nat.le_of_ble_eq_true rfl, Nat.le_of_ble_eq_true rfl⟩) BW.bl (BW.at hP hK hE hS) rfl hl.1 rfl (Nat.le_of_ble_eq_true rfl) dX1_give_76 ⟨Nat.zero_le _, Nat.zero_le _⟩ ?_
              refine r_iald Fx hK hP 3 0 rfl rfl (i := sl jf jw ja) (sl_lt (by omega) (by omega) (by omega)) (by decide) dX1_give_79 ?_
              refine r_as (own g jf jw ja) rfl ?_
              refine lv_iload hx hb dX1_give_80 (lv_at hl 5 rfl) ?_
              refine lv_icmp_ge (tgt := 91) hx hb dX1_give_82 (by decide) (fun h18 => ?_) (fun h18 => ?_)
              · refine lv_aload_n hx hb dX1_give_91 rfl (lv_at hl 0 rfl) ?_
                refine r_get Fx hin hK hP 1 rfl 4 (by decide) (by decide +kernel) rfl rfl dX1_give_92 ?_
                refine lv_iload_n hx hb dX1_give_95 rfl (lv_at hl 3 rfl) ?_
                refine lv_iload hx hb dX1_give_96 (lv_at hl 4 rfl) ?_
                refine lv_iload_n hx hb dX1_give_98 rfl (lv_at hl 1 rfl) ?_
                refine r_callRS (rest := [.ref (q 3)]) Fx (m_X1_at l (D := D) (ci := ci) (cz := cz) (cj := cj) (q := q) (F := F) (P := P) (g := g) (th := nI 0) (he := he) (hn := hn) hF hP12 jf jw ja ) (va_cwS 3 Fx.2.2.2.2 gX1_give_X1_at rfl rfl rfl (by decide +kernel) ⟨Nat.le_of_ble_eq_true rfl, Nat.le_of_ble_eq_true rfl⟩) BW.bl (BW.at hP hK hE hS) rfl hl.1 rfl (Nat.le_of_ble_eq_true rfl) dX1_give_99 ⟨Nat.zero_le _, Nat.zero_le _⟩ ?_
                refine lv_dup2_11 hx hb dX1_give_102 rfl rfl ?_
                refine r_iald Fx hK hP 3 0 rfl rfl (i := sl jf jw ja) (sl_lt (by omega) (by omega) (by omega)) (by decide) dX1_give_103 ?_
                refine r_as (own g jf jw ja) rfl ?_
                refine lv_iload hx hb dX1_give_104 (lv_at hl 5 rfl) ?_
                refine lv_isub hx hb dX1_give_106 ?_
                refine r_iast Fx hK hP (d1 hq) hS 3 0 rfl rfl (i := sl jf jw ja) (sl_lt (by omega) (by omega) (by omega)) (by decide) dX1_give_107 (fun H locs hP hS => ?_)
                have hP : va_P D vwCl (w1 ci cz q (nI 0) F P (va_up g 2 (upd (g 2) (sl jf jw ja) ((own g jf jw ja) - n))) he hn) H := hP
                refine lv_aload_n hx hb dX1_give_108 rfl (lv_at hl 0 rfl) ?_
                refine r_get Fx hin hK hP 1 rfl 4 (by decide) (by decide +kernel) rfl rfl dX1_give_109 ?_
                refine lv_iload_n hx hb dX1_give_112 rfl (lv_at hl 3 rfl) ?_
                refine lv_iload hx hb dX1_give_113 (lv_at hl 4 rfl) ?_
                refine lv_iload_n hx hb dX1_give_115 rfl (lv_at hl 2 rfl) ?_
                refine r_callRS (rest := [.ref (q 3)]) Fx (m_X1_at l (D := D) (ci := ci) (cz := cz) (cj := cj) (q := q) (F := F) (P := P) (g := va_up g 2 (upd (g 2) (sl jf jw ja) ((own g jf jw ja) - n))) (th := nI 0) (he := he) (hn := hn) hF hP12 jf jw jb ) (va_cwS 3 Fx.2.2.2.2 gX1_give_X1_at rfl rfl rfl (by decide +kernel) ⟨Nat.le_of_ble_eq_true rfl, Nat.le_of_ble_eq_true rfl⟩) BW.bl (BW.at hP hK hE hS) rfl hl.1 rfl (Nat.le_of_ble_eq_true rfl) dX1_give_116 ⟨Nat.zero_le _, Nat.zero_le _⟩ ?_
                refine lv_dup2_11 hx hb dX1_give_119 rfl rfl ?_
                refine r_iald Fx hK hP 3 0 rfl rfl (i := sl jf jw jb) (sl_lt (by omega) (by omega) (by omega)) (by decide) dX1_give_120 ?_
                refine r_as (own (va_up g 2 (upd (g 2) (sl jf jw ja) ((own g jf jw ja) - n))) jf jw jb) rfl ?_
                refine lv_iload hx hb dX1_give_121 (lv_at hl 5 rfl) ?_
                refine lv_iadd hx hb dX1_give_123 ?_
                refine r_iast Fx hK hP (d1 hq) hS 3 0 rfl rfl (i := sl jf jw jb) (sl_lt (by omega) (by omega) (by omega)) (by decide) dX1_give_124 (fun H locs hP hS => ?_)
                have hP : va_P D vwCl (w1 ci cz q (nI 0) F P (va_up (va_up g 2 (upd (g 2) (sl jf jw ja) ((own g jf jw ja) - n))) 2 (upd ((va_up g 2 (upd (g 2) (sl jf jw ja) ((own g jf jw ja) - n))) 2) (sl jf jw jb) ((own (va_up g 2 (upd (g 2) (sl jf jw ja) ((own g jf jw ja) - n))) jf jw jb) + n))) he hn) H := hP
                refine lv_aload_n hx hb dX1_give_125 rfl (lv_at hl 0 rfl) ?_
                refine r_get Fx hin hK hP 1 rfl 4 (by decide) (by decide +kernel) rfl rfl dX1_give_126 ?_
                refine lv_iload_n hx hb dX1_give_129 rfl (lv_at hl 3 rfl) ?_
                refine lv_iload hx hb dX1_give_130 (lv_at hl 4 rfl) ?_
                refine lv_iload_n hx hb dX1_give_132 rfl (lv_at hl 2 rfl) ?_
                refine r_callRS (rest := [.ref (q 3)]) Fx (m_X1_at l (D := D) (ci := ci) (cz := cz) (cj := cj) (q := q) (F := F) (P := P) (g := va_up (va_up g 2 (upd (g 2) (sl jf jw ja) ((own g jf jw ja) - n))) 2 (upd ((va_up g 2 (upd (g 2) (sl jf jw ja) ((own g jf jw ja) - n))) 2) (sl jf jw jb) ((own (va_up g 2 (upd (g 2) (sl jf jw ja) ((own g jf jw ja) - n))) jf jw jb) + n))) (th := nI 0) (he := he) (hn := hn) hF hP12 jf jw jb ) (va_cwS 3 Fx.2.2.2.2 gX1_give_X1_at rfl rfl rfl (by decide +kernel) ⟨Nat.le_of_ble_eq_true rfl, Nat.le_of_ble_eq_true rfl⟩) BW.bl (BW.at hP hK hE hS) rfl hl.1 rfl (Nat.le_of_ble_eq_true rfl) dX1_give_133 ⟨Nat.zero_le _, Nat.zero_le _⟩ ?_
                refine r_iald Fx hK hP 3 0 rfl rfl (i := sl jf jw jb) (sl_lt (by omega) (by omega) (by omega)) (by decide) dX1_give_136 ?_
                refine r_as (own (va_up (va_up g 2 (upd (g 2) (sl jf jw ja) ((own g jf jw ja) - n))) 2 (upd ((va_up g 2 (upd (g 2) (sl jf jw ja) ((own g jf jw ja) - n))) 2) (sl jf jw jb) ((own (va_up g 2 (upd (g 2) (sl jf jw ja) ((own g jf jw ja) - n))) jf jw jb) + n))) jf jw jb) rfl ?_
                exact w_iret hx hb hr hlocks hS (⟨_, _, w1_0 (by simp [k_give, lv, inR, inB, Int32.not_lt, Int32.not_le, h1, h2, h3, h4, h5, h6, h8, h9, h10, h11, h12, h13, h14, h15, h16, h17, h18, Int32.not_lt.mpr h18]) (by have e9 : gGiv g ja jb jf jw n = va_up (va_up g 2 (upd (g 2) (sl jf jw ja) ((own g jf jw ja) - n))) 2 (upd ((va_up g 2 (upd (g 2) (sl jf jw ja) ((own g jf jw ja) - n))) 2) (sl jf jw jb) ((own (va_up g 2 (upd (g 2) (sl jf jw ja) ((own g jf jw ja) - n))) jf jw jb) + n)) := (by simp [gGiv, gAdd, own, Int32.sub_eq_add_neg]); simp only [h3, h6, h11, h13]; rw [e9]; exact hP)⟩) (rz_0 (by simp [k_give, lv, inR, inB, Int32.not_lt, Int32.not_le, h1, h2, h3, h4, h5, h6, h8, h9, h10, h11, h12, h13, h14, h15, h16, h17, h18, Int32.not_lt.mpr h18]) (by simp [gGiv, gAdd, own, Int32.sub_eq_add_neg, h3, h6, h11, h13])) dX1_give_137
              · have h18 := Int32.not_le.mp h18
                refine lv_aload_n hx hb dX1_give_85 rfl (lv_at hl 0 rfl) ?_
                refine lv_iconst (v := nI 3) hx hb dX1_give_86 (by decide) ?_
                refine r_callW (rest := []) Fx (m_X1_no l (D := D) (ci := ci) (cz := cz) (cj := cj) (q := q) (F := F) (P := P) (g := g) (th := nI 0) (he := he) (hn := hn) hq hF hP12 (nI 3) ) (cwV 1 Fx.2.2.2.2 gX1_give_X1_no rfl rfl rfl (by decide +kernel) ⟨Nat.le_of_ble_eq_true rfl, Nat.le_of_ble_eq_true rfl⟩) BW.bl (va_recv hK hP (ci := 1) (q0 := 0) rfl rfl) (BW.at hP hK hE hS) rfl hl.1 rfl (Nat.le_of_ble_eq_true rfl) dX1_give_87 ⟨Nat.zero_le _, Nat.zero_le _⟩ hS (fun _ h => h) (fun H locs hP hS _ _ => ?_)
                have hP : va_P D vwCl (w1 ci cz q (nI 3) F P g he hn) H := hP
                exact w_iret hx hb hr hlocks hS (⟨_, _, w1_n 2 (by simp [k_give, lv, inR, inB, Int32.not_lt, Int32.not_le, h1, h2, h3, h4, h5, h6, h8, h9, h10, h11, h12, h13, h14, h15, h16, h17, h18, Int32.not_le.mpr h18]) hP⟩) (rz_n 2 (by simp [k_give, lv, inR, inB, Int32.not_lt, Int32.not_le, h1, h2, h3, h4, h5, h6, h8, h9, h10, h11, h12, h13, h14, h15, h16, h17, h18, Int32.not_le.mpr h18])) dX1_give_90
          · refine lv_aload_n hx hb dX1_give_53 rfl (lv_at hl 0 rfl) ?_
            refine lv_iconst (v := nI 2) hx hb dX1_give_54 (by decide) ?_
            refine r_callW (rest := []) Fx (m_X1_no l (D := D) (ci := ci) (cz := cz) (cj := cj) (q := q) (F := F) (P := P) (g := g) (th := nI 0) (he := he) (hn := hn) hq hF hP12 (nI 2) ) (cwV 1 Fx.2.2.2.2 gX1_give_X1_no rfl rfl rfl (by decide +kernel) ⟨Nat.le_of_ble_eq_true rfl, Nat.le_of_ble_eq_true rfl⟩) BW.bl (va_recv hK hP (ci := 1) (q0 := 0) rfl rfl) (BW.at hP hK hE hS) rfl hl.1 rfl (Nat.le_of_ble_eq_true rfl) dX1_give_55 ⟨Nat.zero_le _, Nat.zero_le _⟩ hS (fun _ h => h) (fun H locs hP hS _ _ => ?_)
            have hP : va_P D vwCl (w1 ci cz q (nI 2) F P g he hn) H := hP
            exact w_iret hx hb hr hlocks hS (⟨_, _, w1_n 1 (by simp [k_give, lv, inR, inB, Int32.not_lt, Int32.not_le, h1, h2, h3, h4, h5, h6, h8, h9, h10, h11, h12, h13, h14, h15]) hP⟩) (rz_n 1 (by simp [k_give, lv, inR, inB, Int32.not_lt, Int32.not_le, h1, h2, h3, h4, h5, h6, h8, h9, h10, h11, h12, h13, h14, h15])) dX1_give_58
      · have h7 := of_decide_eq_false h7
        rcases Classical.not_and_iff_not_or_not.mp h7 with h7 | h7
        · refine lv_aload_n hx hb dX1_give_31 rfl (lv_at hl 0 rfl) ?_
          refine lv_iconst (v := nI 1) hx hb dX1_give_32 (by decide) ?_
          refine r_callW (rest := []) Fx (m_X1_no l (D := D) (ci := ci) (cz := cz) (cj := cj) (q := q) (F := F) (P := P) (g := g) (th := nI 0) (he := he) (hn := hn) hq hF hP12 (nI 1) ) (cwV 1 Fx.2.2.2.2 gX1_give_X1_no rfl rfl rfl (by decide +kernel) ⟨Nat.le_of_ble_eq_true rfl, Nat.le_of_ble_eq_true rfl⟩) BW.bl (va_recv hK hP (ci := 1) (q0 := 0) rfl rfl) (BW.at hP hK hE hS) rfl hl.1 rfl (Nat.le_of_ble_eq_true rfl) dX1_give_33 ⟨Nat.zero_le _, Nat.zero_le _⟩ hS (fun _ h => h) (fun H locs hP hS _ _ => ?_)
          have hP : va_P D vwCl (w1 ci cz q (nI 1) F P g he hn) H := hP
          exact w_iret hx hb hr hlocks hS (⟨_, _, w1_n 0 (by simp [k_give, lv, inR, inB, Int32.not_lt, Int32.not_le, h1, h2, h3, h4, h5, h6, h7]) hP⟩) (rz_n 0 (by simp [k_give, lv, inR, inB, Int32.not_lt, Int32.not_le, h1, h2, h3, h4, h5, h6, h7])) dX1_give_36
        · refine lv_aload_n hx hb dX1_give_31 rfl (lv_at hl 0 rfl) ?_
          refine lv_iconst (v := nI 1) hx hb dX1_give_32 (by decide) ?_
          refine r_callW (rest := []) Fx (m_X1_no l (D := D) (ci := ci) (cz := cz) (cj := cj) (q := q) (F := F) (P := P) (g := g) (th := nI 0) (he := he) (hn := hn) hq hF hP12 (nI 1) ) (cwV 1 Fx.2.2.2.2 gX1_give_X1_no rfl rfl rfl (by decide +kernel) ⟨Nat.le_of_ble_eq_true rfl, Nat.le_of_ble_eq_true rfl⟩) BW.bl (va_recv hK hP (ci := 1) (q0 := 0) rfl rfl) (BW.at hP hK hE hS) rfl hl.1 rfl (Nat.le_of_ble_eq_true rfl) dX1_give_33 ⟨Nat.zero_le _, Nat.zero_le _⟩ hS (fun _ h => h) (fun H locs hP hS _ _ => ?_)
          have hP : va_P D vwCl (w1 ci cz q (nI 1) F P g he hn) H := hP
          exact w_iret hx hb hr hlocks hS (⟨_, _, w1_n 0 (by simp [k_give, lv, inR, inB, Int32.not_lt, Int32.not_le, h1, h2, h3, h4, h5, h6, h7]) hP⟩) (rz_n 0 (by simp [k_give, lv, inR, inB, Int32.not_lt, Int32.not_le, h1, h2, h3, h4, h5, h6, h7])) dX1_give_36
set_option maxHeartbeats 4000000 in
set_option maxRecDepth 100000 in
theorem m_X1_buy (l : Launch) {D : va_G} {ci cz cj : ClassId} {q : Nat → Nat} {F P : Nat} {g : Nat → Nat → Int32} {th : Int32} {he : Nat → Int32} {hn : Nat} (hq : DQ q 9) (hF : F ≤ 6) (hP12 : P ≤ 12) (a : Int32) (b : Int32) (f : Int32) (w : Int32) (ha0 : Iv F P g) : Met l yX1_buy wsX1_buy ({ frames := 3, cells := 0, slots := 0, locals := 72 } : Room) (va_Pc [.ref (q 0), .int a, .int b, .int f, .int w] (B1 D ci cz cj q th F P g he hn)) (WQ (some (.int (rz (k_buy F P g a b f w) (sPri g (ix f) (ix w) (ix b))))) (fun H => ∃ (he : Nat → Int32) (hn : Nat), va_P D vwCl (w1 ci cz q (nI (k_buy F P g a b f w)) (sF (k_buy F P g a b f w) F F) (sF (k_buy F P g a b f w) P P) (sF (k_buy F P g a b f w) (gBuy g (ix a) (ix b) (ix f) (ix w)) g) he hn) H) (aw q 9)) 0 0 (aw q 9) := by
  refine Met.ofWr (cc := cX1_buy) (maxL := 6) (ret := (some .int)) (by decide) rfl (Nat.le_of_ble_eq_true rfl) ?_
  intro pg en s m bl mt cd ls Fx hr hlocks hB hl
  obtain ⟨hP, hK, hE⟩ := hB
  have hl : lv_has ls 6 [(0, .ref (q 0)), (1, .int a), (2, .int b), (3, .int f), (4, .int w)] := hl
  have Fx : CallFix pg m cd cX1_buy 6 s _ wsX1_buy RX1 := Fx
  have hx := Fx.1
  have hb := Fx.2.1
  have hin : ∀ w ∈ wsX10, w ∈ wsX1_buy := by decide +kernel
  have hS : va_S (aw q 9) s.heap s.heap [] := va_S.rf
  have hP : va_P D vwCl (w1 ci cz q th F P g he hn) s.heap := hP
  refine lv_aload_n hx hb dX1_buy_0 rfl (lv_at hl 0 rfl) ?_
  refine lv_iconst (v := nI 0) hx hb dX1_buy_1 (by decide) ?_
  refine r_put Fx hin tyX1 tyX1_ok nmX1 hK hP (d1 hq) hS 1 rfl 0 (by decide) (by decide +kernel) rfl (by decide +kernel) rfl (Nat.le_of_ble_eq_true rfl) dX1_buy_2 (fun H locs hP hS => ?_)
  have hP : va_P D vwCl (w1 ci cz q (nI 0) F P g he hn) H := hP
  refine lv_aload_n hx hb dX1_buy_5 rfl (lv_at hl 0 rfl) ?_
  refine lv_iload_n hx hb dX1_buy_6 rfl (lv_at hl 1 rfl) ?_
  refine r_callR (rest := []) Fx (m_X1_isPerson l (D := D) (ci := ci) (cz := cz) (cj := cj) (q := q) (F := F) (P := P) (g := g) (th := nI 0) (he := he) (hn := hn) hF hP12 a ) (cwV 1 Fx.2.2.2.2 gX1_buy_X1_isPerson rfl rfl rfl (by decide +kernel) ⟨Nat.le_of_ble_eq_true rfl, Nat.le_of_ble_eq_true rfl⟩) BW.bl (va_recv hK hP (ci := 1) (q0 := 0) rfl rfl) (BW.at hP hK hE hS) rfl hl.1 rfl (Nat.le_of_ble_eq_true rfl) dX1_buy_7 ⟨Nat.zero_le _, Nat.zero_le _⟩ ?_
  refine b_if_eq (tgt := 31) hx hb dX1_buy_10 (by decide) (fun h1 => ?_) (fun h1 => ?_)
  · have h1 := of_decide_eq_false h1
    refine lv_aload_n hx hb dX1_buy_31 rfl (lv_at hl 0 rfl) ?_
    refine lv_iconst (v := nI 1) hx hb dX1_buy_32 (by decide) ?_
    refine r_callW (rest := []) Fx (m_X1_no l (D := D) (ci := ci) (cz := cz) (cj := cj) (q := q) (F := F) (P := P) (g := g) (th := nI 0) (he := he) (hn := hn) hq hF hP12 (nI 1) ) (cwV 1 Fx.2.2.2.2 gX1_buy_X1_no rfl rfl rfl (by decide +kernel) ⟨Nat.le_of_ble_eq_true rfl, Nat.le_of_ble_eq_true rfl⟩) BW.bl (va_recv hK hP (ci := 1) (q0 := 0) rfl rfl) (BW.at hP hK hE hS) rfl hl.1 rfl (Nat.le_of_ble_eq_true rfl) dX1_buy_33 ⟨Nat.zero_le _, Nat.zero_le _⟩ hS (fun _ h => h) (fun H locs hP hS _ _ => ?_)
    have hP : va_P D vwCl (w1 ci cz q (nI 1) F P g he hn) H := hP
    exact w_iret hx hb hr hlocks hS (⟨_, _, w1_n 0 (by simp [k_buy, lv, inR, inB, Int32.not_lt, Int32.not_le, h1]) hP⟩) (rz_n 0 (by simp [k_buy, lv, inR, inB, Int32.not_lt, Int32.not_le, h1])) dX1_buy_36
  · have h1 := of_decide_eq_true h1
    obtain ⟨ja, h2, rfl⟩ := inR_of h1 (by omega)
    have h3 : ix (nI ja) = ja := ix_nI (by omega)
    refine lv_aload_n hx hb dX1_buy_13 rfl (lv_at hl 0 rfl) ?_
    refine lv_iload_n hx hb dX1_buy_14 rfl (lv_at hl 2 rfl) ?_
    refine r_callR (rest := []) Fx (m_X1_isPerson l (D := D) (ci := ci) (cz := cz) (cj := cj) (q := q) (F := F) (P := P) (g := g) (th := nI 0) (he := he) (hn := hn) hF hP12 b ) (cwV 1 Fx.2.2.2.2 gX1_buy_X1_isPerson rfl rfl rfl (by decide +kernel) ⟨Nat.le_of_ble_eq_true rfl, Nat.le_of_ble_eq_true rfl⟩) BW.bl (va_recv hK hP (ci := 1) (q0 := 0) rfl rfl) (BW.at hP hK hE hS) rfl hl.1 rfl (Nat.le_of_ble_eq_true rfl) dX1_buy_15 ⟨Nat.zero_le _, Nat.zero_le _⟩ ?_
    refine b_if_eq (tgt := 31) hx hb dX1_buy_18 (by decide) (fun h4 => ?_) (fun h4 => ?_)
    · have h4 := of_decide_eq_false h4
      refine lv_aload_n hx hb dX1_buy_31 rfl (lv_at hl 0 rfl) ?_
      refine lv_iconst (v := nI 1) hx hb dX1_buy_32 (by decide) ?_
      refine r_callW (rest := []) Fx (m_X1_no l (D := D) (ci := ci) (cz := cz) (cj := cj) (q := q) (F := F) (P := P) (g := g) (th := nI 0) (he := he) (hn := hn) hq hF hP12 (nI 1) ) (cwV 1 Fx.2.2.2.2 gX1_buy_X1_no rfl rfl rfl (by decide +kernel) ⟨Nat.le_of_ble_eq_true rfl, Nat.le_of_ble_eq_true rfl⟩) BW.bl (va_recv hK hP (ci := 1) (q0 := 0) rfl rfl) (BW.at hP hK hE hS) rfl hl.1 rfl (Nat.le_of_ble_eq_true rfl) dX1_buy_33 ⟨Nat.zero_le _, Nat.zero_le _⟩ hS (fun _ h => h) (fun H locs hP hS _ _ => ?_)
      have hP : va_P D vwCl (w1 ci cz q (nI 1) F P g he hn) H := hP
      exact w_iret hx hb hr hlocks hS (⟨_, _, w1_n 0 (by simp [k_buy, lv, inR, inB, Int32.not_lt, Int32.not_le, h1, h2, h3, h4]) hP⟩) (rz_n 0 (by simp [k_buy, lv, inR, inB, Int32.not_lt, Int32.not_le, h1, h2, h3, h4])) dX1_buy_36
    · have h4 := of_decide_eq_true h4
      obtain ⟨jb, h5, rfl⟩ := inR_of h4 (by omega)
      have h6 : ix (nI jb) = jb := ix_nI (by omega)
      refine lv_aload_n hx hb dX1_buy_21 rfl (lv_at hl 0 rfl) ?_
      refine lv_iload_n hx hb dX1_buy_22 rfl (lv_at hl 3 rfl) ?_
      refine lv_iload hx hb dX1_buy_23 (lv_at hl 4 rfl) ?_
      refine r_callR (rest := []) Fx (m_X1_isWatch l (D := D) (ci := ci) (cz := cz) (cj := cj) (q := q) (F := F) (P := P) (g := g) (th := nI 0) (he := he) (hn := hn) hF hP12 f w ) (cwV 2 Fx.2.2.2.2 gX1_buy_X1_isWatch rfl rfl rfl (by decide +kernel) ⟨Nat.le_of_ble_eq_true rfl, Nat.le_of_ble_eq_true rfl⟩) BW.bl (va_recv hK hP (ci := 1) (q0 := 0) rfl rfl) (BW.at hP hK hE hS) rfl hl.1 rfl (Nat.le_of_ble_eq_true rfl) dX1_buy_25 ⟨Nat.zero_le _, Nat.zero_le _⟩ ?_
      refine b_if_ne (tgt := 37) hx hb dX1_buy_28 (by decide) (fun h7 => ?_) (fun h7 => ?_)
      · have h7 := of_decide_eq_true h7
        obtain ⟨h8, h9⟩ := h7
        obtain ⟨jf, h10, rfl⟩ := inR_of h8 (by omega)
        have h11 : ix (nI jf) = jf := ix_nI (by omega)
        obtain ⟨jw, h12, rfl⟩ := inR_of h9 (by omega)
        have h13 : ix (nI jw) = jw := ix_nI (by omega)
        refine lv_aload_n hx hb dX1_buy_37 rfl (lv_at hl 0 rfl) ?_
        refine lv_iload_n hx hb dX1_buy_38 rfl (lv_at hl 1 rfl) ?_
        refine lv_iload_n hx hb dX1_buy_39 rfl (lv_at hl 2 rfl) ?_
        refine lv_iload_n hx hb dX1_buy_40 rfl (lv_at hl 3 rfl) ?_
        refine lv_iload hx hb dX1_buy_41 (lv_at hl 4 rfl) ?_
        refine r_callR (rest := []) Fx (m_X1_buys l (D := D) (ci := ci) (cz := cz) (cj := cj) (q := q) (F := F) (P := P) (g := g) (th := nI 0) (he := he) (hn := hn) hF hP12 ja jb jf jw ha0 (by omega) (by omega) (by omega) (by omega)) (cwV 4 Fx.2.2.2.2 gX1_buy_X1_buys rfl rfl rfl (by decide +kernel) ⟨Nat.le_of_ble_eq_true rfl, Nat.le_of_ble_eq_true rfl⟩) BW.bl (va_recv hK hP (ci := 1) (q0 := 0) rfl rfl) (BW.at hP hK hE hS) rfl hl.1 rfl (Nat.le_of_ble_eq_true rfl) dX1_buy_43 ⟨Nat.zero_le _, Nat.zero_le _⟩ ?_
        refine b_if_ne (tgt := 55) hx hb dX1_buy_46 (by decide) (fun h14 => ?_) (fun h14 => ?_)
        · refine lv_aload_n hx hb dX1_buy_55 rfl (lv_at hl 0 rfl) ?_
          refine lv_iload_n hx hb dX1_buy_56 rfl (lv_at hl 2 rfl) ?_
          refine lv_iload_n hx hb dX1_buy_57 rfl (lv_at hl 3 rfl) ?_
          refine lv_iload hx hb dX1_buy_58 (lv_at hl 4 rfl) ?_
          refine r_callR (rest := []) Fx (m_X1_priceOf l (D := D) (ci := ci) (cz := cz) (cj := cj) (q := q) (F := F) (P := P) (g := g) (th := nI 0) (he := he) (hn := hn) hF hP12 jb jf jw (by omega) (by omega) (by omega)) (cwV 3 Fx.2.2.2.2 gX1_buy_X1_priceOf rfl rfl rfl (by decide +kernel) ⟨Nat.le_of_ble_eq_true rfl, Nat.le_of_ble_eq_true rfl⟩) BW.bl (va_recv hK hP (ci := 1) (q0 := 0) rfl rfl) (BW.at hP hK hE hS) rfl hl.1 rfl (Nat.le_of_ble_eq_true rfl) dX1_buy_60 ⟨Nat.zero_le _, Nat.zero_le _⟩ ?_
          refine lv_istore (lv' := [(5, .int (sPri g jf jw jb)), (0, .ref (q 0)), (1, .int (nI ja)), (2, .int (nI jb)), (3, .int (nI jf)), (4, .int (nI jw))]) hx hb dX1_buy_63 hl (by decide) rfl (fun ls hl => ?_)
          refine lv_aload_n hx hb dX1_buy_65 rfl (lv_at hl 1 rfl) ?_
          refine r_get Fx hin hK hP 1 rfl 6 (by decide) (by decide +kernel) rfl rfl dX1_buy_66 ?_
          refine lv_iload_n hx hb dX1_buy_69 rfl (lv_at hl 2 rfl) ?_
          refine lv_dup2_11 hx hb dX1_buy_70 rfl rfl ?_
          refine r_iald Fx hK hP 5 0 rfl rfl (i := ja) (by omega) (by decide) dX1_buy_71 ?_
          refine lv_iload hx hb dX1_buy_72 (lv_at hl 0 rfl) ?_
          refine lv_isub hx hb dX1_buy_74 ?_
          refine r_iast Fx hK hP (d1 hq) hS 5 0 rfl rfl (i := ja) (by omega) (by decide) dX1_buy_75 (fun H locs hP hS => ?_)
          have hP : va_P D vwCl (w1 ci cz q (nI 0) F P (va_up g 4 (upd (g 4) ja ((g 4 ja) - (sPri g jf jw jb)))) he hn) H := hP
          refine lv_aload_n hx hb dX1_buy_76 rfl (lv_at hl 1 rfl) ?_
          refine lv_iload_n hx hb dX1_buy_77 rfl (lv_at hl 3 rfl) ?_
          refine lv_iload hx hb dX1_buy_78 (lv_at hl 0 rfl) ?_
          refine r_callW (rest := []) Fx (m_X1_get l (D := D) (ci := ci) (cz := cz) (cj := cj) (q := q) (F := F) (P := P) (g := va_up g 4 (upd (g 4) ja ((g 4 ja) - (sPri g jf jw jb)))) (th := nI 0) (he := he) (hn := hn) hq hF hP12 jb (sPri g jf jw jb) (by omega)) (cwV 2 Fx.2.2.2.2 gX1_buy_X1_get rfl rfl rfl (by decide +kernel) ⟨Nat.le_of_ble_eq_true rfl, Nat.le_of_ble_eq_true rfl⟩) BW.bl (va_recv hK hP (ci := 1) (q0 := 0) rfl rfl) (BW.at hP hK hE hS) rfl hl.1 rfl (Nat.le_of_ble_eq_true rfl) dX1_buy_80 ⟨Nat.zero_le _, Nat.zero_le _⟩ hS (fun _ h => h) (fun H locs hP hS _ _ => ?_)
          have hP : va_P D vwCl (w1 ci cz q (nI 0) F P (gGet (va_up g 4 (upd (g 4) ja ((g 4 ja) - (sPri g jf jw jb)))) jb (sPri g jf jw jb)) he hn) H := hP
          refine lv_aload_n hx hb dX1_buy_83 rfl (lv_at hl 1 rfl) ?_
          refine r_get Fx hin hK hP 1 rfl 4 (by decide) (by decide +kernel) rfl rfl dX1_buy_84 ?_
          refine lv_iload_n hx hb dX1_buy_87 rfl (lv_at hl 4 rfl) ?_
          refine lv_iload hx hb dX1_buy_88 (lv_at hl 5 rfl) ?_
          refine lv_iload_n hx hb dX1_buy_90 rfl (lv_at hl 2 rfl) ?_
          refine r_callRS (rest := [.ref (q 3)]) Fx (m_X1_at l (D := D) (ci := ci) (cz := cz) (cj := cj) (q := q) (F := F) (P := P) (g := gGet (va_up g 4 (upd (g 4) ja ((g 4 ja) - (sPri g jf jw jb)))) jb (sPri g jf jw jb)) (th := nI 0) (he := he) (hn := hn) hF hP12 jf jw ja ) (va_cwS 3 Fx.2.2.2.2 gX1_buy_X1_at rfl rfl rfl (by decide +kernel) ⟨Nat.le_of_ble_eq_true rfl, Nat.le_of_ble_eq_true rfl⟩) BW.bl (BW.at hP hK hE hS) rfl hl.1 rfl (Nat.le_of_ble_eq_true rfl) dX1_buy_91 ⟨Nat.zero_le _, Nat.zero_le _⟩ ?_
          refine lv_dup2_11 hx hb dX1_buy_94 rfl rfl ?_
          refine r_iald Fx hK hP 3 0 rfl rfl (i := sl jf jw ja) (sl_lt (by omega) (by omega) (by omega)) (by decide) dX1_buy_95 ?_
          refine r_as (own (gGet (va_up g 4 (upd (g 4) ja ((g 4 ja) - (sPri g jf jw jb)))) jb (sPri g jf jw jb)) jf jw ja) rfl ?_
          refine lv_aload_n hx hb dX1_buy_96 rfl (lv_at hl 1 rfl) ?_
          refine r_get Fx hin hK hP 1 rfl 4 (by decide) (by decide +kernel) rfl rfl dX1_buy_97 ?_
          refine lv_iload_n hx hb dX1_buy_100 rfl (lv_at hl 4 rfl) ?_
          refine lv_iload hx hb dX1_buy_101 (lv_at hl 5 rfl) ?_
          refine lv_iload_n hx hb dX1_buy_103 rfl (lv_at hl 3 rfl) ?_
          refine r_callRS (rest := [.ref (q 3), .int (own (gGet (va_up g 4 (upd (g 4) ja ((g 4 ja) - (sPri g jf jw jb)))) jb (sPri g jf jw jb)) jf jw ja), .int (nI (sl jf jw ja)), .ref (q 3)]) Fx (m_X1_at l (D := D) (ci := ci) (cz := cz) (cj := cj) (q := q) (F := F) (P := P) (g := gGet (va_up g 4 (upd (g 4) ja ((g 4 ja) - (sPri g jf jw jb)))) jb (sPri g jf jw jb)) (th := nI 0) (he := he) (hn := hn) hF hP12 jf jw jb ) (va_cwS 3 Fx.2.2.2.2 gX1_buy_X1_at rfl rfl rfl (by decide +kernel) ⟨Nat.le_of_ble_eq_true rfl, Nat.le_of_ble_eq_true rfl⟩) BW.bl (BW.at hP hK hE hS) rfl hl.1 rfl (Nat.le_of_ble_eq_true rfl) dX1_buy_104 ⟨Nat.zero_le _, Nat.zero_le _⟩ ?_
          refine r_iald Fx hK hP 3 0 rfl rfl (i := sl jf jw jb) (sl_lt (by omega) (by omega) (by omega)) (by decide) dX1_buy_107 ?_
          refine r_as (own (gGet (va_up g 4 (upd (g 4) ja ((g 4 ja) - (sPri g jf jw jb)))) jb (sPri g jf jw jb)) jf jw jb) rfl ?_
          refine lv_iadd hx hb dX1_buy_108 ?_
          refine r_iast Fx hK hP (d1 hq) hS 3 0 rfl rfl (i := sl jf jw ja) (sl_lt (by omega) (by omega) (by omega)) (by decide) dX1_buy_109 (fun H locs hP hS => ?_)
          have hP : va_P D vwCl (w1 ci cz q (nI 0) F P (va_up (gGet (va_up g 4 (upd (g 4) ja ((g 4 ja) - (sPri g jf jw jb)))) jb (sPri g jf jw jb)) 2 (upd ((gGet (va_up g 4 (upd (g 4) ja ((g 4 ja) - (sPri g jf jw jb)))) jb (sPri g jf jw jb)) 2) (sl jf jw ja) ((own (gGet (va_up g 4 (upd (g 4) ja ((g 4 ja) - (sPri g jf jw jb)))) jb (sPri g jf jw jb)) jf jw ja) + (own (gGet (va_up g 4 (upd (g 4) ja ((g 4 ja) - (sPri g jf jw jb)))) jb (sPri g jf jw jb)) jf jw jb)))) he hn) H := hP
          refine lv_aload_n hx hb dX1_buy_110 rfl (lv_at hl 1 rfl) ?_
          refine r_get Fx hin hK hP 1 rfl 4 (by decide) (by decide +kernel) rfl rfl dX1_buy_111 ?_
          refine lv_iload_n hx hb dX1_buy_114 rfl (lv_at hl 4 rfl) ?_
          refine lv_iload hx hb dX1_buy_115 (lv_at hl 5 rfl) ?_
          refine lv_iload_n hx hb dX1_buy_117 rfl (lv_at hl 3 rfl) ?_
          refine r_callRS (rest := [.ref (q 3)]) Fx (m_X1_at l (D := D) (ci := ci) (cz := cz) (cj := cj) (q := q) (F := F) (P := P) (g := va_up (gGet (va_up g 4 (upd (g 4) ja ((g 4 ja) - (sPri g jf jw jb)))) jb (sPri g jf jw jb)) 2 (upd ((gGet (va_up g 4 (upd (g 4) ja ((g 4 ja) - (sPri g jf jw jb)))) jb (sPri g jf jw jb)) 2) (sl jf jw ja) ((own (gGet (va_up g 4 (upd (g 4) ja ((g 4 ja) - (sPri g jf jw jb)))) jb (sPri g jf jw jb)) jf jw ja) + (own (gGet (va_up g 4 (upd (g 4) ja ((g 4 ja) - (sPri g jf jw jb)))) jb (sPri g jf jw jb)) jf jw jb)))) (th := nI 0) (he := he) (hn := hn) hF hP12 jf jw jb ) (va_cwS 3 Fx.2.2.2.2 gX1_buy_X1_at rfl rfl rfl (by decide +kernel) ⟨Nat.le_of_ble_eq_true rfl, Nat.le_of_ble_eq_true rfl⟩) BW.bl (BW.at hP hK hE hS) rfl hl.1 rfl (Nat.le_of_ble_eq_true rfl) dX1_buy_118 ⟨Nat.zero_le _, Nat.zero_le _⟩ ?_
          refine lv_iconst (v := nI 0) hx hb dX1_buy_121 (by decide) ?_
          refine r_iast Fx hK hP (d1 hq) hS 3 0 rfl rfl (i := sl jf jw jb) (sl_lt (by omega) (by omega) (by omega)) (by decide) dX1_buy_122 (fun H locs hP hS => ?_)
          have hP : va_P D vwCl (w1 ci cz q (nI 0) F P (va_up (va_up (gGet (va_up g 4 (upd (g 4) ja ((g 4 ja) - (sPri g jf jw jb)))) jb (sPri g jf jw jb)) 2 (upd ((gGet (va_up g 4 (upd (g 4) ja ((g 4 ja) - (sPri g jf jw jb)))) jb (sPri g jf jw jb)) 2) (sl jf jw ja) ((own (gGet (va_up g 4 (upd (g 4) ja ((g 4 ja) - (sPri g jf jw jb)))) jb (sPri g jf jw jb)) jf jw ja) + (own (gGet (va_up g 4 (upd (g 4) ja ((g 4 ja) - (sPri g jf jw jb)))) jb (sPri g jf jw jb)) jf jw jb)))) 2 (upd ((va_up (gGet (va_up g 4 (upd (g 4) ja ((g 4 ja) - (sPri g jf jw jb)))) jb (sPri g jf jw jb)) 2 (upd ((gGet (va_up g 4 (upd (g 4) ja ((g 4 ja) - (sPri g jf jw jb)))) jb (sPri g jf jw jb)) 2) (sl jf jw ja) ((own (gGet (va_up g 4 (upd (g 4) ja ((g 4 ja) - (sPri g jf jw jb)))) jb (sPri g jf jw jb)) jf jw ja) + (own (gGet (va_up g 4 (upd (g 4) ja ((g 4 ja) - (sPri g jf jw jb)))) jb (sPri g jf jw jb)) jf jw jb)))) 2) (sl jf jw jb) (nI 0))) he hn) H := hP
          refine lv_iload hx hb dX1_buy_123 (lv_at hl 0 rfl) ?_
          exact w_iret hx hb hr hlocks hS (⟨_, _, w1_0 (by simp [k_buy, lv, inR, inB, Int32.not_lt, Int32.not_le, h1, h2, h3, h4, h5, h6, h8, h9, h10, h11, h12, h13, h14]) (by have n9 : ja ≠ jb := (by intro e9; have := h14; simp [sMay, e9] at this); have e9 := buy_1 (g := g) (b := ja) (k := jb) (f := jf) (w := jw) (by omega) (by omega) n9; simp only [h3, h6, h11, h13]; rw [← e9]; exact hP)⟩) (rz_0 (by simp [k_buy, lv, inR, inB, Int32.not_lt, Int32.not_le, h1, h2, h3, h4, h5, h6, h8, h9, h10, h11, h12, h13, h14]) (by simp [k_buy, lv, h1, h2, h3, h4, h5, h6, h8, h9, h10, h11, h12, h13, h14])) dX1_buy_125
        · refine lv_aload_n hx hb dX1_buy_49 rfl (lv_at hl 0 rfl) ?_
          refine lv_iconst (v := nI 2) hx hb dX1_buy_50 (by decide) ?_
          refine r_callW (rest := []) Fx (m_X1_no l (D := D) (ci := ci) (cz := cz) (cj := cj) (q := q) (F := F) (P := P) (g := g) (th := nI 0) (he := he) (hn := hn) hq hF hP12 (nI 2) ) (cwV 1 Fx.2.2.2.2 gX1_buy_X1_no rfl rfl rfl (by decide +kernel) ⟨Nat.le_of_ble_eq_true rfl, Nat.le_of_ble_eq_true rfl⟩) BW.bl (va_recv hK hP (ci := 1) (q0 := 0) rfl rfl) (BW.at hP hK hE hS) rfl hl.1 rfl (Nat.le_of_ble_eq_true rfl) dX1_buy_51 ⟨Nat.zero_le _, Nat.zero_le _⟩ hS (fun _ h => h) (fun H locs hP hS _ _ => ?_)
          have hP : va_P D vwCl (w1 ci cz q (nI 2) F P g he hn) H := hP
          exact w_iret hx hb hr hlocks hS (⟨_, _, w1_n 1 (by simp [k_buy, lv, inR, inB, Int32.not_lt, Int32.not_le, h1, h2, h3, h4, h5, h6, h8, h9, h10, h11, h12, h13, h14]) hP⟩) (rz_n 1 (by simp [k_buy, lv, inR, inB, Int32.not_lt, Int32.not_le, h1, h2, h3, h4, h5, h6, h8, h9, h10, h11, h12, h13, h14])) dX1_buy_54
      · have h7 := of_decide_eq_false h7
        rcases Classical.not_and_iff_not_or_not.mp h7 with h7 | h7
        · refine lv_aload_n hx hb dX1_buy_31 rfl (lv_at hl 0 rfl) ?_
          refine lv_iconst (v := nI 1) hx hb dX1_buy_32 (by decide) ?_
          refine r_callW (rest := []) Fx (m_X1_no l (D := D) (ci := ci) (cz := cz) (cj := cj) (q := q) (F := F) (P := P) (g := g) (th := nI 0) (he := he) (hn := hn) hq hF hP12 (nI 1) ) (cwV 1 Fx.2.2.2.2 gX1_buy_X1_no rfl rfl rfl (by decide +kernel) ⟨Nat.le_of_ble_eq_true rfl, Nat.le_of_ble_eq_true rfl⟩) BW.bl (va_recv hK hP (ci := 1) (q0 := 0) rfl rfl) (BW.at hP hK hE hS) rfl hl.1 rfl (Nat.le_of_ble_eq_true rfl) dX1_buy_33 ⟨Nat.zero_le _, Nat.zero_le _⟩ hS (fun _ h => h) (fun H locs hP hS _ _ => ?_)
          have hP : va_P D vwCl (w1 ci cz q (nI 1) F P g he hn) H := hP
          exact w_iret hx hb hr hlocks hS (⟨_, _, w1_n 0 (by simp [k_buy, lv, inR, inB, Int32.not_lt, Int32.not_le, h1, h2, h3, h4, h5, h6, h7]) hP⟩) (rz_n 0 (by simp [k_buy, lv, inR, inB, Int32.not_lt, Int32.not_le, h1, h2, h3, h4, h5, h6, h7])) dX1_buy_36
        · refine lv_aload_n hx hb dX1_buy_31 rfl (lv_at hl 0 rfl) ?_
          refine lv_iconst (v := nI 1) hx hb dX1_buy_32 (by decide) ?_
          refine r_callW (rest := []) Fx (m_X1_no l (D := D) (ci := ci) (cz := cz) (cj := cj) (q := q) (F := F) (P := P) (g := g) (th := nI 0) (he := he) (hn := hn) hq hF hP12 (nI 1) ) (cwV 1 Fx.2.2.2.2 gX1_buy_X1_no rfl rfl rfl (by decide +kernel) ⟨Nat.le_of_ble_eq_true rfl, Nat.le_of_ble_eq_true rfl⟩) BW.bl (va_recv hK hP (ci := 1) (q0 := 0) rfl rfl) (BW.at hP hK hE hS) rfl hl.1 rfl (Nat.le_of_ble_eq_true rfl) dX1_buy_33 ⟨Nat.zero_le _, Nat.zero_le _⟩ hS (fun _ h => h) (fun H locs hP hS _ _ => ?_)
          have hP : va_P D vwCl (w1 ci cz q (nI 1) F P g he hn) H := hP
          exact w_iret hx hb hr hlocks hS (⟨_, _, w1_n 0 (by simp [k_buy, lv, inR, inB, Int32.not_lt, Int32.not_le, h1, h2, h3, h4, h5, h6, h7]) hP⟩) (rz_n 0 (by simp [k_buy, lv, inR, inB, Int32.not_lt, Int32.not_le, h1, h2, h3, h4, h5, h6, h7])) dX1_buy_36
set_option maxHeartbeats 4000000 in
set_option maxRecDepth 100000 in
theorem m_X1_setToll (l : Launch) {D : va_G} {ci cz cj : ClassId} {q : Nat → Nat} {F P : Nat} {g : Nat → Nat → Int32} {th : Int32} {he : Nat → Int32} {hn : Nat} (hq : DQ q 9) (hF : F ≤ 6) (hP12 : P ≤ 12) (f : Int32) (a : Int32) (n : Int32) (ha0 : Iv F P g) : Met l yX1_setToll wsX1_setToll ({ frames := 3, cells := 0, slots := 0, locals := 68 } : Room) (va_Pc [.ref (q 0), .int f, .int a, .int n] (B1 D ci cz cj q th F P g he hn)) (WQ (some (.int (rz (k_setToll F P g f a n) (g 0 (ix f))))) (fun H => ∃ (he : Nat → Int32) (hn : Nat), va_P D vwCl (w1 ci cz q (nI (k_setToll F P g f a n)) (sF (k_setToll F P g f a n) F F) (sF (k_setToll F P g f a n) P P) (sF (k_setToll F P g f a n) (gTol g (ix f) n) g) he hn) H) (aw q 9)) 0 0 (aw q 9) := by
  refine Met.ofWr (cc := cX1_setToll) (maxL := 5) (ret := (some .int)) (by decide) rfl (Nat.le_of_ble_eq_true rfl) ?_
  intro pg en s m bl mt cd ls Fx hr hlocks hB hl
  obtain ⟨hP, hK, hE⟩ := hB
  have hl : lv_has ls 5 [(0, .ref (q 0)), (1, .int f), (2, .int a), (3, .int n)] := hl
  have Fx : CallFix pg m cd cX1_setToll 5 s _ wsX1_setToll RX1 := Fx
  have hx := Fx.1
  have hb := Fx.2.1
  have hin : ∀ w ∈ wsX10, w ∈ wsX1_setToll := by decide +kernel
  have hS : va_S (aw q 9) s.heap s.heap [] := va_S.rf
  have hP : va_P D vwCl (w1 ci cz q th F P g he hn) s.heap := hP
  refine lv_aload_n hx hb dX1_setToll_0 rfl (lv_at hl 0 rfl) ?_
  refine lv_iconst (v := nI 0) hx hb dX1_setToll_1 (by decide) ?_
  refine r_put Fx hin tyX1 tyX1_ok nmX1 hK hP (d1 hq) hS 1 rfl 0 (by decide) (by decide +kernel) rfl (by decide +kernel) rfl (Nat.le_of_ble_eq_true rfl) dX1_setToll_2 (fun H locs hP hS => ?_)
  have hP : va_P D vwCl (w1 ci cz q (nI 0) F P g he hn) H := hP
  refine lv_aload_n hx hb dX1_setToll_5 rfl (lv_at hl 0 rfl) ?_
  refine lv_iload_n hx hb dX1_setToll_6 rfl (lv_at hl 1 rfl) ?_
  refine r_callR (rest := []) Fx (m_X1_isFerry l (D := D) (ci := ci) (cz := cz) (cj := cj) (q := q) (F := F) (P := P) (g := g) (th := nI 0) (he := he) (hn := hn) hF hP12 f ) (cwV 1 Fx.2.2.2.2 gX1_setToll_X1_isFerry rfl rfl rfl (by decide +kernel) ⟨Nat.le_of_ble_eq_true rfl, Nat.le_of_ble_eq_true rfl⟩) BW.bl (va_recv hK hP (ci := 1) (q0 := 0) rfl rfl) (BW.at hP hK hE hS) rfl hl.1 rfl (Nat.le_of_ble_eq_true rfl) dX1_setToll_7 ⟨Nat.zero_le _, Nat.zero_le _⟩ ?_
  refine b_if_eq (tgt := 21) hx hb dX1_setToll_10 (by decide) (fun h1 => ?_) (fun h1 => ?_)
  · have h1 := of_decide_eq_false h1
    refine lv_aload_n hx hb dX1_setToll_21 rfl (lv_at hl 0 rfl) ?_
    refine lv_iconst (v := nI 1) hx hb dX1_setToll_22 (by decide) ?_
    refine r_callW (rest := []) Fx (m_X1_no l (D := D) (ci := ci) (cz := cz) (cj := cj) (q := q) (F := F) (P := P) (g := g) (th := nI 0) (he := he) (hn := hn) hq hF hP12 (nI 1) ) (cwV 1 Fx.2.2.2.2 gX1_setToll_X1_no rfl rfl rfl (by decide +kernel) ⟨Nat.le_of_ble_eq_true rfl, Nat.le_of_ble_eq_true rfl⟩) BW.bl (va_recv hK hP (ci := 1) (q0 := 0) rfl rfl) (BW.at hP hK hE hS) rfl hl.1 rfl (Nat.le_of_ble_eq_true rfl) dX1_setToll_23 ⟨Nat.zero_le _, Nat.zero_le _⟩ hS (fun _ h => h) (fun H locs hP hS _ _ => ?_)
    have hP : va_P D vwCl (w1 ci cz q (nI 1) F P g he hn) H := hP
    exact w_iret hx hb hr hlocks hS (⟨_, _, w1_n 0 (by simp [k_setToll, lv, inR, inB, Int32.not_lt, Int32.not_le, h1]) hP⟩) (rz_n 0 (by simp [k_setToll, lv, inR, inB, Int32.not_lt, Int32.not_le, h1])) dX1_setToll_26
  · have h1 := of_decide_eq_true h1
    obtain ⟨jf, h2, rfl⟩ := inR_of h1 (by omega)
    have h3 : ix (nI jf) = jf := ix_nI (by omega)
    refine lv_aload_n hx hb dX1_setToll_13 rfl (lv_at hl 0 rfl) ?_
    refine lv_iload_n hx hb dX1_setToll_14 rfl (lv_at hl 2 rfl) ?_
    refine r_callR (rest := []) Fx (m_X1_isPerson l (D := D) (ci := ci) (cz := cz) (cj := cj) (q := q) (F := F) (P := P) (g := g) (th := nI 0) (he := he) (hn := hn) hF hP12 a ) (cwV 1 Fx.2.2.2.2 gX1_setToll_X1_isPerson rfl rfl rfl (by decide +kernel) ⟨Nat.le_of_ble_eq_true rfl, Nat.le_of_ble_eq_true rfl⟩) BW.bl (va_recv hK hP (ci := 1) (q0 := 0) rfl rfl) (BW.at hP hK hE hS) rfl hl.1 rfl (Nat.le_of_ble_eq_true rfl) dX1_setToll_15 ⟨Nat.zero_le _, Nat.zero_le _⟩ ?_
    refine b_if_ne (tgt := 27) hx hb dX1_setToll_18 (by decide) (fun h4 => ?_) (fun h4 => ?_)
    · have h4 := of_decide_eq_true h4
      obtain ⟨ja, h5, rfl⟩ := inR_of h4 (by omega)
      have h6 : ix (nI ja) = ja := ix_nI (by omega)
      refine lv_iload_n hx hb dX1_setToll_27 rfl (lv_at hl 3 rfl) ?_
      refine lv_iconst (v := nI 0) hx hb dX1_setToll_28 (by decide) ?_
      refine lv_bipush (v := nI 20) hx hb dX1_setToll_29 (by decide) ?_
      refine r_callRS (rest := []) Fx (m_X1_isIn l (D := D) (ci := ci) (cz := cz) (cj := cj) (q := q) (F := F) (P := P) (g := g) (th := nI 0) (he := he) (hn := hn) hF hP12 n (nI 0) (nI 20) ) (va_cwS 3 Fx.2.2.2.2 gX1_setToll_X1_isIn rfl rfl rfl (by decide +kernel) ⟨Nat.le_of_ble_eq_true rfl, Nat.le_of_ble_eq_true rfl⟩) BW.bl (BW.at hP hK hE hS) rfl hl.1 rfl (Nat.le_of_ble_eq_true rfl) dX1_setToll_31 ⟨Nat.zero_le _, Nat.zero_le _⟩ ?_
      refine r_as (bI (decide (0 ≤ n ∧ n ≤ nI 20))) rfl ?_
      refine b_if_ne (tgt := 43) hx hb dX1_setToll_34 (by decide) (fun h7 => ?_) (fun h7 => ?_)
      · have h7 := of_decide_eq_true h7
        refine lv_aload_n hx hb dX1_setToll_43 rfl (lv_at hl 0 rfl) ?_
        refine lv_iload_n hx hb dX1_setToll_44 rfl (lv_at hl 1 rfl) ?_
        refine r_callR (rest := []) Fx (m_X1_masterOf l (D := D) (ci := ci) (cz := cz) (cj := cj) (q := q) (F := F) (P := P) (g := g) (th := nI 0) (he := he) (hn := hn) hF hP12 jf ha0 (by omega)) (cwV 1 Fx.2.2.2.2 gX1_setToll_X1_masterOf rfl rfl rfl (by decide +kernel) ⟨Nat.le_of_ble_eq_true rfl, Nat.le_of_ble_eq_true rfl⟩) BW.bl (va_recv hK hP (ci := 1) (q0 := 0) rfl rfl) (BW.at hP hK hE hS) rfl hl.1 rfl (Nat.le_of_ble_eq_true rfl) dX1_setToll_45 ⟨Nat.zero_le _, Nat.zero_le _⟩ ?_
        refine lv_iload_n hx hb dX1_setToll_48 rfl (lv_at hl 2 rfl) ?_
        refine lv_icmp_eq (tgt := 58) hx hb dX1_setToll_49 (by decide) (fun h8 => ?_) (fun h8 => ?_)
        · refine lv_aload_n hx hb dX1_setToll_58 rfl (lv_at hl 0 rfl) ?_
          refine r_get Fx hin hK hP 1 rfl 2 (by decide) (by decide +kernel) rfl rfl dX1_setToll_59 ?_
          refine lv_iload_n hx hb dX1_setToll_62 rfl (lv_at hl 1 rfl) ?_
          refine r_iald Fx hK hP 1 0 rfl rfl (i := jf) (by omega) (by decide) dX1_setToll_63 ?_
          refine lv_istore (lv' := [(4, .int (g 0 jf)), (0, .ref (q 0)), (1, .int (nI jf)), (2, .int (nI ja)), (3, .int n)]) hx hb dX1_setToll_64 hl (by decide) rfl (fun ls hl => ?_)
          refine lv_aload_n hx hb dX1_setToll_66 rfl (lv_at hl 1 rfl) ?_
          refine r_get Fx hin hK hP 1 rfl 2 (by decide) (by decide +kernel) rfl rfl dX1_setToll_67 ?_
          refine lv_iload_n hx hb dX1_setToll_70 rfl (lv_at hl 2 rfl) ?_
          refine lv_iload_n hx hb dX1_setToll_71 rfl (lv_at hl 4 rfl) ?_
          refine r_iast Fx hK hP (d1 hq) hS 1 0 rfl rfl (i := jf) (by omega) (by decide) dX1_setToll_72 (fun H locs hP hS => ?_)
          have hP : va_P D vwCl (w1 ci cz q (nI 0) F P (va_up g 0 (upd (g 0) jf n)) he hn) H := hP
          refine lv_iload hx hb dX1_setToll_73 (lv_at hl 0 rfl) ?_
          exact w_iret hx hb hr hlocks hS (⟨_, _, w1_0 (by simp [k_setToll, lv, inR, inB, Int32.not_lt, Int32.not_le, h1, h2, h3, h4, h5, h6, h7, h8]) (by simp only [h3, h6]; exact hP)⟩) (rz_0 (by simp [k_setToll, lv, inR, inB, Int32.not_lt, Int32.not_le, h1, h2, h3, h4, h5, h6, h7, h8]) (by simp [k_setToll, lv, h1, h2, h3, h4, h5, h6, h7, h8])) dX1_setToll_75
        · refine lv_aload_n hx hb dX1_setToll_52 rfl (lv_at hl 0 rfl) ?_
          refine lv_iconst (v := nI 3) hx hb dX1_setToll_53 (by decide) ?_
          refine r_callW (rest := []) Fx (m_X1_no l (D := D) (ci := ci) (cz := cz) (cj := cj) (q := q) (F := F) (P := P) (g := g) (th := nI 0) (he := he) (hn := hn) hq hF hP12 (nI 3) ) (cwV 1 Fx.2.2.2.2 gX1_setToll_X1_no rfl rfl rfl (by decide +kernel) ⟨Nat.le_of_ble_eq_true rfl, Nat.le_of_ble_eq_true rfl⟩) BW.bl (va_recv hK hP (ci := 1) (q0 := 0) rfl rfl) (BW.at hP hK hE hS) rfl hl.1 rfl (Nat.le_of_ble_eq_true rfl) dX1_setToll_54 ⟨Nat.zero_le _, Nat.zero_le _⟩ hS (fun _ h => h) (fun H locs hP hS _ _ => ?_)
          have hP : va_P D vwCl (w1 ci cz q (nI 3) F P g he hn) H := hP
          exact w_iret hx hb hr hlocks hS (⟨_, _, w1_n 2 (by simp [k_setToll, lv, inR, inB, Int32.not_lt, Int32.not_le, h1, h2, h3, h4, h5, h6, h7, h8]) hP⟩) (rz_n 2 (by simp [k_setToll, lv, inR, inB, Int32.not_lt, Int32.not_le, h1, h2, h3, h4, h5, h6, h7, h8])) dX1_setToll_57
      · have h7 := of_decide_eq_false h7
        refine lv_aload_n hx hb dX1_setToll_37 rfl (lv_at hl 0 rfl) ?_
        refine lv_iconst (v := nI 2) hx hb dX1_setToll_38 (by decide) ?_
        refine r_callW (rest := []) Fx (m_X1_no l (D := D) (ci := ci) (cz := cz) (cj := cj) (q := q) (F := F) (P := P) (g := g) (th := nI 0) (he := he) (hn := hn) hq hF hP12 (nI 2) ) (cwV 1 Fx.2.2.2.2 gX1_setToll_X1_no rfl rfl rfl (by decide +kernel) ⟨Nat.le_of_ble_eq_true rfl, Nat.le_of_ble_eq_true rfl⟩) BW.bl (va_recv hK hP (ci := 1) (q0 := 0) rfl rfl) (BW.at hP hK hE hS) rfl hl.1 rfl (Nat.le_of_ble_eq_true rfl) dX1_setToll_39 ⟨Nat.zero_le _, Nat.zero_le _⟩ hS (fun _ h => h) (fun H locs hP hS _ _ => ?_)
        have hP : va_P D vwCl (w1 ci cz q (nI 2) F P g he hn) H := hP
        exact w_iret hx hb hr hlocks hS (⟨_, _, w1_n 1 (by simp [k_setToll, lv, inR, inB, Int32.not_lt, Int32.not_le, h1, h2, h3, h4, h5, h6, h7]) hP⟩) (rz_n 1 (by simp [k_setToll, lv, inR, inB, Int32.not_lt, Int32.not_le, h1, h2, h3, h4, h5, h6, h7])) dX1_setToll_42
    · have h4 := of_decide_eq_false h4
      refine lv_aload_n hx hb dX1_setToll_21 rfl (lv_at hl 0 rfl) ?_
      refine lv_iconst (v := nI 1) hx hb dX1_setToll_22 (by decide) ?_
      refine r_callW (rest := []) Fx (m_X1_no l (D := D) (ci := ci) (cz := cz) (cj := cj) (q := q) (F := F) (P := P) (g := g) (th := nI 0) (he := he) (hn := hn) hq hF hP12 (nI 1) ) (cwV 1 Fx.2.2.2.2 gX1_setToll_X1_no rfl rfl rfl (by decide +kernel) ⟨Nat.le_of_ble_eq_true rfl, Nat.le_of_ble_eq_true rfl⟩) BW.bl (va_recv hK hP (ci := 1) (q0 := 0) rfl rfl) (BW.at hP hK hE hS) rfl hl.1 rfl (Nat.le_of_ble_eq_true rfl) dX1_setToll_23 ⟨Nat.zero_le _, Nat.zero_le _⟩ hS (fun _ h => h) (fun H locs hP hS _ _ => ?_)
      have hP : va_P D vwCl (w1 ci cz q (nI 1) F P g he hn) H := hP
      exact w_iret hx hb hr hlocks hS (⟨_, _, w1_n 0 (by simp [k_setToll, lv, inR, inB, Int32.not_lt, Int32.not_le, h1, h2, h3, h4]) hP⟩) (rz_n 0 (by simp [k_setToll, lv, inR, inB, Int32.not_lt, Int32.not_le, h1, h2, h3, h4])) dX1_setToll_26
set_option maxHeartbeats 4000000 in
set_option maxRecDepth 100000 in
theorem m_X1_carry (l : Launch) {D : va_G} {ci cz cj : ClassId} {q : Nat → Nat} {F P : Nat} {g : Nat → Nat → Int32} {th : Int32} {he : Nat → Int32} {hn : Nat} (hq : DQ q 9) (hF : F ≤ 6) (hP12 : P ≤ 12) (f : Int32) (h : Int32) (x : Int32) (ha0 : Iv F P g) : Met l yX1_carry wsX1_carry ({ frames := 2, cells := 0, slots := 0, locals := 46 } : Room) (va_Pc [.ref (q 0), .int f, .int h, .int x] (B1 D ci cz cj q th F P g he hn)) (WQ (some (.int (rz (k_carry F f h x) (lCar g (ix f) (ix h / 6) x P)))) (fun H => ∃ (he : Nat → Int32) (hn : Nat), va_P D vwCl (w1 ci cz q (nI (k_carry F f h x)) (sF (k_carry F f h x) F F) (sF (k_carry F f h x) P P) (sF (k_carry F f h x) (gCry g P (ix f) (ix h / 6) x) g) he hn) H) (aw q 9)) 0 0 (aw q 9) := by
  refine Met.ofWr (cc := cX1_carry) (maxL := 7) (ret := (some .int)) (by decide) rfl (Nat.le_of_ble_eq_true rfl) ?_
  intro pg en s m bl mt cd ls Fx hr hlocks hB hl
  obtain ⟨hP, hK, hE⟩ := hB
  have hl : lv_has ls 7 [(0, .ref (q 0)), (1, .int f), (2, .int h), (3, .int x)] := hl
  have Fx : CallFix pg m cd cX1_carry 7 s _ wsX1_carry RX1 := Fx
  have hx := Fx.1
  have hb := Fx.2.1
  have hin : ∀ w ∈ wsX10, w ∈ wsX1_carry := by decide +kernel
  have hS : va_S (aw q 9) s.heap s.heap [] := va_S.rf
  have hP : va_P D vwCl (w1 ci cz q th F P g he hn) s.heap := hP
  refine lv_aload_n hx hb dX1_carry_0 rfl (lv_at hl 0 rfl) ?_
  refine lv_iconst (v := nI 0) hx hb dX1_carry_1 (by decide) ?_
  refine r_put Fx hin tyX1 tyX1_ok nmX1 hK hP (d1 hq) hS 1 rfl 0 (by decide) (by decide +kernel) rfl (by decide +kernel) rfl (Nat.le_of_ble_eq_true rfl) dX1_carry_2 (fun H locs hP hS => ?_)
  have hP : va_P D vwCl (w1 ci cz q (nI 0) F P g he hn) H := hP
  refine lv_aload_n hx hb dX1_carry_5 rfl (lv_at hl 0 rfl) ?_
  refine lv_iload_n hx hb dX1_carry_6 rfl (lv_at hl 1 rfl) ?_
  refine r_callR (rest := []) Fx (m_X1_isFerry l (D := D) (ci := ci) (cz := cz) (cj := cj) (q := q) (F := F) (P := P) (g := g) (th := nI 0) (he := he) (hn := hn) hF hP12 f ) (cwV 1 Fx.2.2.2.2 gX1_carry_X1_isFerry rfl rfl rfl (by decide +kernel) ⟨Nat.le_of_ble_eq_true rfl, Nat.le_of_ble_eq_true rfl⟩) BW.bl (va_recv hK hP (ci := 1) (q0 := 0) rfl rfl) (BW.at hP hK hE hS) rfl hl.1 rfl (Nat.le_of_ble_eq_true rfl) dX1_carry_7 ⟨Nat.zero_le _, Nat.zero_le _⟩ ?_
  refine b_if_eq (tgt := 23) hx hb dX1_carry_10 (by decide) (fun h1 => ?_) (fun h1 => ?_)
  · have h1 := of_decide_eq_false h1
    refine lv_aload_n hx hb dX1_carry_23 rfl (lv_at hl 0 rfl) ?_
    refine lv_iconst (v := nI 1) hx hb dX1_carry_24 (by decide) ?_
    refine r_callW (rest := []) Fx (m_X1_no l (D := D) (ci := ci) (cz := cz) (cj := cj) (q := q) (F := F) (P := P) (g := g) (th := nI 0) (he := he) (hn := hn) hq hF hP12 (nI 1) ) (cwV 1 Fx.2.2.2.2 gX1_carry_X1_no rfl rfl rfl (by decide +kernel) ⟨Nat.le_of_ble_eq_true rfl, Nat.le_of_ble_eq_true rfl⟩) BW.bl (va_recv hK hP (ci := 1) (q0 := 0) rfl rfl) (BW.at hP hK hE hS) rfl hl.1 rfl (Nat.le_of_ble_eq_true rfl) dX1_carry_25 ⟨Nat.zero_le _, Nat.zero_le _⟩ hS (fun _ h => h) (fun H locs hP hS _ _ => ?_)
    have hP : va_P D vwCl (w1 ci cz q (nI 1) F P g he hn) H := hP
    exact w_iret hx hb hr hlocks hS (⟨_, _, w1_n 0 (by simp [k_carry, lv, inR, inB, Int32.not_lt, Int32.not_le, h1]) hP⟩) (rz_n 0 (by simp [k_carry, lv, inR, inB, Int32.not_lt, Int32.not_le, h1])) dX1_carry_28
  · have h1 := of_decide_eq_true h1
    obtain ⟨jf, h2, rfl⟩ := inR_of h1 (by omega)
    have h3 : ix (nI jf) = jf := ix_nI (by omega)
    refine lv_iload_n hx hb dX1_carry_13 rfl (lv_at hl 2 rfl) ?_
    refine lv_iconst (v := nI 0) hx hb dX1_carry_14 (by decide) ?_
    refine lv_bipush (v := nI 23) hx hb dX1_carry_15 (by decide) ?_
    refine r_callRS (rest := []) Fx (m_X1_isIn l (D := D) (ci := ci) (cz := cz) (cj := cj) (q := q) (F := F) (P := P) (g := g) (th := nI 0) (he := he) (hn := hn) hF hP12 h (nI 0) (nI 23) ) (va_cwS 3 Fx.2.2.2.2 gX1_carry_X1_isIn rfl rfl rfl (by decide +kernel) ⟨Nat.le_of_ble_eq_true rfl, Nat.le_of_ble_eq_true rfl⟩) BW.bl (BW.at hP hK hE hS) rfl hl.1 rfl (Nat.le_of_ble_eq_true rfl) dX1_carry_17 ⟨Nat.zero_le _, Nat.zero_le _⟩ ?_
    rw [isI_23]
    refine b_if_ne (tgt := 29) hx hb dX1_carry_20 (by decide) (fun h4 => ?_) (fun h4 => ?_)
    · have h4 := of_decide_eq_true h4
      obtain ⟨jh, h5, rfl⟩ := inR_of h4 (by omega)
      have h6 : ix (nI jh) = jh := ix_nI (by omega)
      refine lv_iload_n hx hb dX1_carry_29 rfl (lv_at hl 3 rfl) ?_
      refine lv_iconst (v := nI 1) hx hb dX1_carry_30 (by decide) ?_
      refine lv_sipush (v := nI 200) hx hb dX1_carry_31 (by decide) ?_
      refine r_callRS (rest := []) Fx (m_X1_isIn l (D := D) (ci := ci) (cz := cz) (cj := cj) (q := q) (F := F) (P := P) (g := g) (th := nI 0) (he := he) (hn := hn) hF hP12 x (nI 1) (nI 200) ) (va_cwS 3 Fx.2.2.2.2 gX1_carry_X1_isIn rfl rfl rfl (by decide +kernel) ⟨Nat.le_of_ble_eq_true rfl, Nat.le_of_ble_eq_true rfl⟩) BW.bl (BW.at hP hK hE hS) rfl hl.1 rfl (Nat.le_of_ble_eq_true rfl) dX1_carry_34 ⟨Nat.zero_le _, Nat.zero_le _⟩ ?_
      refine r_as (bI (decide (inB 1 200 x))) rfl ?_
      refine b_if_ne (tgt := 46) hx hb dX1_carry_37 (by decide) (fun h7 => ?_) (fun h7 => ?_)
      · have h7 := of_decide_eq_true h7
        refine lv_iload_n hx hb dX1_carry_46 rfl (lv_at hl 3 rfl) ?_
        refine lv_aload_n hx hb dX1_carry_47 rfl (lv_at hl 0 rfl) ?_
        refine r_get Fx hin hK hP 1 rfl 2 (by decide) (by decide +kernel) rfl rfl dX1_carry_48 ?_
        refine lv_iload_n hx hb dX1_carry_51 rfl (lv_at hl 1 rfl) ?_
        refine r_iald Fx hK hP 1 0 rfl rfl (i := jf) (by omega) (by decide) dX1_carry_52 ?_
        refine lv_imul hx hb dX1_carry_53 ?_
        refine lv_istore (lv' := [(4, .int (x * (g 0 jf))), (0, .ref (q 0)), (1, .int (nI jf)), (2, .int (nI jh)), (3, .int x)]) hx hb dX1_carry_54 hl (by decide) rfl (fun ls hl => ?_)
        refine lv_iconst (v := nI 0) hx hb dX1_carry_56 (by decide) ?_
        refine lv_istore (lv' := [(5, .int (nI 0)), (4, .int (x * (g 0 jf))), (0, .ref (q 0)), (1, .int (nI jf)), (2, .int (nI jh)), (3, .int x)]) hx hb dX1_carry_57 hl (by decide) rfl (fun ls hl => ?_)
        have e4_ : x * (g 0 jf) = lCar g jf (jh / 6) x 0 := Int32.mul_comm _ _
        rw [e4_] at hl
        refine wloop (nL := 7) (N := P) (fun _ => True) (fun i => [(0, .ref (q 0)), (1, .int (nI jf)), (2, .int (nI jh)), (3, .int x), (4, .int (lCar g jf (jh / 6) x i)), (5, .int (nI i))]) (fun i H => va_P D vwCl (w1 ci cz q (nI 0) F P (gCar g jf (jh / 6) x i) he hn) H) (trivial) (hP) hS (lv_sub hl [2, 3, 4, 5, 1, 0] rfl) ?_ ?_
        · intro h8 H locs ls hP hS hl
          have hl : lv_has ls 7 [(0, .ref (q 0)), (1, .int (nI jf)), (2, .int (nI jh)), (3, .int x), (4, .int (lCar g jf (jh / 6) x P)), (5, .int (nI P))] := hl
          have hP : va_P D vwCl (w1 ci cz q (nI 0) F P (gCar g jf (jh / 6) x P) he hn) H := hP
          refine lv_iload hx hb dX1_carry_59 (lv_at hl 5 rfl) ?_
          refine lv_aload_n hx hb dX1_carry_61 rfl (lv_at hl 0 rfl) ?_
          refine r_get Fx hin hK hP 1 rfl 5 (by decide) (by decide +kernel) rfl rfl dX1_carry_62 ?_
          refine n_icmp_ge (tgt := 112) hx hb (by omega) (by omega) dX1_carry_65 (by decide) (fun h9 => ?_) (fun h9 => by omega)
          refine lv_aload_n hx hb dX1_carry_112 rfl (lv_at hl 0 rfl) ?_
          refine r_get Fx hin hK hP 1 rfl 3 (by decide) (by decide +kernel) rfl rfl dX1_carry_113 ?_
          refine lv_iload_n hx hb dX1_carry_116 rfl (lv_at hl 1 rfl) ?_
          refine lv_dup2_11 hx hb dX1_carry_117 rfl rfl ?_
          refine r_iald Fx hK hP 2 0 rfl rfl (i := jf) (by omega) (by decide) dX1_carry_118 ?_
          refine lv_iload_n hx hb dX1_carry_119 rfl (lv_at hl 3 rfl) ?_
          refine lv_iadd hx hb dX1_carry_120 ?_
          refine r_iast Fx hK hP (d1 hq) hS 2 0 rfl rfl (i := jf) (by omega) (by decide) dX1_carry_121 (fun H locs hP hS => ?_)
          have hP : va_P D vwCl (w1 ci cz q (nI 0) F P (gCad (gCar g jf (jh / 6) x P) jf x) he hn) H := hP
          refine lv_aload_n hx hb dX1_carry_122 rfl (lv_at hl 0 rfl) ?_
          refine lv_dup hx hb dX1_carry_123 rfl ?_
          refine r_get Fx hin hK hP 1 rfl 10 (by decide) (by decide +kernel) rfl rfl dX1_carry_124 ?_
          refine lv_iload hx hb dX1_carry_127 (lv_at hl 4 rfl) ?_
          refine lv_iadd hx hb dX1_carry_129 ?_
          refine r_put Fx hin tyX1 tyX1_ok nmX1 hK hP (d1 hq) hS 1 rfl 10 (by decide) (by decide +kernel) rfl (by decide +kernel) rfl (Nat.le_of_ble_eq_true rfl) dX1_carry_130 (fun H locs hP hS => ?_)
          have hP : va_P D vwCl (w1 ci cz q (nI 0) F P (gCro (gCad (gCar g jf (jh / 6) x P) jf x) (lCar g jf (jh / 6) x P)) he hn) H := hP
          refine lv_iload hx hb dX1_carry_133 (lv_at hl 4 rfl) ?_
          exact w_iret hx hb hr hlocks hS (⟨_, _, w1_0 (by simp [k_carry, lv, inR, inB, Int32.not_lt, Int32.not_le, h1, h2, h3, h4, h5, h6, h7, h9]) (by rw [carry_1] at hP; simp only [h3, h6]; exact hP)⟩) (rz_0 (by simp [k_carry, lv, inR, inB, Int32.not_lt, Int32.not_le, h1, h2, h3, h4, h5, h6, h7, h9]) (by simp [k_carry, lv, h1, h2, h3, h4, h5, h6, h7, h9])) dX1_carry_135
        · intro i h11 h10 ih59 H locs ls hP hS hl
          have hl : lv_has ls 7 [(0, .ref (q 0)), (1, .int (nI jf)), (2, .int (nI jh)), (3, .int x), (4, .int (lCar g jf (jh / 6) x i)), (5, .int (nI i))] := hl
          have hP : va_P D vwCl (w1 ci cz q (nI 0) F P (gCar g jf (jh / 6) x i) he hn) H := hP
          refine lv_iload hx hb dX1_carry_59 (lv_at hl 5 rfl) ?_
          refine lv_aload_n hx hb dX1_carry_61 rfl (lv_at hl 0 rfl) ?_
          refine r_get Fx hin hK hP 1 rfl 5 (by decide) (by decide +kernel) rfl rfl dX1_carry_62 ?_
          refine n_icmp_ge (tgt := 112) hx hb (by omega) (by omega) dX1_carry_65 (by decide) (fun h12 => by omega) (fun h12 => ?_)
          refine lv_aload_n hx hb dX1_carry_68 rfl (lv_at hl 0 rfl) ?_
          refine lv_iload_n hx hb dX1_carry_69 rfl (lv_at hl 1 rfl) ?_
          refine lv_iload_n hx hb dX1_carry_70 rfl (lv_at hl 2 rfl) ?_
          refine lv_iload hx hb dX1_carry_71 (lv_at hl 5 rfl) ?_
          refine lv_iload_n hx hb dX1_carry_73 rfl (lv_at hl 3 rfl) ?_
          refine r_callR (rest := []) Fx (m_X1_part l (D := D) (ci := ci) (cz := cz) (cj := cj) (q := q) (F := F) (P := P) (g := gCar g jf (jh / 6) x i) (th := nI 0) (he := he) (hn := hn) hF hP12 jf jh i x (by omega) (by omega) (by omega)) (cwV 4 Fx.2.2.2.2 gX1_carry_X1_part rfl rfl rfl (by decide +kernel) ⟨Nat.le_of_ble_eq_true rfl, Nat.le_of_ble_eq_true rfl⟩) BW.bl (va_recv hK hP (ci := 1) (q0 := 0) rfl rfl) (BW.at hP hK hE hS) rfl hl.1 rfl (Nat.le_of_ble_eq_true rfl) dX1_carry_74 ⟨Nat.zero_le _, Nat.zero_le _⟩ ?_
          refine lv_istore (lv' := [(6, .int (sFar (gCar g jf (jh / 6) x i) jf (jh / 6) i x)), (0, .ref (q 0)), (1, .int (nI jf)), (2, .int (nI jh)), (3, .int x), (4, .int (lCar g jf (jh / 6) x i)), (5, .int (nI i))]) hx hb dX1_carry_77 hl (by decide) rfl (fun ls hl => ?_)
          refine lv_iload hx hb dX1_carry_79 (lv_at hl 5 rfl) ?_
          refine lv_iload hx hb dX1_carry_81 (lv_at hl 0 rfl) ?_
          refine lv_isub hx hb dX1_carry_83 ?_
          refine lv_istore (lv' := [(4, .int ((lCar g jf (jh / 6) x i) - (sFar (gCar g jf (jh / 6) x i) jf (jh / 6) i x))), (6, .int (sFar (gCar g jf (jh / 6) x i) jf (jh / 6) i x)), (0, .ref (q 0)), (1, .int (nI jf)), (2, .int (nI jh)), (3, .int x), (5, .int (nI i))]) hx hb dX1_carry_84 hl (by decide) rfl (fun ls hl => ?_)
          refine lv_aload_n hx hb dX1_carry_86 rfl (lv_at hl 2 rfl) ?_
          refine r_get Fx hin hK hP 1 rfl 7 (by decide) (by decide +kernel) rfl rfl dX1_carry_87 ?_
          refine lv_iload hx hb dX1_carry_90 (lv_at hl 6 rfl) ?_
          refine lv_dup2_11 hx hb dX1_carry_92 rfl rfl ?_
          refine r_iald Fx hK hP 6 0 rfl rfl (i := i) (by omega) (by decide) dX1_carry_93 ?_
          refine lv_iload hx hb dX1_carry_94 (lv_at hl 1 rfl) ?_
          refine lv_iadd hx hb dX1_carry_96 ?_
          refine r_iast Fx hK hP (d1 hq) hS 6 0 rfl rfl (i := i) (by omega) (by decide) dX1_carry_97 (fun H locs hP hS => ?_)
          have hP : va_P D vwCl (w1 ci cz q (nI 0) F P (gEar (gCar g jf (jh / 6) x i) i (sFar (gCar g jf (jh / 6) x i) jf (jh / 6) i x)) he hn) H := hP
          refine lv_aload_n hx hb dX1_carry_98 rfl (lv_at hl 2 rfl) ?_
          refine lv_iload hx hb dX1_carry_99 (lv_at hl 6 rfl) ?_
          refine lv_iload hx hb dX1_carry_101 (lv_at hl 1 rfl) ?_
          refine r_callW (rest := []) Fx (m_X1_get l (D := D) (ci := ci) (cz := cz) (cj := cj) (q := q) (F := F) (P := P) (g := gEar (gCar g jf (jh / 6) x i) i (sFar (gCar g jf (jh / 6) x i) jf (jh / 6) i x)) (th := nI 0) (he := he) (hn := hn) hq hF hP12 i (sFar (gCar g jf (jh / 6) x i) jf (jh / 6) i x) (by omega)) (cwV 2 Fx.2.2.2.2 gX1_carry_X1_get rfl rfl rfl (by decide +kernel) ⟨Nat.le_of_ble_eq_true rfl, Nat.le_of_ble_eq_true rfl⟩) BW.bl (va_recv hK hP (ci := 1) (q0 := 0) rfl rfl) (BW.at hP hK hE hS) rfl hl.1 rfl (Nat.le_of_ble_eq_true rfl) dX1_carry_103 ⟨Nat.zero_le _, Nat.zero_le _⟩ hS (fun _ h => h) (fun H locs hP hS _ _ => ?_)
          have hP : va_P D vwCl (w1 ci cz q (nI 0) F P (gGet (gEar (gCar g jf (jh / 6) x i) i (sFar (gCar g jf (jh / 6) x i) jf (jh / 6) i x)) i (sFar (gCar g jf (jh / 6) x i) jf (jh / 6) i x)) he hn) H := hP
          refine lv_iinc (v := nI (i + 1)) (lv' := [(5, .int (nI (i + 1))), (4, .int ((lCar g jf (jh / 6) x i) - (sFar (gCar g jf (jh / 6) x i) jf (jh / 6) i x))), (6, .int (sFar (gCar g jf (jh / 6) x i) jf (jh / 6) i x)), (0, .ref (q 0)), (1, .int (nI jf)), (2, .int (nI jh)), (3, .int x)]) hx hb dX1_carry_106 hl (k := 6) rfl (nI_inc _ 1) (by decide) rfl (fun ls hl => ?_)
          refine lv_goto (tgt := 59) hx hb dX1_carry_109 (by decide) ?_
          exact ih59 (trivial) _ _ _ (hP) hS (lv_sub hl [3, 4, 5, 6, 1, 0] rfl)
      · have h7 := of_decide_eq_false h7
        refine lv_aload_n hx hb dX1_carry_40 rfl (lv_at hl 0 rfl) ?_
        refine lv_iconst (v := nI 2) hx hb dX1_carry_41 (by decide) ?_
        refine r_callW (rest := []) Fx (m_X1_no l (D := D) (ci := ci) (cz := cz) (cj := cj) (q := q) (F := F) (P := P) (g := g) (th := nI 0) (he := he) (hn := hn) hq hF hP12 (nI 2) ) (cwV 1 Fx.2.2.2.2 gX1_carry_X1_no rfl rfl rfl (by decide +kernel) ⟨Nat.le_of_ble_eq_true rfl, Nat.le_of_ble_eq_true rfl⟩) BW.bl (va_recv hK hP (ci := 1) (q0 := 0) rfl rfl) (BW.at hP hK hE hS) rfl hl.1 rfl (Nat.le_of_ble_eq_true rfl) dX1_carry_42 ⟨Nat.zero_le _, Nat.zero_le _⟩ hS (fun _ h => h) (fun H locs hP hS _ _ => ?_)
        have hP : va_P D vwCl (w1 ci cz q (nI 2) F P g he hn) H := hP
        exact w_iret hx hb hr hlocks hS (⟨_, _, w1_n 1 (by simp [k_carry, lv, inR, inB, Int32.not_lt, Int32.not_le, h1, h2, h3, h4, h5, h6, h7]) hP⟩) (rz_n 1 (by simp [k_carry, lv, inR, inB, Int32.not_lt, Int32.not_le, h1, h2, h3, h4, h5, h6, h7])) dX1_carry_45
    · have h4 := of_decide_eq_false h4
      refine lv_aload_n hx hb dX1_carry_23 rfl (lv_at hl 0 rfl) ?_
      refine lv_iconst (v := nI 1) hx hb dX1_carry_24 (by decide) ?_
      refine r_callW (rest := []) Fx (m_X1_no l (D := D) (ci := ci) (cz := cz) (cj := cj) (q := q) (F := F) (P := P) (g := g) (th := nI 0) (he := he) (hn := hn) hq hF hP12 (nI 1) ) (cwV 1 Fx.2.2.2.2 gX1_carry_X1_no rfl rfl rfl (by decide +kernel) ⟨Nat.le_of_ble_eq_true rfl, Nat.le_of_ble_eq_true rfl⟩) BW.bl (va_recv hK hP (ci := 1) (q0 := 0) rfl rfl) (BW.at hP hK hE hS) rfl hl.1 rfl (Nat.le_of_ble_eq_true rfl) dX1_carry_25 ⟨Nat.zero_le _, Nat.zero_le _⟩ hS (fun _ h => h) (fun H locs hP hS _ _ => ?_)
      have hP : va_P D vwCl (w1 ci cz q (nI 1) F P g he hn) H := hP
      exact w_iret hx hb hr hlocks hS (⟨_, _, w1_n 0 (by simp [k_carry, lv, inR, inB, Int32.not_lt, Int32.not_le, h1, h2, h3, h4]) hP⟩) (rz_n 0 (by simp [k_carry, lv, inR, inB, Int32.not_lt, Int32.not_le, h1, h2, h3, h4])) dX1_carry_28
