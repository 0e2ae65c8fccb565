/-! FerryRightsModel, II: the face, what is asked -/
set_option maxHeartbeats 4000000 in
set_option maxRecDepth 100000 in
theorem m_X1_ferries (l : Launch) {D : va_G} {ci cz cj : ClassId} {q : Nat → Nat} {F P : Nat} {g : Nat → Nat → Int32} {th : Int32} {he : Nat → Int32} {hn : Nat} (hq : DQ q 9) (hF : F ≤ 6) (hP12 : P ≤ 12) (ha0 : Iv F P g) : Met l yX1_ferries wsX1_ferries ({ frames := 0, cells := 0, slots := 0, locals := 0 } : Room) (va_Pc [.ref (q 0)] (B1 D ci cz cj q th F P g he hn)) (WQ (some (.int (rz (0) (nI F)))) (fun H => ∃ (he : Nat → Int32) (hn : Nat), va_P D vwCl (w1 ci cz q (nI 0) F P g he hn) H) (aw q 9)) 0 0 (aw q 9) := by
  refine Met.ofWr (cc := cX1_ferries) (maxL := 1) (ret := (some .int)) (by decide) rfl (Nat.le_of_ble_eq_true rfl) ?_
  intro pg en s m bl mt cd ls Fx hr hlocks hB hl
  obtain ⟨hP, hK, hE⟩ := hB
  have hl : lv_has ls 1 [(0, .ref (q 0))] := hl
  have Fx : CallFix pg m cd cX1_ferries 1 s _ wsX1_ferries RX1 := Fx
  have hx := Fx.1
  have hb := Fx.2.1
  have hin : ∀ w ∈ wsX10, w ∈ wsX1_ferries := by decide +kernel
  have hS : va_S (aw q 9) s.heap s.heap [] := va_S.rf
  have hP : va_P D vwCl (w1 ci cz q th F P g he hn) s.heap := hP
  refine lv_aload_n hx hb dX1_ferries_0 rfl (lv_at hl 0 rfl) ?_
  refine lv_iconst (v := nI 0) hx hb dX1_ferries_1 (by decide) ?_
  refine r_put Fx hin tyX1 tyX1_ok nmX1 hK hP (d1 hq) hS 1 rfl 0 (by decide) (by decide +kernel) rfl (by decide +kernel) rfl (Nat.le_of_ble_eq_true rfl) dX1_ferries_2 (fun H locs hP hS => ?_)
  have hP : va_P D vwCl (w1 ci cz q (nI 0) F P g he hn) H := hP
  refine lv_aload_n hx hb dX1_ferries_5 rfl (lv_at hl 0 rfl) ?_
  refine r_get Fx hin hK hP 1 rfl 1 (by decide) (by decide +kernel) rfl rfl dX1_ferries_6 ?_
  exact w_iret hx hb hr hlocks hS (⟨_, _, w1_k 0 rfl hP⟩) (rz_0 rfl rfl) dX1_ferries_9
set_option maxHeartbeats 4000000 in
set_option maxRecDepth 100000 in
theorem m_X1_people (l : Launch) {D : va_G} {ci cz cj : ClassId} {q : Nat → Nat} {F P : Nat} {g : Nat → Nat → Int32} {th : Int32} {he : Nat → Int32} {hn : Nat} (hq : DQ q 9) (hF : F ≤ 6) (hP12 : P ≤ 12) (ha0 : Iv F P g) : Met l yX1_people wsX1_people ({ frames := 0, cells := 0, slots := 0, locals := 0 } : Room) (va_Pc [.ref (q 0)] (B1 D ci cz cj q th F P g he hn)) (WQ (some (.int (rz (0) (nI P)))) (fun H => ∃ (he : Nat → Int32) (hn : Nat), va_P D vwCl (w1 ci cz q (nI 0) F P g he hn) H) (aw q 9)) 0 0 (aw q 9) := by
  refine Met.ofWr (cc := cX1_people) (maxL := 1) (ret := (some .int)) (by decide) rfl (Nat.le_of_ble_eq_true rfl) ?_
  intro pg en s m bl mt cd ls Fx hr hlocks hB hl
  obtain ⟨hP, hK, hE⟩ := hB
  have hl : lv_has ls 1 [(0, .ref (q 0))] := hl
  have Fx : CallFix pg m cd cX1_people 1 s _ wsX1_people RX1 := Fx
  have hx := Fx.1
  have hb := Fx.2.1
  have hin : ∀ w ∈ wsX10, w ∈ wsX1_people := by decide +kernel
  have hS : va_S (aw q 9) s.heap s.heap [] := va_S.rf
  have hP : va_P D vwCl (w1 ci cz q th F P g he hn) s.heap := hP
  refine lv_aload_n hx hb dX1_people_0 rfl (lv_at hl 0 rfl) ?_
  refine lv_iconst (v := nI 0) hx hb dX1_people_1 (by decide) ?_
  refine r_put Fx hin tyX1 tyX1_ok nmX1 hK hP (d1 hq) hS 1 rfl 0 (by decide) (by decide +kernel) rfl (by decide +kernel) rfl (Nat.le_of_ble_eq_true rfl) dX1_people_2 (fun H locs hP hS => ?_)
  have hP : va_P D vwCl (w1 ci cz q (nI 0) F P g he hn) H := hP
  refine lv_aload_n hx hb dX1_people_5 rfl (lv_at hl 0 rfl) ?_
  refine r_get Fx hin hK hP 1 rfl 5 (by decide) (by decide +kernel) rfl rfl dX1_people_6 ?_
  exact w_iret hx hb hr hlocks hS (⟨_, _, w1_k 0 rfl hP⟩) (rz_0 rfl rfl) dX1_people_9
set_option maxHeartbeats 4000000 in
set_option maxRecDepth 100000 in
theorem m_X1_living (l : Launch) {D : va_G} {ci cz cj : ClassId} {q : Nat → Nat} {F P : Nat} {g : Nat → Nat → Int32} {th : Int32} {he : Nat → Int32} {hn : Nat} (hq : DQ q 9) (hF : F ≤ 6) (hP12 : P ≤ 12) (ha0 : Iv F P g) : Met l yX1_living wsX1_living ({ frames := 1, cells := 0, slots := 0, locals := 22 } : Room) (va_Pc [.ref (q 0)] (B1 D ci cz cj q th F P g he hn)) (WQ (some (.int (rz (0) (nI (sLiv g P))))) (fun H => ∃ (he : Nat → Int32) (hn : Nat), va_P D vwCl (w1 ci cz q (nI 0) F P g he hn) H) (aw q 9)) 0 0 (aw q 9) := by
  refine Met.ofWr (cc := cX1_living) (maxL := 1) (ret := (some .int)) (by decide) rfl (Nat.le_of_ble_eq_true rfl) ?_
  intro pg en s m bl mt cd ls Fx hr hlocks hB hl
  obtain ⟨hP, hK, hE⟩ := hB
  have hl : lv_has ls 1 [(0, .ref (q 0))] := hl
  have Fx : CallFix pg m cd cX1_living 1 s _ wsX1_living RX1 := Fx
  have hx := Fx.1
  have hb := Fx.2.1
  have hin : ∀ w ∈ wsX10, w ∈ wsX1_living := by decide +kernel
  have hS : va_S (aw q 9) s.heap s.heap [] := va_S.rf
  have hP : va_P D vwCl (w1 ci cz q th F P g he hn) s.heap := hP
  refine lv_aload_n hx hb dX1_living_0 rfl (lv_at hl 0 rfl) ?_
  refine lv_iconst (v := nI 0) hx hb dX1_living_1 (by decide) ?_
  refine r_put Fx hin tyX1 tyX1_ok nmX1 hK hP (d1 hq) hS 1 rfl 0 (by decide) (by decide +kernel) rfl (by decide +kernel) rfl (Nat.le_of_ble_eq_true rfl) dX1_living_2 (fun H locs hP hS => ?_)
  have hP : va_P D vwCl (w1 ci cz q (nI 0) F P g he hn) H := hP
  refine lv_aload_n hx hb dX1_living_5 rfl (lv_at hl 0 rfl) ?_
  refine r_callR (rest := []) Fx (m_X1_alive l (D := D) (ci := ci) (cz := cz) (cj := cj) (q := q) (F := F) (P := P) (g := g) (th := nI 0) (he := he) (hn := hn) hF hP12  ) (cwV 0 Fx.2.2.2.2 gX1_living_X1_alive rfl rfl rfl (by decide +kernel) ⟨Nat.le_of_ble_eq_true rfl, Nat.le_of_ble_eq_true rfl⟩) BW.bl (va_recv hK hP (ci := 1) (q0 := 0) rfl rfl) (BW.at hP hK hE hS) rfl hl.1 rfl (Nat.le_of_ble_eq_true rfl) dX1_living_6 ⟨Nat.zero_le _, Nat.zero_le _⟩ ?_
  exact w_iret hx hb hr hlocks hS (⟨_, _, w1_k 0 rfl hP⟩) (rz_0 rfl rfl) dX1_living_9
set_option maxHeartbeats 4000000 in
set_option maxRecDepth 100000 in
theorem m_X1_crownCoins (l : Launch) {D : va_G} {ci cz cj : ClassId} {q : Nat → Nat} {F P : Nat} {g : Nat → Nat → Int32} {th : Int32} {he : Nat → Int32} {hn : Nat} (hq : DQ q 9) (hF : F ≤ 6) (hP12 : P ≤ 12) (ha0 : Iv F P g) : Met l yX1_crownCoins wsX1_crownCoins ({ frames := 0, cells := 0, slots := 0, locals := 0 } : Room) (va_Pc [.ref (q 0)] (B1 D ci cz cj q th F P g he hn)) (WQ (some (.int (rz (0) (g 7 0)))) (fun H => ∃ (he : Nat → Int32) (hn : Nat), va_P D vwCl (w1 ci cz q (nI 0) F P g he hn) H) (aw q 9)) 0 0 (aw q 9) := by
  refine Met.ofWr (cc := cX1_crownCoins) (maxL := 1) (ret := (some .int)) (by decide) rfl (Nat.le_of_ble_eq_true rfl) ?_
  intro pg en s m bl mt cd ls Fx hr hlocks hB hl
  obtain ⟨hP, hK, hE⟩ := hB
  have hl : lv_has ls 1 [(0, .ref (q 0))] := hl
  have Fx : CallFix pg m cd cX1_crownCoins 1 s _ wsX1_crownCoins RX1 := Fx
  have hx := Fx.1
  have hb := Fx.2.1
  have hin : ∀ w ∈ wsX10, w ∈ wsX1_crownCoins := by decide +kernel
  have hS : va_S (aw q 9) s.heap s.heap [] := va_S.rf
  have hP : va_P D vwCl (w1 ci cz q th F P g he hn) s.heap := hP
  refine lv_aload_n hx hb dX1_crownCoins_0 rfl (lv_at hl 0 rfl) ?_
  refine lv_iconst (v := nI 0) hx hb dX1_crownCoins_1 (by decide) ?_
  refine r_put Fx hin tyX1 tyX1_ok nmX1 hK hP (d1 hq) hS 1 rfl 0 (by decide) (by decide +kernel) rfl (by decide +kernel) rfl (Nat.le_of_ble_eq_true rfl) dX1_crownCoins_2 (fun H locs hP hS => ?_)
  have hP : va_P D vwCl (w1 ci cz q (nI 0) F P g he hn) H := hP
  refine lv_aload_n hx hb dX1_crownCoins_5 rfl (lv_at hl 0 rfl) ?_
  refine r_get Fx hin hK hP 1 rfl 10 (by decide) (by decide +kernel) rfl rfl dX1_crownCoins_6 ?_
  exact w_iret hx hb hr hlocks hS (⟨_, _, w1_k 0 rfl hP⟩) (rz_0 rfl rfl) dX1_crownCoins_9
set_option maxHeartbeats 4000000 in
set_option maxRecDepth 100000 in
theorem m_X1_toll (l : Launch) {D : va_G} {ci cz cj : ClassId} {q : Nat → Nat} {F P : Nat} {g : Nat → Nat → Int32} {th : Int32} {he : Nat → Int32} {hn : Nat} (hq : DQ q 9) (hF : F ≤ 6) (hP12 : P ≤ 12) (a : Int32) (ha0 : Iv F P g) : Met l yX1_toll wsX1_toll ({ frames := 2, cells := 0, slots := 0, locals := 43 } : Room) (va_Pc [.ref (q 0), .int a] (B1 D ci cz cj q th F P g he hn)) (WQ (some (.int (rz (k_1 F a) (g 0 (ix a))))) (fun H => ∃ (he : Nat → Int32) (hn : Nat), va_P D vwCl (w1 ci cz q (nI (k_1 F a)) F P g he hn) H) (aw q 9)) 0 0 (aw q 9) := by
  refine Met.ofWr (cc := cX1_toll) (maxL := 2) (ret := (some .int)) (by decide) rfl (Nat.le_of_ble_eq_true rfl) ?_
  intro pg en s m bl mt cd ls Fx hr hlocks hB hl
  obtain ⟨hP, hK, hE⟩ := hB
  have hl : lv_has ls 2 [(0, .ref (q 0)), (1, .int a)] := hl
  have Fx : CallFix pg m cd cX1_toll 2 s _ wsX1_toll RX1 := Fx
  have hx := Fx.1
  have hb := Fx.2.1
  have hin : ∀ w ∈ wsX10, w ∈ wsX1_toll := by decide +kernel
  have hS : va_S (aw q 9) s.heap s.heap [] := va_S.rf
  have hP : va_P D vwCl (w1 ci cz q th F P g he hn) s.heap := hP
  refine lv_aload_n hx hb dX1_toll_0 rfl (lv_at hl 0 rfl) ?_
  refine lv_iconst (v := nI 0) hx hb dX1_toll_1 (by decide) ?_
  refine r_put Fx hin tyX1 tyX1_ok nmX1 hK hP (d1 hq) hS 1 rfl 0 (by decide) (by decide +kernel) rfl (by decide +kernel) rfl (Nat.le_of_ble_eq_true rfl) dX1_toll_2 (fun H locs hP hS => ?_)
  have hP : va_P D vwCl (w1 ci cz q (nI 0) F P g he hn) H := hP
  refine lv_aload_n hx hb dX1_toll_5 rfl (lv_at hl 0 rfl) ?_
  refine lv_iload_n hx hb dX1_toll_6 rfl (lv_at hl 1 rfl) ?_
  refine r_callR (rest := []) Fx (m_X1_isFerry l (D := D) (ci := ci) (cz := cz) (cj := cj) (q := q) (F := F) (P := P) (g := g) (th := nI 0) (he := he) (hn := hn) hF hP12 a ) (cwV 1 Fx.2.2.2.2 gX1_toll_X1_isFerry rfl rfl rfl (by decide +kernel) ⟨Nat.le_of_ble_eq_true rfl, Nat.le_of_ble_eq_true rfl⟩) BW.bl (va_recv hK hP (ci := 1) (q0 := 0) rfl rfl) (BW.at hP hK hE hS) rfl hl.1 rfl (Nat.le_of_ble_eq_true rfl) dX1_toll_7 ⟨Nat.zero_le _, Nat.zero_le _⟩ ?_
  refine b_if_eq (tgt := 22) hx hb dX1_toll_10 (by decide) (fun h1 => ?_) (fun h1 => ?_)
  · have h1 := of_decide_eq_false h1
    refine lv_aload_n hx hb dX1_toll_22 rfl (lv_at hl 0 rfl) ?_
    refine lv_iconst (v := nI 1) hx hb dX1_toll_23 (by decide) ?_
    refine r_callW (rest := []) Fx (m_X1_no l (D := D) (ci := ci) (cz := cz) (cj := cj) (q := q) (F := F) (P := P) (g := g) (th := nI 0) (he := he) (hn := hn) hq hF hP12 (nI 1) ) (cwV 1 Fx.2.2.2.2 gX1_toll_X1_no rfl rfl rfl (by decide +kernel) ⟨Nat.le_of_ble_eq_true rfl, Nat.le_of_ble_eq_true rfl⟩) BW.bl (va_recv hK hP (ci := 1) (q0 := 0) rfl rfl) (BW.at hP hK hE hS) rfl hl.1 rfl (Nat.le_of_ble_eq_true rfl) dX1_toll_24 ⟨Nat.zero_le _, Nat.zero_le _⟩ hS (fun _ h => h) (fun H locs hP hS _ _ => ?_)
    have hP : va_P D vwCl (w1 ci cz q (nI 1) F P g he hn) H := hP
    exact w_iret hx hb hr hlocks hS (⟨_, _, w1_k 1 (by simp [k_1, lv, inR, inB, Int32.not_lt, Int32.not_le, h1]) hP⟩) (rz_n 0 (by simp [k_1, lv, inR, inB, Int32.not_lt, Int32.not_le, h1])) dX1_toll_27
  · have h1 := of_decide_eq_true h1
    obtain ⟨ja, h2, rfl⟩ := inR_of h1 (by omega)
    have h3 : ix (nI ja) = ja := ix_nI (by omega)
    refine lv_aload_n hx hb dX1_toll_13 rfl (lv_at hl 0 rfl) ?_
    refine r_get Fx hin hK hP 1 rfl 2 (by decide) (by decide +kernel) rfl rfl dX1_toll_14 ?_
    refine lv_iload_n hx hb dX1_toll_17 rfl (lv_at hl 1 rfl) ?_
    refine r_iald Fx hK hP 1 0 rfl rfl (i := ja) (by omega) (by decide) dX1_toll_18 ?_
    refine lv_goto (tgt := 27) hx hb dX1_toll_19 (by decide) ?_
    exact w_iret hx hb hr hlocks hS (⟨_, _, w1_k 0 (by simp [k_1, lv, inR, inB, Int32.not_lt, Int32.not_le, h1, h2, h3]) hP⟩) (rz_0 (by simp [k_1, lv, inR, inB, Int32.not_lt, Int32.not_le, h1, h2, h3]) (by simp [k_1, lv, h1, h2, h3])) dX1_toll_27
set_option maxHeartbeats 4000000 in
set_option maxRecDepth 100000 in
theorem m_X1_carried (l : Launch) {D : va_G} {ci cz cj : ClassId} {q : Nat → Nat} {F P : Nat} {g : Nat → Nat → Int32} {th : Int32} {he : Nat → Int32} {hn : Nat} (hq : DQ q 9) (hF : F ≤ 6) (hP12 : P ≤ 12) (a : Int32) (ha0 : Iv F P g) : Met l yX1_carried wsX1_carried ({ frames := 2, cells := 0, slots := 0, locals := 43 } : Room) (va_Pc [.ref (q 0), .int a] (B1 D ci cz cj q th F P g he hn)) (WQ (some (.int (rz (k_1 F a) (g 1 (ix a))))) (fun H => ∃ (he : Nat → Int32) (hn : Nat), va_P D vwCl (w1 ci cz q (nI (k_1 F a)) F P g he hn) H) (aw q 9)) 0 0 (aw q 9) := by
  refine Met.ofWr (cc := cX1_carried) (maxL := 2) (ret := (some .int)) (by decide) rfl (Nat.le_of_ble_eq_true rfl) ?_
  intro pg en s m bl mt cd ls Fx hr hlocks hB hl
  obtain ⟨hP, hK, hE⟩ := hB
  have hl : lv_has ls 2 [(0, .ref (q 0)), (1, .int a)] := hl
  have Fx : CallFix pg m cd cX1_carried 2 s _ wsX1_carried RX1 := Fx
  have hx := Fx.1
  have hb := Fx.2.1
  have hin : ∀ w ∈ wsX10, w ∈ wsX1_carried := by decide +kernel
  have hS : va_S (aw q 9) s.heap s.heap [] := va_S.rf
  have hP : va_P D vwCl (w1 ci cz q th F P g he hn) s.heap := hP
  refine lv_aload_n hx hb dX1_carried_0 rfl (lv_at hl 0 rfl) ?_
  refine lv_iconst (v := nI 0) hx hb dX1_carried_1 (by decide) ?_
  refine r_put Fx hin tyX1 tyX1_ok nmX1 hK hP (d1 hq) hS 1 rfl 0 (by decide) (by decide +kernel) rfl (by decide +kernel) rfl (Nat.le_of_ble_eq_true rfl) dX1_carried_2 (fun H locs hP hS => ?_)
  have hP : va_P D vwCl (w1 ci cz q (nI 0) F P g he hn) H := hP
  refine lv_aload_n hx hb dX1_carried_5 rfl (lv_at hl 0 rfl) ?_
  refine lv_iload_n hx hb dX1_carried_6 rfl (lv_at hl 1 rfl) ?_
  refine r_callR (rest := []) Fx (m_X1_isFerry l (D := D) (ci := ci) (cz := cz) (cj := cj) (q := q) (F := F) (P := P) (g := g) (th := nI 0) (he := he) (hn := hn) hF hP12 a ) (cwV 1 Fx.2.2.2.2 gX1_carried_X1_isFerry rfl rfl rfl (by decide +kernel) ⟨Nat.le_of_ble_eq_true rfl, Nat.le_of_ble_eq_true rfl⟩) BW.bl (va_recv hK hP (ci := 1) (q0 := 0) rfl rfl) (BW.at hP hK hE hS) rfl hl.1 rfl (Nat.le_of_ble_eq_true rfl) dX1_carried_7 ⟨Nat.zero_le _, Nat.zero_le _⟩ ?_
  refine b_if_eq (tgt := 22) hx hb dX1_carried_10 (by decide) (fun h1 => ?_) (fun h1 => ?_)
  · have h1 := of_decide_eq_false h1
    refine lv_aload_n hx hb dX1_carried_22 rfl (lv_at hl 0 rfl) ?_
    refine lv_iconst (v := nI 1) hx hb dX1_carried_23 (by decide) ?_
    refine r_callW (rest := []) Fx (m_X1_no l (D := D) (ci := ci) (cz := cz) (cj := cj) (q := q) (F := F) (P := P) (g := g) (th := nI 0) (he := he) (hn := hn) hq hF hP12 (nI 1) ) (cwV 1 Fx.2.2.2.2 gX1_carried_X1_no rfl rfl rfl (by decide +kernel) ⟨Nat.le_of_ble_eq_true rfl, Nat.le_of_ble_eq_true rfl⟩) BW.bl (va_recv hK hP (ci := 1) (q0 := 0) rfl rfl) (BW.at hP hK hE hS) rfl hl.1 rfl (Nat.le_of_ble_eq_true rfl) dX1_carried_24 ⟨Nat.zero_le _, Nat.zero_le _⟩ hS (fun _ h => h) (fun H locs hP hS _ _ => ?_)
    have hP : va_P D vwCl (w1 ci cz q (nI 1) F P g he hn) H := hP
    exact w_iret hx hb hr hlocks hS (⟨_, _, w1_k 1 (by simp [k_1, lv, inR, inB, Int32.not_lt, Int32.not_le, h1]) hP⟩) (rz_n 0 (by simp [k_1, lv, inR, inB, Int32.not_lt, Int32.not_le, h1])) dX1_carried_27
  · have h1 := of_decide_eq_true h1
    obtain ⟨ja, h2, rfl⟩ := inR_of h1 (by omega)
    have h3 : ix (nI ja) = ja := ix_nI (by omega)
    refine lv_aload_n hx hb dX1_carried_13 rfl (lv_at hl 0 rfl) ?_
    refine r_get Fx hin hK hP 1 rfl 3 (by decide) (by decide +kernel) rfl rfl dX1_carried_14 ?_
    refine lv_iload_n hx hb dX1_carried_17 rfl (lv_at hl 1 rfl) ?_
    refine r_iald Fx hK hP 2 0 rfl rfl (i := ja) (by omega) (by decide) dX1_carried_18 ?_
    refine lv_goto (tgt := 27) hx hb dX1_carried_19 (by decide) ?_
    exact w_iret hx hb hr hlocks hS (⟨_, _, w1_k 0 (by simp [k_1, lv, inR, inB, Int32.not_lt, Int32.not_le, h1, h2, h3]) hP⟩) (rz_0 (by simp [k_1, lv, inR, inB, Int32.not_lt, Int32.not_le, h1, h2, h3]) (by simp [k_1, lv, h1, h2, h3])) dX1_carried_27
set_option maxHeartbeats 4000000 in
set_option maxRecDepth 100000 in
theorem m_X1_shares (l : Launch) {D : va_G} {ci cz cj : ClassId} {q : Nat → Nat} {F P : Nat} {g : Nat → Nat → Int32} {th : Int32} {he : Nat → Int32} {hn : Nat} (hq : DQ q 9) (hF : F ≤ 6) (hP12 : P ≤ 12) (f : Int32) (w : Int32) (a : Int32) (ha0 : Iv F P g) : Met l yX1_shares wsX1_shares ({ frames := 3, cells := 0, slots := 0, locals := 65 } : Room) (va_Pc [.ref (q 0), .int f, .int w, .int a] (B1 D ci cz cj q th F P g he hn)) (WQ (some (.int (rz (k_fwp F P f w a) (own g (ix f) (ix w) (ix a))))) (fun H => ∃ (he : Nat → Int32) (hn : Nat), va_P D vwCl (w1 ci cz q (nI (k_fwp F P f w a)) F P g he hn) H) (aw q 9)) 0 0 (aw q 9) := by
  refine Met.ofWr (cc := cX1_shares) (maxL := 4) (ret := (some .int)) (by decide) rfl (Nat.le_of_ble_eq_true rfl) ?_
  intro pg en s m bl mt cd ls Fx hr hlocks hB hl
  obtain ⟨hP, hK, hE⟩ := hB
  have hl : lv_has ls 4 [(0, .ref (q 0)), (1, .int f), (2, .int w), (3, .int a)] := hl
  have Fx : CallFix pg m cd cX1_shares 4 s _ wsX1_shares RX1 := Fx
  have hx := Fx.1
  have hb := Fx.2.1
  have hin : ∀ w ∈ wsX10, w ∈ wsX1_shares := by decide +kernel
  have hS : va_S (aw q 9) s.heap s.heap [] := va_S.rf
  have hP : va_P D vwCl (w1 ci cz q th F P g he hn) s.heap := hP
  refine lv_aload_n hx hb dX1_shares_0 rfl (lv_at hl 0 rfl) ?_
  refine lv_iconst (v := nI 0) hx hb dX1_shares_1 (by decide) ?_
  refine r_put Fx hin tyX1 tyX1_ok nmX1 hK hP (d1 hq) hS 1 rfl 0 (by decide) (by decide +kernel) rfl (by decide +kernel) rfl (Nat.le_of_ble_eq_true rfl) dX1_shares_2 (fun H locs hP hS => ?_)
  have hP : va_P D vwCl (w1 ci cz q (nI 0) F P g he hn) H := hP
  refine lv_aload_n hx hb dX1_shares_5 rfl (lv_at hl 0 rfl) ?_
  refine lv_iload_n hx hb dX1_shares_6 rfl (lv_at hl 1 rfl) ?_
  refine lv_iload_n hx hb dX1_shares_7 rfl (lv_at hl 2 rfl) ?_
  refine r_callR (rest := []) Fx (m_X1_isWatch l (D := D) (ci := ci) (cz := cz) (cj := cj) (q := q) (F := F) (P := P) (g := g) (th := nI 0) (he := he) (hn := hn) hF hP12 f w ) (cwV 2 Fx.2.2.2.2 gX1_shares_X1_isWatch rfl rfl rfl (by decide +kernel) ⟨Nat.le_of_ble_eq_true rfl, Nat.le_of_ble_eq_true rfl⟩) BW.bl (va_recv hK hP (ci := 1) (q0 := 0) rfl rfl) (BW.at hP hK hE hS) rfl hl.1 rfl (Nat.le_of_ble_eq_true rfl) dX1_shares_8 ⟨Nat.zero_le _, Nat.zero_le _⟩ ?_
  refine b_if_eq (tgt := 36) hx hb dX1_shares_11 (by decide) (fun h1 => ?_) (fun h1 => ?_)
  · have h1 := of_decide_eq_false h1
    rcases Classical.not_and_iff_not_or_not.mp h1 with h1 | h1
    · refine lv_aload_n hx hb dX1_shares_36 rfl (lv_at hl 0 rfl) ?_
      refine lv_iconst (v := nI 1) hx hb dX1_shares_37 (by decide) ?_
      refine r_callW (rest := []) Fx (m_X1_no l (D := D) (ci := ci) (cz := cz) (cj := cj) (q := q) (F := F) (P := P) (g := g) (th := nI 0) (he := he) (hn := hn) hq hF hP12 (nI 1) ) (cwV 1 Fx.2.2.2.2 gX1_shares_X1_no rfl rfl rfl (by decide +kernel) ⟨Nat.le_of_ble_eq_true rfl, Nat.le_of_ble_eq_true rfl⟩) BW.bl (va_recv hK hP (ci := 1) (q0 := 0) rfl rfl) (BW.at hP hK hE hS) rfl hl.1 rfl (Nat.le_of_ble_eq_true rfl) dX1_shares_38 ⟨Nat.zero_le _, Nat.zero_le _⟩ hS (fun _ h => h) (fun H locs hP hS _ _ => ?_)
      have hP : va_P D vwCl (w1 ci cz q (nI 1) F P g he hn) H := hP
      exact w_iret hx hb hr hlocks hS (⟨_, _, w1_k 1 (by simp [k_fwp, lv, inR, inB, Int32.not_lt, Int32.not_le, h1]) hP⟩) (rz_n 0 (by simp [k_fwp, lv, inR, inB, Int32.not_lt, Int32.not_le, h1])) dX1_shares_41
    · refine lv_aload_n hx hb dX1_shares_36 rfl (lv_at hl 0 rfl) ?_
      refine lv_iconst (v := nI 1) hx hb dX1_shares_37 (by decide) ?_
      refine r_callW (rest := []) Fx (m_X1_no l (D := D) (ci := ci) (cz := cz) (cj := cj) (q := q) (F := F) (P := P) (g := g) (th := nI 0) (he := he) (hn := hn) hq hF hP12 (nI 1) ) (cwV 1 Fx.2.2.2.2 gX1_shares_X1_no rfl rfl rfl (by decide +kernel) ⟨Nat.le_of_ble_eq_true rfl, Nat.le_of_ble_eq_true rfl⟩) BW.bl (va_recv hK hP (ci := 1) (q0 := 0) rfl rfl) (BW.at hP hK hE hS) rfl hl.1 rfl (Nat.le_of_ble_eq_true rfl) dX1_shares_38 ⟨Nat.zero_le _, Nat.zero_le _⟩ hS (fun _ h => h) (fun H locs hP hS _ _ => ?_)
      have hP : va_P D vwCl (w1 ci cz q (nI 1) F P g he hn) H := hP
      exact w_iret hx hb hr hlocks hS (⟨_, _, w1_k 1 (by simp [k_fwp, lv, inR, inB, Int32.not_lt, Int32.not_le, h1]) hP⟩) (rz_n 0 (by simp [k_fwp, lv, inR, inB, Int32.not_lt, Int32.not_le, h1])) dX1_shares_41
  · have h1 := of_decide_eq_true h1
    obtain ⟨h2, h3⟩ := h1
    obtain ⟨jf, h4, rfl⟩ := inR_of h2 (by omega)
    have h5 : ix (nI jf) = jf := ix_nI (by omega)
    obtain ⟨jw, h6, rfl⟩ := inR_of h3 (by omega)
    have h7 : ix (nI jw) = jw := ix_nI (by omega)
    refine lv_aload_n hx hb dX1_shares_14 rfl (lv_at hl 0 rfl) ?_
    refine lv_iload_n hx hb dX1_shares_15 rfl (lv_at hl 3 rfl) ?_
    refine r_callR (rest := []) Fx (m_X1_isPerson l (D := D) (ci := ci) (cz := cz) (cj := cj) (q := q) (F := F) (P := P) (g := g) (th := nI 0) (he := he) (hn := hn) hF hP12 a ) (cwV 1 Fx.2.2.2.2 gX1_shares_X1_isPerson rfl rfl rfl (by decide +kernel) ⟨Nat.le_of_ble_eq_true rfl, Nat.le_of_ble_eq_true rfl⟩) BW.bl (va_recv hK hP (ci := 1) (q0 := 0) rfl rfl) (BW.at hP hK hE hS) rfl hl.1 rfl (Nat.le_of_ble_eq_true rfl) dX1_shares_16 ⟨Nat.zero_le _, Nat.zero_le _⟩ ?_
    refine b_if_eq (tgt := 36) hx hb dX1_shares_19 (by decide) (fun h8 => ?_) (fun h8 => ?_)
    · have h8 := of_decide_eq_false h8
      refine lv_aload_n hx hb dX1_shares_36 rfl (lv_at hl 0 rfl) ?_
      refine lv_iconst (v := nI 1) hx hb dX1_shares_37 (by decide) ?_
      refine r_callW (rest := []) Fx (m_X1_no l (D := D) (ci := ci) (cz := cz) (cj := cj) (q := q) (F := F) (P := P) (g := g) (th := nI 0) (he := he) (hn := hn) hq hF hP12 (nI 1) ) (cwV 1 Fx.2.2.2.2 gX1_shares_X1_no rfl rfl rfl (by decide +kernel) ⟨Nat.le_of_ble_eq_true rfl, Nat.le_of_ble_eq_true rfl⟩) BW.bl (va_recv hK hP (ci := 1) (q0 := 0) rfl rfl) (BW.at hP hK hE hS) rfl hl.1 rfl (Nat.le_of_ble_eq_true rfl) dX1_shares_38 ⟨Nat.zero_le _, Nat.zero_le _⟩ hS (fun _ h => h) (fun H locs hP hS _ _ => ?_)
      have hP : va_P D vwCl (w1 ci cz q (nI 1) F P g he hn) H := hP
      exact w_iret hx hb hr hlocks hS (⟨_, _, w1_k 1 (by simp [k_fwp, lv, inR, inB, Int32.not_lt, Int32.not_le, h2, h3, h4, h5, h6, h7, h8]) hP⟩) (rz_n 0 (by simp [k_fwp, lv, inR, inB, Int32.not_lt, Int32.not_le, h2, h3, h4, h5, h6, h7, h8])) dX1_shares_41
    · have h8 := of_decide_eq_true h8
      obtain ⟨ja, h9, rfl⟩ := inR_of h8 (by omega)
      have h10 : ix (nI ja) = ja := ix_nI (by omega)
      refine lv_aload_n hx hb dX1_shares_22 rfl (lv_at hl 0 rfl) ?_
      refine r_get Fx hin hK hP 1 rfl 4 (by decide) (by decide +kernel) rfl rfl dX1_shares_23 ?_
      refine lv_iload_n hx hb dX1_shares_26 rfl (lv_at hl 1 rfl) ?_
      refine lv_iload_n hx hb dX1_shares_27 rfl (lv_at hl 2 rfl) ?_
      refine lv_iload_n hx hb dX1_shares_28 rfl (lv_at hl 3 rfl) ?_
      refine r_callRS (rest := [.ref (q 3)]) Fx (m_X1_at l (D := D) (ci := ci) (cz := cz) (cj := cj) (q := q) (F := F) (P := P) (g := g) (th := nI 0) (he := he) (hn := hn) hF hP12 jf jw ja ) (va_cwS 3 Fx.2.2.2.2 gX1_shares_X1_at rfl rfl rfl (by decide +kernel) ⟨Nat.le_of_ble_eq_true rfl, Nat.le_of_ble_eq_true rfl⟩) BW.bl (BW.at hP hK hE hS) rfl hl.1 rfl (Nat.le_of_ble_eq_true rfl) dX1_shares_29 ⟨Nat.zero_le _, Nat.zero_le _⟩ ?_
      refine r_iald Fx hK hP 3 0 rfl rfl (i := sl jf jw ja) (sl_lt (by omega) (by omega) (by omega)) (by decide) dX1_shares_32 ?_
      refine r_as (own g jf jw ja) rfl ?_
      refine lv_goto (tgt := 41) hx hb dX1_shares_33 (by decide) ?_
      exact w_iret hx hb hr hlocks hS (⟨_, _, w1_k 0 (by simp [k_fwp, lv, inR, inB, Int32.not_lt, Int32.not_le, h2, h3, h4, h5, h6, h7, h8, h9, h10]) hP⟩) (rz_0 (by simp [k_fwp, lv, inR, inB, Int32.not_lt, Int32.not_le, h2, h3, h4, h5, h6, h7, h8, h9, h10]) (by simp [k_fwp, lv, h2, h3, h4, h5, h6, h7, h8, h9, h10])) dX1_shares_41
set_option maxHeartbeats 4000000 in
set_option maxRecDepth 100000 in
theorem m_X1_crownShares (l : Launch) {D : va_G} {ci cz cj : ClassId} {q : Nat → Nat} {F P : Nat} {g : Nat → Nat → Int32} {th : Int32} {he : Nat → Int32} {hn : Nat} (hq : DQ q 9) (hF : F ≤ 6) (hP12 : P ≤ 12) (f : Int32) (w : Int32) (ha0 : Iv F P g) : Met l yX1_crownShares wsX1_crownShares ({ frames := 3, cells := 0, slots := 0, locals := 65 } : Room) (va_Pc [.ref (q 0), .int f, .int w] (B1 D ci cz cj q th F P g he hn)) (WQ (some (.int (rz (k_fw F f w) (sCro g P (ix f) (ix w))))) (fun H => ∃ (he : Nat → Int32) (hn : Nat), va_P D vwCl (w1 ci cz q (nI (k_fw F f w)) F P g he hn) H) (aw q 9)) 0 0 (aw q 9) := by
  refine Met.ofWr (cc := cX1_crownShares) (maxL := 3) (ret := (some .int)) (by decide) rfl (Nat.le_of_ble_eq_true rfl) ?_
  intro pg en s m bl mt cd ls Fx hr hlocks hB hl
  obtain ⟨hP, hK, hE⟩ := hB
  have hl : lv_has ls 3 [(0, .ref (q 0)), (1, .int f), (2, .int w)] := hl
  have Fx : CallFix pg m cd cX1_crownShares 3 s _ wsX1_crownShares RX1 := Fx
  have hx := Fx.1
  have hb := Fx.2.1
  have hin : ∀ w ∈ wsX10, w ∈ wsX1_crownShares := by decide +kernel
  have hS : va_S (aw q 9) s.heap s.heap [] := va_S.rf
  have hP : va_P D vwCl (w1 ci cz q th F P g he hn) s.heap := hP
  refine lv_aload_n hx hb dX1_crownShares_0 rfl (lv_at hl 0 rfl) ?_
  refine lv_iconst (v := nI 0) hx hb dX1_crownShares_1 (by decide) ?_
  refine r_put Fx hin tyX1 tyX1_ok nmX1 hK hP (d1 hq) hS 1 rfl 0 (by decide) (by decide +kernel) rfl (by decide +kernel) rfl (Nat.le_of_ble_eq_true rfl) dX1_crownShares_2 (fun H locs hP hS => ?_)
  have hP : va_P D vwCl (w1 ci cz q (nI 0) F P g he hn) H := hP
  refine lv_aload_n hx hb dX1_crownShares_5 rfl (lv_at hl 0 rfl) ?_
  refine lv_iload_n hx hb dX1_crownShares_6 rfl (lv_at hl 1 rfl) ?_
  refine lv_iload_n hx hb dX1_crownShares_7 rfl (lv_at hl 2 rfl) ?_
  refine r_callR (rest := []) Fx (m_X1_isWatch l (D := D) (ci := ci) (cz := cz) (cj := cj) (q := q) (F := F) (P := P) (g := g) (th := nI 0) (he := he) (hn := hn) hF hP12 f w ) (cwV 2 Fx.2.2.2.2 gX1_crownShares_X1_isWatch rfl rfl rfl (by decide +kernel) ⟨Nat.le_of_ble_eq_true rfl, Nat.le_of_ble_eq_true rfl⟩) BW.bl (va_recv hK hP (ci := 1) (q0 := 0) rfl rfl) (BW.at hP hK hE hS) rfl hl.1 rfl (Nat.le_of_ble_eq_true rfl) dX1_crownShares_8 ⟨Nat.zero_le _, Nat.zero_le _⟩ ?_
  refine b_if_eq (tgt := 23) hx hb dX1_crownShares_11 (by decide) (fun h1 => ?_) (fun h1 => ?_)
  · have h1 := of_decide_eq_false h1
    rcases Classical.not_and_iff_not_or_not.mp h1 with h1 | h1
    · refine lv_aload_n hx hb dX1_crownShares_23 rfl (lv_at hl 0 rfl) ?_
      refine lv_iconst (v := nI 1) hx hb dX1_crownShares_24 (by decide) ?_
      refine r_callW (rest := []) Fx (m_X1_no l (D := D) (ci := ci) (cz := cz) (cj := cj) (q := q) (F := F) (P := P) (g := g) (th := nI 0) (he := he) (hn := hn) hq hF hP12 (nI 1) ) (cwV 1 Fx.2.2.2.2 gX1_crownShares_X1_no rfl rfl rfl (by decide +kernel) ⟨Nat.le_of_ble_eq_true rfl, Nat.le_of_ble_eq_true rfl⟩) BW.bl (va_recv hK hP (ci := 1) (q0 := 0) rfl rfl) (BW.at hP hK hE hS) rfl hl.1 rfl (Nat.le_of_ble_eq_true rfl) dX1_crownShares_25 ⟨Nat.zero_le _, Nat.zero_le _⟩ hS (fun _ h => h) (fun H locs hP hS _ _ => ?_)
      have hP : va_P D vwCl (w1 ci cz q (nI 1) F P g he hn) H := hP
      exact w_iret hx hb hr hlocks hS (⟨_, _, w1_k 1 (by simp [k_fw, lv, inR, inB, Int32.not_lt, Int32.not_le, h1]) hP⟩) (rz_n 0 (by simp [k_fw, lv, inR, inB, Int32.not_lt, Int32.not_le, h1])) dX1_crownShares_28
    · refine lv_aload_n hx hb dX1_crownShares_23 rfl (lv_at hl 0 rfl) ?_
      refine lv_iconst (v := nI 1) hx hb dX1_crownShares_24 (by decide) ?_
      refine r_callW (rest := []) Fx (m_X1_no l (D := D) (ci := ci) (cz := cz) (cj := cj) (q := q) (F := F) (P := P) (g := g) (th := nI 0) (he := he) (hn := hn) hq hF hP12 (nI 1) ) (cwV 1 Fx.2.2.2.2 gX1_crownShares_X1_no rfl rfl rfl (by decide +kernel) ⟨Nat.le_of_ble_eq_true rfl, Nat.le_of_ble_eq_true rfl⟩) BW.bl (va_recv hK hP (ci := 1) (q0 := 0) rfl rfl) (BW.at hP hK hE hS) rfl hl.1 rfl (Nat.le_of_ble_eq_true rfl) dX1_crownShares_25 ⟨Nat.zero_le _, Nat.zero_le _⟩ hS (fun _ h => h) (fun H locs hP hS _ _ => ?_)
      have hP : va_P D vwCl (w1 ci cz q (nI 1) F P g he hn) H := hP
      exact w_iret hx hb hr hlocks hS (⟨_, _, w1_k 1 (by simp [k_fw, lv, inR, inB, Int32.not_lt, Int32.not_le, h1]) hP⟩) (rz_n 0 (by simp [k_fw, lv, inR, inB, Int32.not_lt, Int32.not_le, h1])) dX1_crownShares_28
  · have h1 := of_decide_eq_true h1
    obtain ⟨h2, h3⟩ := h1
    obtain ⟨jf, h4, rfl⟩ := inR_of h2 (by omega)
    have h5 : ix (nI jf) = jf := ix_nI (by omega)
    obtain ⟨jw, h6, rfl⟩ := inR_of h3 (by omega)
    have h7 : ix (nI jw) = jw := ix_nI (by omega)
    refine lv_aload_n hx hb dX1_crownShares_14 rfl (lv_at hl 0 rfl) ?_
    refine lv_iload_n hx hb dX1_crownShares_15 rfl (lv_at hl 1 rfl) ?_
    refine lv_iload_n hx hb dX1_crownShares_16 rfl (lv_at hl 2 rfl) ?_
    refine r_callR (rest := []) Fx (m_X1_crown l (D := D) (ci := ci) (cz := cz) (cj := cj) (q := q) (F := F) (P := P) (g := g) (th := nI 0) (he := he) (hn := hn) hF hP12 jf jw (by omega) (by omega)) (cwV 2 Fx.2.2.2.2 gX1_crownShares_X1_crown rfl rfl rfl (by decide +kernel) ⟨Nat.le_of_ble_eq_true rfl, Nat.le_of_ble_eq_true rfl⟩) BW.bl (va_recv hK hP (ci := 1) (q0 := 0) rfl rfl) (BW.at hP hK hE hS) rfl hl.1 rfl (Nat.le_of_ble_eq_true rfl) dX1_crownShares_17 ⟨Nat.zero_le _, Nat.zero_le _⟩ ?_
    refine lv_goto (tgt := 28) hx hb dX1_crownShares_20 (by decide) ?_
    exact w_iret hx hb hr hlocks hS (⟨_, _, w1_k 0 (by simp [k_fw, lv, inR, inB, Int32.not_lt, Int32.not_le, h2, h3, h4, h5, h6, h7]) hP⟩) (rz_0 (by simp [k_fw, lv, inR, inB, Int32.not_lt, Int32.not_le, h2, h3, h4, h5, h6, h7]) (by simp [k_fw, lv, h2, h3, h4, h5, h6, h7])) dX1_crownShares_28
set_option maxHeartbeats 4000000 in
set_option maxRecDepth 100000 in
theorem m_X1_owners (l : Launch) {D : va_G} {ci cz cj : ClassId} {q : Nat → Nat} {F P : Nat} {g : Nat → Nat → Int32} {th : Int32} {he : Nat → Int32} {hn : Nat} (hq : DQ q 9) (hF : F ≤ 6) (hP12 : P ≤ 12) (f : Int32) (w : Int32) (ha0 : Iv F P g) : Met l yX1_owners wsX1_owners ({ frames := 3, cells := 0, slots := 0, locals := 65 } : Room) (va_Pc [.ref (q 0), .int f, .int w] (B1 D ci cz cj q th F P g he hn)) (WQ (some (.int (rz (k_fw F f w) (nI (sOwn g P (ix f) (ix w)))))) (fun H => ∃ (he : Nat → Int32) (hn : Nat), va_P D vwCl (w1 ci cz q (nI (k_fw F f w)) F P g he hn) H) (aw q 9)) 0 0 (aw q 9) := by
  refine Met.ofWr (cc := cX1_owners) (maxL := 5) (ret := (some .int)) (by decide) rfl (Nat.le_of_ble_eq_true rfl) ?_
  intro pg en s m bl mt cd ls Fx hr hlocks hB hl
  obtain ⟨hP, hK, hE⟩ := hB
  have hl : lv_has ls 5 [(0, .ref (q 0)), (1, .int f), (2, .int w)] := hl
  have Fx : CallFix pg m cd cX1_owners 5 s _ wsX1_owners RX1 := Fx
  have hx := Fx.1
  have hb := Fx.2.1
  have hin : ∀ w ∈ wsX10, w ∈ wsX1_owners := by decide +kernel
  have hS : va_S (aw q 9) s.heap s.heap [] := va_S.rf
  have hP : va_P D vwCl (w1 ci cz q th F P g he hn) s.heap := hP
  refine lv_aload_n hx hb dX1_owners_0 rfl (lv_at hl 0 rfl) ?_
  refine lv_iconst (v := nI 0) hx hb dX1_owners_1 (by decide) ?_
  refine r_put Fx hin tyX1 tyX1_ok nmX1 hK hP (d1 hq) hS 1 rfl 0 (by decide) (by decide +kernel) rfl (by decide +kernel) rfl (Nat.le_of_ble_eq_true rfl) dX1_owners_2 (fun H locs hP hS => ?_)
  have hP : va_P D vwCl (w1 ci cz q (nI 0) F P g he hn) H := hP
  refine lv_aload_n hx hb dX1_owners_5 rfl (lv_at hl 0 rfl) ?_
  refine lv_iload_n hx hb dX1_owners_6 rfl (lv_at hl 1 rfl) ?_
  refine lv_iload_n hx hb dX1_owners_7 rfl (lv_at hl 2 rfl) ?_
  refine r_callR (rest := []) Fx (m_X1_isWatch l (D := D) (ci := ci) (cz := cz) (cj := cj) (q := q) (F := F) (P := P) (g := g) (th := nI 0) (he := he) (hn := hn) hF hP12 f w ) (cwV 2 Fx.2.2.2.2 gX1_owners_X1_isWatch rfl rfl rfl (by decide +kernel) ⟨Nat.le_of_ble_eq_true rfl, Nat.le_of_ble_eq_true rfl⟩) BW.bl (va_recv hK hP (ci := 1) (q0 := 0) rfl rfl) (BW.at hP hK hE hS) rfl hl.1 rfl (Nat.le_of_ble_eq_true rfl) dX1_owners_8 ⟨Nat.zero_le _, Nat.zero_le _⟩ ?_
  refine b_if_ne (tgt := 20) hx hb dX1_owners_11 (by decide) (fun h1 => ?_) (fun h1 => ?_)
  · have h1 := of_decide_eq_true h1
    obtain ⟨h2, h3⟩ := h1
    obtain ⟨jf, h4, rfl⟩ := inR_of h2 (by omega)
    have h5 : ix (nI jf) = jf := ix_nI (by omega)
    obtain ⟨jw, h6, rfl⟩ := inR_of h3 (by omega)
    have h7 : ix (nI jw) = jw := ix_nI (by omega)
    refine lv_iconst (v := nI 0) hx hb dX1_owners_20 (by decide) ?_
    refine lv_istore_n (lv' := [(3, .int (nI 0)), (0, .ref (q 0)), (1, .int (nI jf)), (2, .int (nI jw))]) hx hb dX1_owners_21 rfl hl (by decide) rfl (fun ls hl => ?_)
    refine lv_iconst (v := nI 0) hx hb dX1_owners_22 (by decide) ?_
    refine lv_istore (lv' := [(4, .int (nI 0)), (3, .int (nI 0)), (0, .ref (q 0)), (1, .int (nI jf)), (2, .int (nI jw))]) hx hb dX1_owners_23 hl (by decide) rfl (fun ls hl => ?_)
    refine rloop (nL := 5) (N := P) (fun _ => True) (fun i => [(0, .ref (q 0)), (1, .int (nI jf)), (2, .int (nI jw)), (3, .int (nI (cn (fun z => decide (0 < own g jf jw z)) i))), (4, .int (nI i))]) (trivial) (lv_sub hl [2, 3, 4, 1, 0] rfl) ?_ ?_
    · intro h8 ls hl
      have hl : lv_has ls 5 [(0, .ref (q 0)), (1, .int (nI jf)), (2, .int (nI jw)), (3, .int (nI (cn (fun z => decide (0 < own g jf jw z)) P))), (4, .int (nI P))] := hl
      refine lv_iload hx hb dX1_owners_25 (lv_at hl 4 rfl) ?_
      refine lv_aload_n hx hb dX1_owners_27 rfl (lv_at hl 0 rfl) ?_
      refine r_get Fx hin hK hP 1 rfl 5 (by decide) (by decide +kernel) rfl rfl dX1_owners_28 ?_
      refine n_icmp_ge (tgt := 63) hx hb (by omega) (by omega) dX1_owners_31 (by decide) (fun h9 => ?_) (fun h9 => by omega)
      refine lv_iload_n hx hb dX1_owners_63 rfl (lv_at hl 3 rfl) ?_
      exact w_iret hx hb hr hlocks hS (⟨_, _, w1_k 0 (by simp [k_fw, sOwn, lv, inR, inB, Int32.not_lt, Int32.not_le, h2, h3, h4, h5, h6, h7, h9]) hP⟩) (rz_0 (by simp [k_fw, sOwn, lv, inR, inB, Int32.not_lt, Int32.not_le, h2, h3, h4, h5, h6, h7, h9]) (by simp [k_fw, sOwn, lv, h2, h3, h4, h5, h6, h7, h9])) dX1_owners_64
    · intro i h11 h10 ih25 ls hl
      have hl : lv_has ls 5 [(0, .ref (q 0)), (1, .int (nI jf)), (2, .int (nI jw)), (3, .int (nI (cn (fun z => decide (0 < own g jf jw z)) i))), (4, .int (nI i))] := hl
      refine lv_iload hx hb dX1_owners_25 (lv_at hl 4 rfl) ?_
      refine lv_aload_n hx hb dX1_owners_27 rfl (lv_at hl 0 rfl) ?_
      refine r_get Fx hin hK hP 1 rfl 5 (by decide) (by decide +kernel) rfl rfl dX1_owners_28 ?_
      refine n_icmp_ge (tgt := 63) hx hb (by omega) (by omega) dX1_owners_31 (by decide) (fun h12 => by omega) (fun h12 => ?_)
      refine lv_iload_n hx hb dX1_owners_34 rfl (lv_at hl 3 rfl) ?_
      refine lv_aload_n hx hb dX1_owners_35 rfl (lv_at hl 0 rfl) ?_
      refine r_get Fx hin hK hP 1 rfl 4 (by decide) (by decide +kernel) rfl rfl dX1_owners_36 ?_
      refine lv_iload_n hx hb dX1_owners_39 rfl (lv_at hl 1 rfl) ?_
      refine lv_iload_n hx hb dX1_owners_40 rfl (lv_at hl 2 rfl) ?_
      refine lv_iload hx hb dX1_owners_41 (lv_at hl 4 rfl) ?_
      refine r_callRS (rest := [.ref (q 3), .int (nI (cn (fun z => decide (0 < own g jf jw z)) i))]) Fx (m_X1_at l (D := D) (ci := ci) (cz := cz) (cj := cj) (q := q) (F := F) (P := P) (g := g) (th := nI 0) (he := he) (hn := hn) hF hP12 jf jw i ) (va_cwS 3 Fx.2.2.2.2 gX1_owners_X1_at rfl rfl rfl (by decide +kernel) ⟨Nat.le_of_ble_eq_true rfl, Nat.le_of_ble_eq_true rfl⟩) BW.bl (BW.at hP hK hE hS) rfl hl.1 rfl (Nat.le_of_ble_eq_true rfl) dX1_owners_43 ⟨Nat.zero_le _, Nat.zero_le _⟩ ?_
      refine r_iald Fx hK hP 3 0 rfl rfl (i := sl jf jw i) (sl_lt (by omega) (by omega) (by omega)) (by decide) dX1_owners_46 ?_
      refine r_as (own g jf jw i) rfl ?_
      refine lv_if_le (tgt := 54) hx hb dX1_owners_47 (by decide) (fun h13 => ?_) (fun h13 => ?_)
      · refine lv_iconst (v := nI 0) hx hb dX1_owners_54 (by decide) ?_
        refine r_iadd_n hx hb dX1_owners_55 ?_
        refine lv_istore_n (lv' := [(3, .int (nI ((cn (fun z => decide (0 < own g jf jw z)) i) + 0))), (0, .ref (q 0)), (1, .int (nI jf)), (2, .int (nI jw)), (4, .int (nI i))]) hx hb dX1_owners_56 rfl hl (by decide) rfl (fun ls hl => ?_)
        refine lv_iinc (v := nI (i + 1)) (lv' := [(4, .int (nI (i + 1))), (3, .int (nI ((cn (fun z => decide (0 < own g jf jw z)) i) + 0))), (0, .ref (q 0)), (1, .int (nI jf)), (2, .int (nI jw))]) hx hb dX1_owners_57 hl (k := 4) rfl (nI_inc _ 1) (by decide) rfl (fun ls hl => ?_)
        refine lv_goto (tgt := 25) hx hb dX1_owners_60 (by decide) ?_
        have e3_ : nI ((cn (fun z => decide (0 < own g jf jw z)) i) + 0) = nI (cn (fun z => decide (0 < own g jf jw z)) (i + 1)) := by simp [cn, Int32.not_lt, h2, h3, h4, h5, h6, h7, h11, h12, h13, Int32.not_lt.mpr h13]
        rw [e3_] at hl
        exact ih25 (trivial) _ (lv_sub hl [2, 3, 4, 1, 0] rfl)
      · have h13 := Int32.not_le.mp h13
        refine lv_iconst (v := nI 1) hx hb dX1_owners_50 (by decide) ?_
        refine lv_goto (tgt := 55) hx hb dX1_owners_51 (by decide) ?_
        refine r_iadd_n hx hb dX1_owners_55 ?_
        refine lv_istore_n (lv' := [(3, .int (nI ((cn (fun z => decide (0 < own g jf jw z)) i) + 1))), (0, .ref (q 0)), (1, .int (nI jf)), (2, .int (nI jw)), (4, .int (nI i))]) hx hb dX1_owners_56 rfl hl (by decide) rfl (fun ls hl => ?_)
        refine lv_iinc (v := nI (i + 1)) (lv' := [(4, .int (nI (i + 1))), (3, .int (nI ((cn (fun z => decide (0 < own g jf jw z)) i) + 1))), (0, .ref (q 0)), (1, .int (nI jf)), (2, .int (nI jw))]) hx hb dX1_owners_57 hl (k := 4) rfl (nI_inc _ 1) (by decide) rfl (fun ls hl => ?_)
        refine lv_goto (tgt := 25) hx hb dX1_owners_60 (by decide) ?_
        have e3_ : nI ((cn (fun z => decide (0 < own g jf jw z)) i) + 1) = nI (cn (fun z => decide (0 < own g jf jw z)) (i + 1)) := by simp [cn, Int32.not_lt, h2, h3, h4, h5, h6, h7, h11, h12, h13, Int32.not_le.mpr h13]
        rw [e3_] at hl
        exact ih25 (trivial) _ (lv_sub hl [2, 3, 4, 1, 0] rfl)
  · have h1 := of_decide_eq_false h1
    rcases Classical.not_and_iff_not_or_not.mp h1 with h1 | h1
    · refine lv_aload_n hx hb dX1_owners_14 rfl (lv_at hl 0 rfl) ?_
      refine lv_iconst (v := nI 1) hx hb dX1_owners_15 (by decide) ?_
      refine r_callW (rest := []) Fx (m_X1_no l (D := D) (ci := ci) (cz := cz) (cj := cj) (q := q) (F := F) (P := P) (g := g) (th := nI 0) (he := he) (hn := hn) hq hF hP12 (nI 1) ) (cwV 1 Fx.2.2.2.2 gX1_owners_X1_no rfl rfl rfl (by decide +kernel) ⟨Nat.le_of_ble_eq_true rfl, Nat.le_of_ble_eq_true rfl⟩) BW.bl (va_recv hK hP (ci := 1) (q0 := 0) rfl rfl) (BW.at hP hK hE hS) rfl hl.1 rfl (Nat.le_of_ble_eq_true rfl) dX1_owners_16 ⟨Nat.zero_le _, Nat.zero_le _⟩ hS (fun _ h => h) (fun H locs hP hS _ _ => ?_)
      have hP : va_P D vwCl (w1 ci cz q (nI 1) F P g he hn) H := hP
      exact w_iret hx hb hr hlocks hS (⟨_, _, w1_k 1 (by simp [k_fw, sOwn, lv, inR, inB, Int32.not_lt, Int32.not_le, h1]) hP⟩) (rz_n 0 (by simp [k_fw, sOwn, lv, inR, inB, Int32.not_lt, Int32.not_le, h1])) dX1_owners_19
    · refine lv_aload_n hx hb dX1_owners_14 rfl (lv_at hl 0 rfl) ?_
      refine lv_iconst (v := nI 1) hx hb dX1_owners_15 (by decide) ?_
      refine r_callW (rest := []) Fx (m_X1_no l (D := D) (ci := ci) (cz := cz) (cj := cj) (q := q) (F := F) (P := P) (g := g) (th := nI 0) (he := he) (hn := hn) hq hF hP12 (nI 1) ) (cwV 1 Fx.2.2.2.2 gX1_owners_X1_no rfl rfl rfl (by decide +kernel) ⟨Nat.le_of_ble_eq_true rfl, Nat.le_of_ble_eq_true rfl⟩) BW.bl (va_recv hK hP (ci := 1) (q0 := 0) rfl rfl) (BW.at hP hK hE hS) rfl hl.1 rfl (Nat.le_of_ble_eq_true rfl) dX1_owners_16 ⟨Nat.zero_le _, Nat.zero_le _⟩ hS (fun _ h => h) (fun H locs hP hS _ _ => ?_)
      have hP : va_P D vwCl (w1 ci cz q (nI 1) F P g he hn) H := hP
      exact w_iret hx hb hr hlocks hS (⟨_, _, w1_k 1 (by simp [k_fw, sOwn, lv, inR, inB, Int32.not_lt, Int32.not_le, h1]) hP⟩) (rz_n 0 (by simp [k_fw, sOwn, lv, inR, inB, Int32.not_lt, Int32.not_le, h1])) dX1_owners_19
set_option maxHeartbeats 4000000 in
set_option maxRecDepth 100000 in
theorem m_X1_holder (l : Launch) {D : va_G} {ci cz cj : ClassId} {q : Nat → Nat} {F P : Nat} {g : Nat → Nat → Int32} {th : Int32} {he : Nat → Int32} {hn : Nat} (hq : DQ q 9) (hF : F ≤ 6) (hP12 : P ≤ 12) (f : Int32) (w : Int32) (ha0 : Iv F P g) : Met l yX1_holder wsX1_holder ({ frames := 3, cells := 0, slots := 0, locals := 65 } : Room) (va_Pc [.ref (q 0), .int f, .int w] (B1 D ci cz cj q th F P g he hn)) (WQ (some (.int (rz (k_holder F P g f w) (sHol g P (ix f) (ix w))))) (fun H => ∃ (he : Nat → Int32) (hn : Nat), va_P D vwCl (w1 ci cz q (nI (k_holder F P g f w)) F P g he hn) H) (aw q 9)) 0 0 (aw q 9) := by
  refine Met.ofWr (cc := cX1_holder) (maxL := 6) (ret := (some .int)) (by decide) rfl (Nat.le_of_ble_eq_true rfl) ?_
  intro pg en s m bl mt cd ls Fx hr hlocks hB hl
  obtain ⟨hP, hK, hE⟩ := hB
  have hl : lv_has ls 6 [(0, .ref (q 0)), (1, .int f), (2, .int w)] := hl
  have Fx : CallFix pg m cd cX1_holder 6 s _ wsX1_holder RX1 := Fx
  have hx := Fx.1
  have hb := Fx.2.1
  have hin : ∀ w ∈ wsX10, w ∈ wsX1_holder := by decide +kernel
  have hS : va_S (aw q 9) s.heap s.heap [] := va_S.rf
  have hP : va_P D vwCl (w1 ci cz q th F P g he hn) s.heap := hP
  refine lv_aload_n hx hb dX1_holder_0 rfl (lv_at hl 0 rfl) ?_
  refine lv_iconst (v := nI 0) hx hb dX1_holder_1 (by decide) ?_
  refine r_put Fx hin tyX1 tyX1_ok nmX1 hK hP (d1 hq) hS 1 rfl 0 (by decide) (by decide +kernel) rfl (by decide +kernel) rfl (Nat.le_of_ble_eq_true rfl) dX1_holder_2 (fun H locs hP hS => ?_)
  have hP : va_P D vwCl (w1 ci cz q (nI 0) F P g he hn) H := hP
  refine lv_aload_n hx hb dX1_holder_5 rfl (lv_at hl 0 rfl) ?_
  refine lv_iload_n hx hb dX1_holder_6 rfl (lv_at hl 1 rfl) ?_
  refine lv_iload_n hx hb dX1_holder_7 rfl (lv_at hl 2 rfl) ?_
  refine r_callR (rest := []) Fx (m_X1_isWatch l (D := D) (ci := ci) (cz := cz) (cj := cj) (q := q) (F := F) (P := P) (g := g) (th := nI 0) (he := he) (hn := hn) hF hP12 f w ) (cwV 2 Fx.2.2.2.2 gX1_holder_X1_isWatch rfl rfl rfl (by decide +kernel) ⟨Nat.le_of_ble_eq_true rfl, Nat.le_of_ble_eq_true rfl⟩) BW.bl (va_recv hK hP (ci := 1) (q0 := 0) rfl rfl) (BW.at hP hK hE hS) rfl hl.1 rfl (Nat.le_of_ble_eq_true rfl) dX1_holder_8 ⟨Nat.zero_le _, Nat.zero_le _⟩ ?_
  refine b_if_ne (tgt := 20) hx hb dX1_holder_11 (by decide) (fun h1 => ?_) (fun h1 => ?_)
  · have h1 := of_decide_eq_true h1
    obtain ⟨h2, h3⟩ := h1
    obtain ⟨jf, h4, rfl⟩ := inR_of h2 (by omega)
    have h5 : ix (nI jf) = jf := ix_nI (by omega)
    obtain ⟨jw, h6, rfl⟩ := inR_of h3 (by omega)
    have h7 : ix (nI jw) = jw := ix_nI (by omega)
    refine lv_iconst (v := -1) hx hb dX1_holder_20 (by decide) ?_
    refine lv_istore_n (lv' := [(3, .int (-1)), (0, .ref (q 0)), (1, .int (nI jf)), (2, .int (nI jw))]) hx hb dX1_holder_21 rfl hl (by decide) rfl (fun ls hl => ?_)
    refine lv_iconst (v := nI 0) hx hb dX1_holder_22 (by decide) ?_
    refine lv_istore (lv' := [(4, .int (nI 0)), (3, .int (-1)), (0, .ref (q 0)), (1, .int (nI jf)), (2, .int (nI jw))]) hx hb dX1_holder_23 hl (by decide) rfl (fun ls hl => ?_)
    refine lv_iconst (v := nI 0) hx hb dX1_holder_25 (by decide) ?_
    refine lv_istore (lv' := [(5, .int (nI 0)), (4, .int (nI 0)), (3, .int (-1)), (0, .ref (q 0)), (1, .int (nI jf)), (2, .int (nI jw))]) hx hb dX1_holder_26 hl (by decide) rfl (fun ls hl => ?_)
    refine rloop (nL := 6) (N := P) (fun _ => True) (fun i => [(0, .ref (q 0)), (1, .int (nI jf)), (2, .int (nI jw)), (3, .int ((ho (fun z => own g jf jw z) i).1)), (4, .int ((ho (fun z => own g jf jw z) i).2)), (5, .int (nI i))]) (trivial) (lv_sub hl [3, 4, 5, 2, 1, 0] rfl) ?_ ?_
    · intro h8 ls hl
      have hl : lv_has ls 6 [(0, .ref (q 0)), (1, .int (nI jf)), (2, .int (nI jw)), (3, .int ((ho (fun z => own g jf jw z) P).1)), (4, .int ((ho (fun z => own g jf jw z) P).2)), (5, .int (nI P))] := hl
      refine lv_iload hx hb dX1_holder_28 (lv_at hl 5 rfl) ?_
      refine lv_aload_n hx hb dX1_holder_30 rfl (lv_at hl 0 rfl) ?_
      refine r_get Fx hin hK hP 1 rfl 5 (by decide) (by decide +kernel) rfl rfl dX1_holder_31 ?_
      refine n_icmp_ge (tgt := 80) hx hb (by omega) (by omega) dX1_holder_34 (by decide) (fun h9 => ?_) (fun h9 => by omega)
      refine lv_iload_n hx hb dX1_holder_80 rfl (lv_at hl 3 rfl) ?_
      refine lv_iconst (v := -1) hx hb dX1_holder_81 (by decide) ?_
      refine lv_icmp_ne (tgt := 93) hx hb dX1_holder_82 (by decide) (fun h10 => ?_) (fun h10 => ?_)
      · refine lv_iload_n hx hb dX1_holder_93 rfl (lv_at hl 3 rfl) ?_
        exact w_iret hx hb hr hlocks hS (⟨_, _, w1_k 0 (by simp [k_holder, sHol, lv, inR, inB, Int32.not_lt, Int32.not_le, h2, h3, h4, h5, h6, h7, h9, h10]) hP⟩) (rz_0 (by simp [k_holder, sHol, lv, inR, inB, Int32.not_lt, Int32.not_le, h2, h3, h4, h5, h6, h7, h9, h10]) (by simp [k_holder, sHol, lv, h2, h3, h4, h5, h6, h7, h9, h10])) dX1_holder_94
      · refine lv_aload_n hx hb dX1_holder_85 rfl (lv_at hl 0 rfl) ?_
        refine lv_iconst (v := nI 2) hx hb dX1_holder_86 (by decide) ?_
        refine r_callW (rest := []) Fx (m_X1_no l (D := D) (ci := ci) (cz := cz) (cj := cj) (q := q) (F := F) (P := P) (g := g) (th := nI 0) (he := he) (hn := hn) hq hF hP12 (nI 2) ) (cwV 1 Fx.2.2.2.2 gX1_holder_X1_no rfl rfl rfl (by decide +kernel) ⟨Nat.le_of_ble_eq_true rfl, Nat.le_of_ble_eq_true rfl⟩) BW.bl (va_recv hK hP (ci := 1) (q0 := 0) rfl rfl) (BW.at hP hK hE hS) rfl hl.1 rfl (Nat.le_of_ble_eq_true rfl) dX1_holder_87 ⟨Nat.zero_le _, Nat.zero_le _⟩ hS (fun _ h => h) (fun H locs hP hS _ _ => ?_)
        have hP : va_P D vwCl (w1 ci cz q (nI 2) F P g he hn) H := hP
        refine lv_goto (tgt := 94) hx hb dX1_holder_90 (by decide) ?_
        exact w_iret hx hb hr hlocks hS (⟨_, _, w1_k 2 (by simp [k_holder, sHol, lv, inR, inB, Int32.not_lt, Int32.not_le, h2, h3, h4, h5, h6, h7, h9, h10]) hP⟩) (rz_n 1 (by simp [k_holder, sHol, lv, inR, inB, Int32.not_lt, Int32.not_le, h2, h3, h4, h5, h6, h7, h9, h10])) dX1_holder_94
    · intro i h12 h11 ih28 ls hl
      have hl : lv_has ls 6 [(0, .ref (q 0)), (1, .int (nI jf)), (2, .int (nI jw)), (3, .int ((ho (fun z => own g jf jw z) i).1)), (4, .int ((ho (fun z => own g jf jw z) i).2)), (5, .int (nI i))] := hl
      refine lv_iload hx hb dX1_holder_28 (lv_at hl 5 rfl) ?_
      refine lv_aload_n hx hb dX1_holder_30 rfl (lv_at hl 0 rfl) ?_
      refine r_get Fx hin hK hP 1 rfl 5 (by decide) (by decide +kernel) rfl rfl dX1_holder_31 ?_
      refine n_icmp_ge (tgt := 80) hx hb (by omega) (by omega) dX1_holder_34 (by decide) (fun h13 => by omega) (fun h13 => ?_)
      refine lv_aload_n hx hb dX1_holder_37 rfl (lv_at hl 0 rfl) ?_
      refine r_get Fx hin hK hP 1 rfl 4 (by decide) (by decide +kernel) rfl rfl dX1_holder_38 ?_
      refine lv_iload_n hx hb dX1_holder_41 rfl (lv_at hl 1 rfl) ?_
      refine lv_iload_n hx hb dX1_holder_42 rfl (lv_at hl 2 rfl) ?_
      refine lv_iload hx hb dX1_holder_43 (lv_at hl 5 rfl) ?_
      refine r_callRS (rest := [.ref (q 3)]) Fx (m_X1_at l (D := D) (ci := ci) (cz := cz) (cj := cj) (q := q) (F := F) (P := P) (g := g) (th := nI 0) (he := he) (hn := hn) hF hP12 jf jw i ) (va_cwS 3 Fx.2.2.2.2 gX1_holder_X1_at rfl rfl rfl (by decide +kernel) ⟨Nat.le_of_ble_eq_true rfl, Nat.le_of_ble_eq_true rfl⟩) BW.bl (BW.at hP hK hE hS) rfl hl.1 rfl (Nat.le_of_ble_eq_true rfl) dX1_holder_45 ⟨Nat.zero_le _, Nat.zero_le _⟩ ?_
      refine r_iald Fx hK hP 3 0 rfl rfl (i := sl jf jw i) (sl_lt (by omega) (by omega) (by omega)) (by decide) dX1_holder_48 ?_
      refine r_as (own g jf jw i) rfl ?_
      refine lv_iload hx hb dX1_holder_49 (lv_at hl 4 rfl) ?_
      refine lv_icmp_gt (tgt := 57) hx hb dX1_holder_51 (by decide) (fun h14 => ?_) (fun h14 => ?_)
      · refine lv_iload hx hb dX1_holder_57 (lv_at hl 5 rfl) ?_
        refine lv_istore_n (lv' := [(3, .int (nI i)), (0, .ref (q 0)), (1, .int (nI jf)), (2, .int (nI jw)), (4, .int ((ho (fun z => own g jf jw z) i).2)), (5, .int (nI i))]) hx hb dX1_holder_59 rfl hl (by decide) rfl (fun ls hl => ?_)
        refine lv_aload_n hx hb dX1_holder_60 rfl (lv_at hl 1 rfl) ?_
        refine r_get Fx hin hK hP 1 rfl 4 (by decide) (by decide +kernel) rfl rfl dX1_holder_61 ?_
        refine lv_iload_n hx hb dX1_holder_64 rfl (lv_at hl 2 rfl) ?_
        refine lv_iload_n hx hb dX1_holder_65 rfl (lv_at hl 3 rfl) ?_
        refine lv_iload hx hb dX1_holder_66 (lv_at hl 5 rfl) ?_
        refine r_callRS (rest := [.ref (q 3)]) Fx (m_X1_at l (D := D) (ci := ci) (cz := cz) (cj := cj) (q := q) (F := F) (P := P) (g := g) (th := nI 0) (he := he) (hn := hn) hF hP12 jf jw i ) (va_cwS 3 Fx.2.2.2.2 gX1_holder_X1_at rfl rfl rfl (by decide +kernel) ⟨Nat.le_of_ble_eq_true rfl, Nat.le_of_ble_eq_true rfl⟩) BW.bl (BW.at hP hK hE hS) rfl hl.1 rfl (Nat.le_of_ble_eq_true rfl) dX1_holder_68 ⟨Nat.zero_le _, Nat.zero_le _⟩ ?_
        refine r_iald Fx hK hP 3 0 rfl rfl (i := sl jf jw i) (sl_lt (by omega) (by omega) (by omega)) (by decide) dX1_holder_71 ?_
        refine r_as (own g jf jw i) rfl ?_
        refine lv_istore (lv' := [(4, .int (own g jf jw i)), (3, .int (nI i)), (0, .ref (q 0)), (1, .int (nI jf)), (2, .int (nI jw)), (5, .int (nI i))]) hx hb dX1_holder_72 hl (by decide) rfl (fun ls hl => ?_)
        refine lv_iinc (v := nI (i + 1)) (lv' := [(5, .int (nI (i + 1))), (4, .int (own g jf jw i)), (3, .int (nI i)), (0, .ref (q 0)), (1, .int (nI jf)), (2, .int (nI jw))]) hx hb dX1_holder_74 hl (k := 5) rfl (nI_inc _ 1) (by decide) rfl (fun ls hl => ?_)
        refine lv_goto (tgt := 28) hx hb dX1_holder_77 (by decide) ?_
        have e3_ : nI i = (ho (fun z => own g jf jw z) (i + 1)).1 := by simp [ho, h2, h3, h4, h5, h6, h7, h12, h13, h14, Int32.not_le.mpr h14]
        rw [e3_] at hl
        have e4_ : own g jf jw i = (ho (fun z => own g jf jw z) (i + 1)).2 := by simp [ho, h2, h3, h4, h5, h6, h7, h12, h13, h14, Int32.not_le.mpr h14]
        rw [e4_] at hl
        exact ih28 (trivial) _ (lv_sub hl [3, 4, 5, 2, 1, 0] rfl)
      · have h14 := Int32.not_lt.mp h14
        refine lv_goto (tgt := 74) hx hb dX1_holder_54 (by decide) ?_
        refine lv_iinc (v := nI (i + 1)) (lv' := [(5, .int (nI (i + 1))), (0, .ref (q 0)), (1, .int (nI jf)), (2, .int (nI jw)), (3, .int ((ho (fun z => own g jf jw z) i).1)), (4, .int ((ho (fun z => own g jf jw z) i).2))]) hx hb dX1_holder_74 hl (k := 5) rfl (nI_inc _ 1) (by decide) rfl (fun ls hl => ?_)
        refine lv_goto (tgt := 28) hx hb dX1_holder_77 (by decide) ?_
        have e3_ : (ho (fun z => own g jf jw z) i).1 = (ho (fun z => own g jf jw z) (i + 1)).1 := by simp [ho, h2, h3, h4, h5, h6, h7, h12, h13, h14, Int32.not_lt.mpr h14]
        rw [e3_] at hl
        have e4_ : (ho (fun z => own g jf jw z) i).2 = (ho (fun z => own g jf jw z) (i + 1)).2 := by simp [ho, h2, h3, h4, h5, h6, h7, h12, h13, h14, Int32.not_lt.mpr h14]
        rw [e4_] at hl
        exact ih28 (trivial) _ (lv_sub hl [1, 2, 3, 4, 5, 0] rfl)
  · have h1 := of_decide_eq_false h1
    rcases Classical.not_and_iff_not_or_not.mp h1 with h1 | h1
    · refine lv_aload_n hx hb dX1_holder_14 rfl (lv_at hl 0 rfl) ?_
      refine lv_iconst (v := nI 1) hx hb dX1_holder_15 (by decide) ?_
      refine r_callW (rest := []) Fx (m_X1_no l (D := D) (ci := ci) (cz := cz) (cj := cj) (q := q) (F := F) (P := P) (g := g) (th := nI 0) (he := he) (hn := hn) hq hF hP12 (nI 1) ) (cwV 1 Fx.2.2.2.2 gX1_holder_X1_no rfl rfl rfl (by decide +kernel) ⟨Nat.le_of_ble_eq_true rfl, Nat.le_of_ble_eq_true rfl⟩) BW.bl (va_recv hK hP (ci := 1) (q0 := 0) rfl rfl) (BW.at hP hK hE hS) rfl hl.1 rfl (Nat.le_of_ble_eq_true rfl) dX1_holder_16 ⟨Nat.zero_le _, Nat.zero_le _⟩ hS (fun _ h => h) (fun H locs hP hS _ _ => ?_)
      have hP : va_P D vwCl (w1 ci cz q (nI 1) F P g he hn) H := hP
      exact w_iret hx hb hr hlocks hS (⟨_, _, w1_k 1 (by simp [k_holder, sHol, lv, inR, inB, Int32.not_lt, Int32.not_le, h1]) hP⟩) (rz_n 0 (by simp [k_holder, sHol, lv, inR, inB, Int32.not_lt, Int32.not_le, h1])) dX1_holder_19
    · refine lv_aload_n hx hb dX1_holder_14 rfl (lv_at hl 0 rfl) ?_
      refine lv_iconst (v := nI 1) hx hb dX1_holder_15 (by decide) ?_
      refine r_callW (rest := []) Fx (m_X1_no l (D := D) (ci := ci) (cz := cz) (cj := cj) (q := q) (F := F) (P := P) (g := g) (th := nI 0) (he := he) (hn := hn) hq hF hP12 (nI 1) ) (cwV 1 Fx.2.2.2.2 gX1_holder_X1_no rfl rfl rfl (by decide +kernel) ⟨Nat.le_of_ble_eq_true rfl, Nat.le_of_ble_eq_true rfl⟩) BW.bl (va_recv hK hP (ci := 1) (q0 := 0) rfl rfl) (BW.at hP hK hE hS) rfl hl.1 rfl (Nat.le_of_ble_eq_true rfl) dX1_holder_16 ⟨Nat.zero_le _, Nat.zero_le _⟩ hS (fun _ h => h) (fun H locs hP hS _ _ => ?_)
      have hP : va_P D vwCl (w1 ci cz q (nI 1) F P g he hn) H := hP
      exact w_iret hx hb hr hlocks hS (⟨_, _, w1_k 1 (by simp [k_holder, sHol, lv, inR, inB, Int32.not_lt, Int32.not_le, h1]) hP⟩) (rz_n 0 (by simp [k_holder, sHol, lv, inR, inB, Int32.not_lt, Int32.not_le, h1])) dX1_holder_19
set_option maxHeartbeats 4000000 in
set_option maxRecDepth 100000 in
theorem m_X1_master (l : Launch) {D : va_G} {ci cz cj : ClassId} {q : Nat → Nat} {F P : Nat} {g : Nat → Nat → Int32} {th : Int32} {he : Nat → Int32} {hn : Nat} (hq : DQ q 9) (hF : F ≤ 6) (hP12 : P ≤ 12) (f : Int32) (ha0 : Iv F P g) : Met l yX1_master wsX1_master ({ frames := 3, cells := 0, slots := 0, locals := 68 } : Room) (va_Pc [.ref (q 0), .int f] (B1 D ci cz cj q th F P g he hn)) (WQ (some (.int (rz (k_master F P g f) (sMas g P (ix f))))) (fun H => ∃ (he : Nat → Int32) (hn : Nat), va_P D vwCl (w1 ci cz q (nI (k_master F P g f)) F P g he hn) H) (aw q 9)) 0 0 (aw q 9) := by
  refine Met.ofWr (cc := cX1_master) (maxL := 3) (ret := (some .int)) (by decide) rfl (Nat.le_of_ble_eq_true rfl) ?_
  intro pg en s m bl mt cd ls Fx hr hlocks hB hl
  obtain ⟨hP, hK, hE⟩ := hB
  have hl : lv_has ls 3 [(0, .ref (q 0)), (1, .int f)] := hl
  have Fx : CallFix pg m cd cX1_master 3 s _ wsX1_master RX1 := Fx
  have hx := Fx.1
  have hb := Fx.2.1
  have hin : ∀ w ∈ wsX10, w ∈ wsX1_master := by decide +kernel
  have hS : va_S (aw q 9) s.heap s.heap [] := va_S.rf
  have hP : va_P D vwCl (w1 ci cz q th F P g he hn) s.heap := hP
  refine lv_aload_n hx hb dX1_master_0 rfl (lv_at hl 0 rfl) ?_
  refine lv_iconst (v := nI 0) hx hb dX1_master_1 (by decide) ?_
  refine r_put Fx hin tyX1 tyX1_ok nmX1 hK hP (d1 hq) hS 1 rfl 0 (by decide) (by decide +kernel) rfl (by decide +kernel) rfl (Nat.le_of_ble_eq_true rfl) dX1_master_2 (fun H locs hP hS => ?_)
  have hP : va_P D vwCl (w1 ci cz q (nI 0) F P g he hn) H := hP
  refine lv_aload_n hx hb dX1_master_5 rfl (lv_at hl 0 rfl) ?_
  refine lv_iload_n hx hb dX1_master_6 rfl (lv_at hl 1 rfl) ?_
  refine r_callR (rest := []) Fx (m_X1_isFerry l (D := D) (ci := ci) (cz := cz) (cj := cj) (q := q) (F := F) (P := P) (g := g) (th := nI 0) (he := he) (hn := hn) hF hP12 f ) (cwV 1 Fx.2.2.2.2 gX1_master_X1_isFerry rfl rfl rfl (by decide +kernel) ⟨Nat.le_of_ble_eq_true rfl, Nat.le_of_ble_eq_true rfl⟩) BW.bl (va_recv hK hP (ci := 1) (q0 := 0) rfl rfl) (BW.at hP hK hE hS) rfl hl.1 rfl (Nat.le_of_ble_eq_true rfl) dX1_master_7 ⟨Nat.zero_le _, Nat.zero_le _⟩ ?_
  refine b_if_ne (tgt := 19) hx hb dX1_master_10 (by decide) (fun h1 => ?_) (fun h1 => ?_)
  · have h1 := of_decide_eq_true h1
    obtain ⟨jf, h2, rfl⟩ := inR_of h1 (by omega)
    have h3 : ix (nI jf) = jf := ix_nI (by omega)
    refine lv_aload_n hx hb dX1_master_19 rfl (lv_at hl 0 rfl) ?_
    refine lv_iload_n hx hb dX1_master_20 rfl (lv_at hl 1 rfl) ?_
    refine r_callR (rest := []) Fx (m_X1_masterOf l (D := D) (ci := ci) (cz := cz) (cj := cj) (q := q) (F := F) (P := P) (g := g) (th := nI 0) (he := he) (hn := hn) hF hP12 jf ha0 (by omega)) (cwV 1 Fx.2.2.2.2 gX1_master_X1_masterOf rfl rfl rfl (by decide +kernel) ⟨Nat.le_of_ble_eq_true rfl, Nat.le_of_ble_eq_true rfl⟩) BW.bl (va_recv hK hP (ci := 1) (q0 := 0) rfl rfl) (BW.at hP hK hE hS) rfl hl.1 rfl (Nat.le_of_ble_eq_true rfl) dX1_master_21 ⟨Nat.zero_le _, Nat.zero_le _⟩ ?_
    refine lv_istore_n (lv' := [(2, .int (sMas g P jf)), (0, .ref (q 0)), (1, .int (nI jf))]) hx hb dX1_master_24 rfl hl (by decide) rfl (fun ls hl => ?_)
    refine lv_iload_n hx hb dX1_master_25 rfl (lv_at hl 0 rfl) ?_
    refine lv_iconst (v := -1) hx hb dX1_master_26 (by decide) ?_
    refine lv_icmp_ne (tgt := 38) hx hb dX1_master_27 (by decide) (fun h4 => ?_) (fun h4 => ?_)
    · refine lv_iload_n hx hb dX1_master_38 rfl (lv_at hl 0 rfl) ?_
      exact w_iret hx hb hr hlocks hS (⟨_, _, w1_k 0 (by simp [k_master, lv, inR, inB, Int32.not_lt, Int32.not_le, h1, h2, h3, h4]) hP⟩) (rz_0 (by simp [k_master, lv, inR, inB, Int32.not_lt, Int32.not_le, h1, h2, h3, h4]) (by simp [k_master, lv, h1, h2, h3, h4])) dX1_master_39
    · refine lv_aload_n hx hb dX1_master_30 rfl (lv_at hl 1 rfl) ?_
      refine lv_iconst (v := nI 2) hx hb dX1_master_31 (by decide) ?_
      refine r_callW (rest := []) Fx (m_X1_no l (D := D) (ci := ci) (cz := cz) (cj := cj) (q := q) (F := F) (P := P) (g := g) (th := nI 0) (he := he) (hn := hn) hq hF hP12 (nI 2) ) (cwV 1 Fx.2.2.2.2 gX1_master_X1_no rfl rfl rfl (by decide +kernel) ⟨Nat.le_of_ble_eq_true rfl, Nat.le_of_ble_eq_true rfl⟩) BW.bl (va_recv hK hP (ci := 1) (q0 := 0) rfl rfl) (BW.at hP hK hE hS) rfl hl.1 rfl (Nat.le_of_ble_eq_true rfl) dX1_master_32 ⟨Nat.zero_le _, Nat.zero_le _⟩ hS (fun _ h => h) (fun H locs hP hS _ _ => ?_)
      have hP : va_P D vwCl (w1 ci cz q (nI 2) F P g he hn) H := hP
      refine lv_goto (tgt := 39) hx hb dX1_master_35 (by decide) ?_
      exact w_iret hx hb hr hlocks hS (⟨_, _, w1_k 2 (by simp [k_master, lv, inR, inB, Int32.not_lt, Int32.not_le, h1, h2, h3, h4]) hP⟩) (rz_n 1 (by simp [k_master, lv, inR, inB, Int32.not_lt, Int32.not_le, h1, h2, h3, h4])) dX1_master_39
  · have h1 := of_decide_eq_false h1
    refine lv_aload_n hx hb dX1_master_13 rfl (lv_at hl 0 rfl) ?_
    refine lv_iconst (v := nI 1) hx hb dX1_master_14 (by decide) ?_
    refine r_callW (rest := []) Fx (m_X1_no l (D := D) (ci := ci) (cz := cz) (cj := cj) (q := q) (F := F) (P := P) (g := g) (th := nI 0) (he := he) (hn := hn) hq hF hP12 (nI 1) ) (cwV 1 Fx.2.2.2.2 gX1_master_X1_no rfl rfl rfl (by decide +kernel) ⟨Nat.le_of_ble_eq_true rfl, Nat.le_of_ble_eq_true rfl⟩) BW.bl (va_recv hK hP (ci := 1) (q0 := 0) rfl rfl) (BW.at hP hK hE hS) rfl hl.1 rfl (Nat.le_of_ble_eq_true rfl) dX1_master_15 ⟨Nat.zero_le _, Nat.zero_le _⟩ hS (fun _ h => h) (fun H locs hP hS _ _ => ?_)
    have hP : va_P D vwCl (w1 ci cz q (nI 1) F P g he hn) H := hP
    exact w_iret hx hb hr hlocks hS (⟨_, _, w1_k 1 (by simp [k_master, lv, inR, inB, Int32.not_lt, Int32.not_le, h1]) hP⟩) (rz_n 0 (by simp [k_master, lv, inR, inB, Int32.not_lt, Int32.not_le, h1])) dX1_master_18
set_option maxHeartbeats 4000000 in
set_option maxRecDepth 100000 in
theorem m_X1_hasMaster (l : Launch) {D : va_G} {ci cz cj : ClassId} {q : Nat → Nat} {F P : Nat} {g : Nat → Nat → Int32} {th : Int32} {he : Nat → Int32} {hn : Nat} (hq : DQ q 9) (hF : F ≤ 6) (hP12 : P ≤ 12) (a : Int32) (ha0 : Iv F P g) : Met l yX1_hasMaster wsX1_hasMaster ({ frames := 3, cells := 0, slots := 0, locals := 68 } : Room) (va_Pc [.ref (q 0), .int a] (B1 D ci cz cj q th F P g he hn)) (WQ (some (.int (bI (rb (k_1 F a) (decide (sMas g P (ix a) ≠ -1)))))) (fun H => ∃ (he : Nat → Int32) (hn : Nat), va_P D vwCl (w1 ci cz q (nI (k_1 F a)) F P g he hn) H) (aw q 9)) 0 0 (aw q 9) := by
  refine Met.ofWr (cc := cX1_hasMaster) (maxL := 2) (ret := (some .boolean)) (by decide) rfl (Nat.le_of_ble_eq_true rfl) ?_
  intro pg en s m bl mt cd ls Fx hr hlocks hB hl
  obtain ⟨hP, hK, hE⟩ := hB
  have hl : lv_has ls 2 [(0, .ref (q 0)), (1, .int a)] := hl
  have Fx : CallFix pg m cd cX1_hasMaster 2 s _ wsX1_hasMaster RX1 := Fx
  have hx := Fx.1
  have hb := Fx.2.1
  have hin : ∀ w ∈ wsX10, w ∈ wsX1_hasMaster := by decide +kernel
  have hS : va_S (aw q 9) s.heap s.heap [] := va_S.rf
  have hP : va_P D vwCl (w1 ci cz q th F P g he hn) s.heap := hP
  refine lv_aload_n hx hb dX1_hasMaster_0 rfl (lv_at hl 0 rfl) ?_
  refine lv_iconst (v := nI 0) hx hb dX1_hasMaster_1 (by decide) ?_
  refine r_put Fx hin tyX1 tyX1_ok nmX1 hK hP (d1 hq) hS 1 rfl 0 (by decide) (by decide +kernel) rfl (by decide +kernel) rfl (Nat.le_of_ble_eq_true rfl) dX1_hasMaster_2 (fun H locs hP hS => ?_)
  have hP : va_P D vwCl (w1 ci cz q (nI 0) F P g he hn) H := hP
  refine lv_aload_n hx hb dX1_hasMaster_5 rfl (lv_at hl 0 rfl) ?_
  refine lv_iload_n hx hb dX1_hasMaster_6 rfl (lv_at hl 1 rfl) ?_
  refine r_callR (rest := []) Fx (m_X1_isFerry l (D := D) (ci := ci) (cz := cz) (cj := cj) (q := q) (F := F) (P := P) (g := g) (th := nI 0) (he := he) (hn := hn) hF hP12 a ) (cwV 1 Fx.2.2.2.2 gX1_hasMaster_X1_isFerry rfl rfl rfl (by decide +kernel) ⟨Nat.le_of_ble_eq_true rfl, Nat.le_of_ble_eq_true rfl⟩) BW.bl (va_recv hK hP (ci := 1) (q0 := 0) rfl rfl) (BW.at hP hK hE hS) rfl hl.1 rfl (Nat.le_of_ble_eq_true rfl) dX1_hasMaster_7 ⟨Nat.zero_le _, Nat.zero_le _⟩ ?_
  refine b_if_eq (tgt := 30) hx hb dX1_hasMaster_10 (by decide) (fun h1 => ?_) (fun h1 => ?_)
  · have h1 := of_decide_eq_false h1
    refine lv_aload_n hx hb dX1_hasMaster_30 rfl (lv_at hl 0 rfl) ?_
    refine lv_iconst (v := nI 1) hx hb dX1_hasMaster_31 (by decide) ?_
    refine r_callW (rest := []) Fx (m_X1_isNot l (D := D) (ci := ci) (cz := cz) (cj := cj) (q := q) (F := F) (P := P) (g := g) (th := nI 0) (he := he) (hn := hn) hq hF hP12 (nI 1) ) (cwV 1 Fx.2.2.2.2 gX1_hasMaster_X1_isNot rfl rfl rfl (by decide +kernel) ⟨Nat.le_of_ble_eq_true rfl, Nat.le_of_ble_eq_true rfl⟩) BW.bl (va_recv hK hP (ci := 1) (q0 := 0) rfl rfl) (BW.at hP hK hE hS) rfl hl.1 rfl (Nat.le_of_ble_eq_true rfl) dX1_hasMaster_32 ⟨Nat.zero_le _, Nat.zero_le _⟩ hS (fun _ h => h) (fun H locs hP hS _ _ => ?_)
    have hP : va_P D vwCl (w1 ci cz q (nI 1) F P g he hn) H := hP
    exact w_zret hx hb hr hlocks hS (⟨_, _, w1_k 1 (by simp [k_1, lv, inR, inB, Int32.not_lt, Int32.not_le, h1]) hP⟩) (rb_n 0 (by simp [k_1, lv, inR, inB, Int32.not_lt, Int32.not_le, h1])) dX1_hasMaster_35
  · have h1 := of_decide_eq_true h1
    obtain ⟨ja, h2, rfl⟩ := inR_of h1 (by omega)
    have h3 : ix (nI ja) = ja := ix_nI (by omega)
    refine lv_aload_n hx hb dX1_hasMaster_13 rfl (lv_at hl 0 rfl) ?_
    refine lv_iload_n hx hb dX1_hasMaster_14 rfl (lv_at hl 1 rfl) ?_
    refine r_callR (rest := []) Fx (m_X1_masterOf l (D := D) (ci := ci) (cz := cz) (cj := cj) (q := q) (F := F) (P := P) (g := g) (th := nI 0) (he := he) (hn := hn) hF hP12 ja ha0 (by omega)) (cwV 1 Fx.2.2.2.2 gX1_hasMaster_X1_masterOf rfl rfl rfl (by decide +kernel) ⟨Nat.le_of_ble_eq_true rfl, Nat.le_of_ble_eq_true rfl⟩) BW.bl (va_recv hK hP (ci := 1) (q0 := 0) rfl rfl) (BW.at hP hK hE hS) rfl hl.1 rfl (Nat.le_of_ble_eq_true rfl) dX1_hasMaster_15 ⟨Nat.zero_le _, Nat.zero_le _⟩ ?_
    refine lv_iconst (v := -1) hx hb dX1_hasMaster_18 (by decide) ?_
    refine lv_icmp_eq (tgt := 26) hx hb dX1_hasMaster_19 (by decide) (fun h4 => ?_) (fun h4 => ?_)
    · refine lv_iconst (v := nI 0) hx hb dX1_hasMaster_26 (by decide) ?_
      refine lv_goto (tgt := 35) hx hb dX1_hasMaster_27 (by decide) ?_
      exact w_zret hx hb hr hlocks hS (⟨_, _, w1_k 0 (by simp [k_1, lv, inR, inB, Int32.not_lt, Int32.not_le, h1, h2, h3, h4]) hP⟩) (rb_0 (by simp [k_1, lv, inR, inB, Int32.not_lt, Int32.not_le, h1, h2, h3, h4]) (by simp [k_1, bI, lv, h1, h2, h3, h4])) dX1_hasMaster_35
    · refine lv_iconst (v := nI 1) hx hb dX1_hasMaster_22 (by decide) ?_
      refine lv_goto (tgt := 35) hx hb dX1_hasMaster_23 (by decide) ?_
      exact w_zret hx hb hr hlocks hS (⟨_, _, w1_k 0 (by simp [k_1, lv, inR, inB, Int32.not_lt, Int32.not_le, h1, h2, h3, h4]) hP⟩) (rb_0 (by simp [k_1, lv, inR, inB, Int32.not_lt, Int32.not_le, h1, h2, h3, h4]) (by simp [k_1, bI, lv, h1, h2, h3, h4])) dX1_hasMaster_35
set_option maxHeartbeats 4000000 in
set_option maxRecDepth 100000 in
theorem m_X1_shareValue (l : Launch) {D : va_G} {ci cz cj : ClassId} {q : Nat → Nat} {F P : Nat} {g : Nat → Nat → Int32} {th : Int32} {he : Nat → Int32} {hn : Nat} (hq : DQ q 9) (hF : F ≤ 6) (hP12 : P ≤ 12) (f : Int32) (w : Int32) (ha0 : Iv F P g) : Met l yX1_shareValue wsX1_shareValue ({ frames := 3, cells := 0, slots := 0, locals := 65 } : Room) (va_Pc [.ref (q 0), .int f, .int w] (B1 D ci cz cj q th F P g he hn)) (WQ (some (.int (rz (k_fw F f w) (sWor g (ix f) (ix w))))) (fun H => ∃ (he : Nat → Int32) (hn : Nat), va_P D vwCl (w1 ci cz q (nI (k_fw F f w)) F P g he hn) H) (aw q 9)) 0 0 (aw q 9) := by
  refine Met.ofWr (cc := cX1_shareValue) (maxL := 3) (ret := (some .int)) (by decide) rfl (Nat.le_of_ble_eq_true rfl) ?_
  intro pg en s m bl mt cd ls Fx hr hlocks hB hl
  obtain ⟨hP, hK, hE⟩ := hB
  have hl : lv_has ls 3 [(0, .ref (q 0)), (1, .int f), (2, .int w)] := hl
  have Fx : CallFix pg m cd cX1_shareValue 3 s _ wsX1_shareValue RX1 := Fx
  have hx := Fx.1
  have hb := Fx.2.1
  have hin : ∀ w ∈ wsX10, w ∈ wsX1_shareValue := by decide +kernel
  have hS : va_S (aw q 9) s.heap s.heap [] := va_S.rf
  have hP : va_P D vwCl (w1 ci cz q th F P g he hn) s.heap := hP
  refine lv_aload_n hx hb dX1_shareValue_0 rfl (lv_at hl 0 rfl) ?_
  refine lv_iconst (v := nI 0) hx hb dX1_shareValue_1 (by decide) ?_
  refine r_put Fx hin tyX1 tyX1_ok nmX1 hK hP (d1 hq) hS 1 rfl 0 (by decide) (by decide +kernel) rfl (by decide +kernel) rfl (Nat.le_of_ble_eq_true rfl) dX1_shareValue_2 (fun H locs hP hS => ?_)
  have hP : va_P D vwCl (w1 ci cz q (nI 0) F P g he hn) H := hP
  refine lv_aload_n hx hb dX1_shareValue_5 rfl (lv_at hl 0 rfl) ?_
  refine lv_iload_n hx hb dX1_shareValue_6 rfl (lv_at hl 1 rfl) ?_
  refine lv_iload_n hx hb dX1_shareValue_7 rfl (lv_at hl 2 rfl) ?_
  refine r_callR (rest := []) Fx (m_X1_isWatch l (D := D) (ci := ci) (cz := cz) (cj := cj) (q := q) (F := F) (P := P) (g := g) (th := nI 0) (he := he) (hn := hn) hF hP12 f w ) (cwV 2 Fx.2.2.2.2 gX1_shareValue_X1_isWatch rfl rfl rfl (by decide +kernel) ⟨Nat.le_of_ble_eq_true rfl, Nat.le_of_ble_eq_true rfl⟩) BW.bl (va_recv hK hP (ci := 1) (q0 := 0) rfl rfl) (BW.at hP hK hE hS) rfl hl.1 rfl (Nat.le_of_ble_eq_true rfl) dX1_shareValue_8 ⟨Nat.zero_le _, Nat.zero_le _⟩ ?_
  refine b_if_eq (tgt := 23) hx hb dX1_shareValue_11 (by decide) (fun h1 => ?_) (fun h1 => ?_)
  · have h1 := of_decide_eq_false h1
    rcases Classical.not_and_iff_not_or_not.mp h1 with h1 | h1
    · refine lv_aload_n hx hb dX1_shareValue_23 rfl (lv_at hl 0 rfl) ?_
      refine lv_iconst (v := nI 1) hx hb dX1_shareValue_24 (by decide) ?_
      refine r_callW (rest := []) Fx (m_X1_no l (D := D) (ci := ci) (cz := cz) (cj := cj) (q := q) (F := F) (P := P) (g := g) (th := nI 0) (he := he) (hn := hn) hq hF hP12 (nI 1) ) (cwV 1 Fx.2.2.2.2 gX1_shareValue_X1_no rfl rfl rfl (by decide +kernel) ⟨Nat.le_of_ble_eq_true rfl, Nat.le_of_ble_eq_true rfl⟩) BW.bl (va_recv hK hP (ci := 1) (q0 := 0) rfl rfl) (BW.at hP hK hE hS) rfl hl.1 rfl (Nat.le_of_ble_eq_true rfl) dX1_shareValue_25 ⟨Nat.zero_le _, Nat.zero_le _⟩ hS (fun _ h => h) (fun H locs hP hS _ _ => ?_)
      have hP : va_P D vwCl (w1 ci cz q (nI 1) F P g he hn) H := hP
      exact w_iret hx hb hr hlocks hS (⟨_, _, w1_k 1 (by simp [k_fw, lv, inR, inB, Int32.not_lt, Int32.not_le, h1]) hP⟩) (rz_n 0 (by simp [k_fw, lv, inR, inB, Int32.not_lt, Int32.not_le, h1])) dX1_shareValue_28
    · refine lv_aload_n hx hb dX1_shareValue_23 rfl (lv_at hl 0 rfl) ?_
      refine lv_iconst (v := nI 1) hx hb dX1_shareValue_24 (by decide) ?_
      refine r_callW (rest := []) Fx (m_X1_no l (D := D) (ci := ci) (cz := cz) (cj := cj) (q := q) (F := F) (P := P) (g := g) (th := nI 0) (he := he) (hn := hn) hq hF hP12 (nI 1) ) (cwV 1 Fx.2.2.2.2 gX1_shareValue_X1_no rfl rfl rfl (by decide +kernel) ⟨Nat.le_of_ble_eq_true rfl, Nat.le_of_ble_eq_true rfl⟩) BW.bl (va_recv hK hP (ci := 1) (q0 := 0) rfl rfl) (BW.at hP hK hE hS) rfl hl.1 rfl (Nat.le_of_ble_eq_true rfl) dX1_shareValue_25 ⟨Nat.zero_le _, Nat.zero_le _⟩ hS (fun _ h => h) (fun H locs hP hS _ _ => ?_)
      have hP : va_P D vwCl (w1 ci cz q (nI 1) F P g he hn) H := hP
      exact w_iret hx hb hr hlocks hS (⟨_, _, w1_k 1 (by simp [k_fw, lv, inR, inB, Int32.not_lt, Int32.not_le, h1]) hP⟩) (rz_n 0 (by simp [k_fw, lv, inR, inB, Int32.not_lt, Int32.not_le, h1])) dX1_shareValue_28
  · have h1 := of_decide_eq_true h1
    obtain ⟨h2, h3⟩ := h1
    obtain ⟨jf, h4, rfl⟩ := inR_of h2 (by omega)
    have h5 : ix (nI jf) = jf := ix_nI (by omega)
    obtain ⟨jw, h6, rfl⟩ := inR_of h3 (by omega)
    have h7 : ix (nI jw) = jw := ix_nI (by omega)
    refine lv_aload_n hx hb dX1_shareValue_14 rfl (lv_at hl 0 rfl) ?_
    refine lv_iload_n hx hb dX1_shareValue_15 rfl (lv_at hl 1 rfl) ?_
    refine lv_iload_n hx hb dX1_shareValue_16 rfl (lv_at hl 2 rfl) ?_
    refine r_callR (rest := []) Fx (m_X1_worth l (D := D) (ci := ci) (cz := cz) (cj := cj) (q := q) (F := F) (P := P) (g := g) (th := nI 0) (he := he) (hn := hn) hF hP12 jf jw (by omega) (by omega)) (cwV 2 Fx.2.2.2.2 gX1_shareValue_X1_worth rfl rfl rfl (by decide +kernel) ⟨Nat.le_of_ble_eq_true rfl, Nat.le_of_ble_eq_true rfl⟩) BW.bl (va_recv hK hP (ci := 1) (q0 := 0) rfl rfl) (BW.at hP hK hE hS) rfl hl.1 rfl (Nat.le_of_ble_eq_true rfl) dX1_shareValue_17 ⟨Nat.zero_le _, Nat.zero_le _⟩ ?_
    refine lv_goto (tgt := 28) hx hb dX1_shareValue_20 (by decide) ?_
    exact w_iret hx hb hr hlocks hS (⟨_, _, w1_k 0 (by simp [k_fw, lv, inR, inB, Int32.not_lt, Int32.not_le, h2, h3, h4, h5, h6, h7]) hP⟩) (rz_0 (by simp [k_fw, lv, inR, inB, Int32.not_lt, Int32.not_le, h2, h3, h4, h5, h6, h7]) (by simp [k_fw, lv, h2, h3, h4, h5, h6, h7])) dX1_shareValue_28
set_option maxHeartbeats 4000000 in
set_option maxRecDepth 100000 in
theorem m_X1_watchAt (l : Launch) {D : va_G} {ci cz cj : ClassId} {q : Nat → Nat} {F P : Nat} {g : Nat → Nat → Int32} {th : Int32} {he : Nat → Int32} {hn : Nat} (hq : DQ q 9) (hF : F ≤ 6) (hP12 : P ≤ 12) (a : Int32) (ha0 : Iv F P g) : Met l yX1_watchAt wsX1_watchAt ({ frames := 1, cells := 0, slots := 0, locals := 22 } : Room) (va_Pc [.ref (q 0), .int a] (B1 D ci cz cj q th F P g he hn)) (WQ (some (.int (rz (k_1 24 a) (nI (ix a / 6))))) (fun H => ∃ (he : Nat → Int32) (hn : Nat), va_P D vwCl (w1 ci cz q (nI (k_1 24 a)) F P g he hn) H) (aw q 9)) 0 0 (aw q 9) := by
  refine Met.ofWr (cc := cX1_watchAt) (maxL := 2) (ret := (some .int)) (by decide) rfl (Nat.le_of_ble_eq_true rfl) ?_
  intro pg en s m bl mt cd ls Fx hr hlocks hB hl
  obtain ⟨hP, hK, hE⟩ := hB
  have hl : lv_has ls 2 [(0, .ref (q 0)), (1, .int a)] := hl
  have Fx : CallFix pg m cd cX1_watchAt 2 s _ wsX1_watchAt RX1 := Fx
  have hx := Fx.1
  have hb := Fx.2.1
  have hin : ∀ w ∈ wsX10, w ∈ wsX1_watchAt := by decide +kernel
  have hS : va_S (aw q 9) s.heap s.heap [] := va_S.rf
  have hP : va_P D vwCl (w1 ci cz q th F P g he hn) s.heap := hP
  refine lv_aload_n hx hb dX1_watchAt_0 rfl (lv_at hl 0 rfl) ?_
  refine lv_iconst (v := nI 0) hx hb dX1_watchAt_1 (by decide) ?_
  refine r_put Fx hin tyX1 tyX1_ok nmX1 hK hP (d1 hq) hS 1 rfl 0 (by decide) (by decide +kernel) rfl (by decide +kernel) rfl (Nat.le_of_ble_eq_true rfl) dX1_watchAt_2 (fun H locs hP hS => ?_)
  have hP : va_P D vwCl (w1 ci cz q (nI 0) F P g he hn) H := hP
  refine lv_iload_n hx hb dX1_watchAt_5 rfl (lv_at hl 1 rfl) ?_
  refine lv_iconst (v := nI 0) hx hb dX1_watchAt_6 (by decide) ?_
  refine lv_bipush (v := nI 23) hx hb dX1_watchAt_7 (by decide) ?_
  refine r_callRS (rest := []) Fx (m_X1_isIn l (D := D) (ci := ci) (cz := cz) (cj := cj) (q := q) (F := F) (P := P) (g := g) (th := nI 0) (he := he) (hn := hn) hF hP12 a (nI 0) (nI 23) ) (va_cwS 3 Fx.2.2.2.2 gX1_watchAt_X1_isIn rfl rfl rfl (by decide +kernel) ⟨Nat.le_of_ble_eq_true rfl, Nat.le_of_ble_eq_true rfl⟩) BW.bl (BW.at hP hK hE hS) rfl hl.1 rfl (Nat.le_of_ble_eq_true rfl) dX1_watchAt_9 ⟨Nat.zero_le _, Nat.zero_le _⟩ ?_
  rw [isI_23]
  refine b_if_eq (tgt := 22) hx hb dX1_watchAt_12 (by decide) (fun h1 => ?_) (fun h1 => ?_)
  · have h1 := of_decide_eq_false h1
    refine lv_aload_n hx hb dX1_watchAt_22 rfl (lv_at hl 0 rfl) ?_
    refine lv_iconst (v := nI 1) hx hb dX1_watchAt_23 (by decide) ?_
    refine r_callW (rest := []) Fx (m_X1_no l (D := D) (ci := ci) (cz := cz) (cj := cj) (q := q) (F := F) (P := P) (g := g) (th := nI 0) (he := he) (hn := hn) hq hF hP12 (nI 1) ) (cwV 1 Fx.2.2.2.2 gX1_watchAt_X1_no rfl rfl rfl (by decide +kernel) ⟨Nat.le_of_ble_eq_true rfl, Nat.le_of_ble_eq_true rfl⟩) BW.bl (va_recv hK hP (ci := 1) (q0 := 0) rfl rfl) (BW.at hP hK hE hS) rfl hl.1 rfl (Nat.le_of_ble_eq_true rfl) dX1_watchAt_24 ⟨Nat.zero_le _, Nat.zero_le _⟩ hS (fun _ h => h) (fun H locs hP hS _ _ => ?_)
    have hP : va_P D vwCl (w1 ci cz q (nI 1) F P g he hn) H := hP
    exact w_iret hx hb hr hlocks hS (⟨_, _, w1_k 1 (by simp [k_1, lv, inR, inB, Int32.not_lt, Int32.not_le, h1]) hP⟩) (rz_n 0 (by simp [k_1, lv, inR, inB, Int32.not_lt, Int32.not_le, h1])) dX1_watchAt_27
  · have h1 := of_decide_eq_true h1
    obtain ⟨ja, h2, rfl⟩ := inR_of h1 (by omega)
    have h3 : ix (nI ja) = ja := ix_nI (by omega)
    refine lv_iload_n hx hb dX1_watchAt_15 rfl (lv_at hl 1 rfl) ?_
    refine lv_bipush (v := nI 6) hx hb dX1_watchAt_16 (by decide) ?_
    refine r_idiv_n hx hb (by omega) (by omega) (by omega) dX1_watchAt_18 ?_
    refine lv_goto (tgt := 27) hx hb dX1_watchAt_19 (by decide) ?_
    exact w_iret hx hb hr hlocks hS (⟨_, _, w1_k 0 (by simp [k_1, lv, inR, inB, Int32.not_lt, Int32.not_le, h1, h2, h3]) hP⟩) (rz_0 (by simp [k_1, lv, inR, inB, Int32.not_lt, Int32.not_le, h1, h2, h3]) (by simp [k_1, lv, h1, h2, h3])) dX1_watchAt_27
set_option maxHeartbeats 4000000 in
set_option maxRecDepth 100000 in
theorem m_X1_isAlive (l : Launch) {D : va_G} {ci cz cj : ClassId} {q : Nat → Nat} {F P : Nat} {g : Nat → Nat → Int32} {th : Int32} {he : Nat → Int32} {hn : Nat} (hq : DQ q 9) (hF : F ≤ 6) (hP12 : P ≤ 12) (a : Int32) (ha0 : Iv F P g) : Met l yX1_isAlive wsX1_isAlive ({ frames := 2, cells := 0, slots := 0, locals := 43 } : Room) (va_Pc [.ref (q 0), .int a] (B1 D ci cz cj q th F P g he hn)) (WQ (some (.int (bI (rb (k_1 P a) (lv g (ix a)))))) (fun H => ∃ (he : Nat → Int32) (hn : Nat), va_P D vwCl (w1 ci cz q (nI (k_1 P a)) F P g he hn) H) (aw q 9)) 0 0 (aw q 9) := by
  refine Met.ofWr (cc := cX1_isAlive) (maxL := 2) (ret := (some .boolean)) (by decide) rfl (Nat.le_of_ble_eq_true rfl) ?_
  intro pg en s m bl mt cd ls Fx hr hlocks hB hl
  obtain ⟨hP, hK, hE⟩ := hB
  have hl : lv_has ls 2 [(0, .ref (q 0)), (1, .int a)] := hl
  have Fx : CallFix pg m cd cX1_isAlive 2 s _ wsX1_isAlive RX1 := Fx
  have hx := Fx.1
  have hb := Fx.2.1
  have hin : ∀ w ∈ wsX10, w ∈ wsX1_isAlive := by decide +kernel
  have hS : va_S (aw q 9) s.heap s.heap [] := va_S.rf
  have hP : va_P D vwCl (w1 ci cz q th F P g he hn) s.heap := hP
  refine lv_aload_n hx hb dX1_isAlive_0 rfl (lv_at hl 0 rfl) ?_
  refine lv_iconst (v := nI 0) hx hb dX1_isAlive_1 (by decide) ?_
  refine r_put Fx hin tyX1 tyX1_ok nmX1 hK hP (d1 hq) hS 1 rfl 0 (by decide) (by decide +kernel) rfl (by decide +kernel) rfl (Nat.le_of_ble_eq_true rfl) dX1_isAlive_2 (fun H locs hP hS => ?_)
  have hP : va_P D vwCl (w1 ci cz q (nI 0) F P g he hn) H := hP
  refine lv_aload_n hx hb dX1_isAlive_5 rfl (lv_at hl 0 rfl) ?_
  refine lv_iload_n hx hb dX1_isAlive_6 rfl (lv_at hl 1 rfl) ?_
  refine r_callR (rest := []) Fx (m_X1_isPerson l (D := D) (ci := ci) (cz := cz) (cj := cj) (q := q) (F := F) (P := P) (g := g) (th := nI 0) (he := he) (hn := hn) hF hP12 a ) (cwV 1 Fx.2.2.2.2 gX1_isAlive_X1_isPerson rfl rfl rfl (by decide +kernel) ⟨Nat.le_of_ble_eq_true rfl, Nat.le_of_ble_eq_true rfl⟩) BW.bl (va_recv hK hP (ci := 1) (q0 := 0) rfl rfl) (BW.at hP hK hE hS) rfl hl.1 rfl (Nat.le_of_ble_eq_true rfl) dX1_isAlive_7 ⟨Nat.zero_le _, Nat.zero_le _⟩ ?_
  refine b_if_eq (tgt := 30) hx hb dX1_isAlive_10 (by decide) (fun h1 => ?_) (fun h1 => ?_)
  · have h1 := of_decide_eq_false h1
    refine lv_aload_n hx hb dX1_isAlive_30 rfl (lv_at hl 0 rfl) ?_
    refine lv_iconst (v := nI 1) hx hb dX1_isAlive_31 (by decide) ?_
    refine r_callW (rest := []) Fx (m_X1_isNot l (D := D) (ci := ci) (cz := cz) (cj := cj) (q := q) (F := F) (P := P) (g := g) (th := nI 0) (he := he) (hn := hn) hq hF hP12 (nI 1) ) (cwV 1 Fx.2.2.2.2 gX1_isAlive_X1_isNot rfl rfl rfl (by decide +kernel) ⟨Nat.le_of_ble_eq_true rfl, Nat.le_of_ble_eq_true rfl⟩) BW.bl (va_recv hK hP (ci := 1) (q0 := 0) rfl rfl) (BW.at hP hK hE hS) rfl hl.1 rfl (Nat.le_of_ble_eq_true rfl) dX1_isAlive_32 ⟨Nat.zero_le _, Nat.zero_le _⟩ hS (fun _ h => h) (fun H locs hP hS _ _ => ?_)
    have hP : va_P D vwCl (w1 ci cz q (nI 1) F P g he hn) H := hP
    exact w_zret hx hb hr hlocks hS (⟨_, _, w1_k 1 (by simp [k_1, lv, inR, inB, Int32.not_lt, Int32.not_le, h1]) hP⟩) (rb_n 0 (by simp [k_1, lv, inR, inB, Int32.not_lt, Int32.not_le, h1])) dX1_isAlive_35
  · have h1 := of_decide_eq_true h1
    obtain ⟨ja, h2, rfl⟩ := inR_of h1 (by omega)
    have h3 : ix (nI ja) = ja := ix_nI (by omega)
    refine lv_aload_n hx hb dX1_isAlive_13 rfl (lv_at hl 0 rfl) ?_
    refine r_get Fx hin hK hP 1 rfl 9 (by decide) (by decide +kernel) rfl rfl dX1_isAlive_14 ?_
    refine lv_iload_n hx hb dX1_isAlive_17 rfl (lv_at hl 1 rfl) ?_
    refine r_zald Fx hK hP 4 1 rfl rfl (i := ja) (by omega) (by decide) dX1_isAlive_18 ?_
    refine lv_if_ne (tgt := 26) hx hb dX1_isAlive_19 (by decide) (fun h4 => ?_) (fun h4 => ?_)
    · refine lv_iconst (v := nI 0) hx hb dX1_isAlive_26 (by decide) ?_
      refine lv_goto (tgt := 35) hx hb dX1_isAlive_27 (by decide) ?_
      exact w_zret hx hb hr hlocks hS (⟨_, _, w1_k 0 (by simp [k_1, lv, inR, inB, Int32.not_lt, Int32.not_le, h1, h2, h3, h4]) hP⟩) (rb_0 (by simp [k_1, lv, inR, inB, Int32.not_lt, Int32.not_le, h1, h2, h3, h4]) (by simp [k_1, bI, lv, h1, h2, h3, h4])) dX1_isAlive_35
    · refine lv_iconst (v := nI 1) hx hb dX1_isAlive_22 (by decide) ?_
      refine lv_goto (tgt := 35) hx hb dX1_isAlive_23 (by decide) ?_
      exact w_zret hx hb hr hlocks hS (⟨_, _, w1_k 0 (by simp [k_1, lv, inR, inB, Int32.not_lt, Int32.not_le, h1, h2, h3, h4]) hP⟩) (rb_0 (by simp [k_1, lv, inR, inB, Int32.not_lt, Int32.not_le, h1, h2, h3, h4]) (by simp [k_1, bI, lv, h1, h2, h3, h4])) dX1_isAlive_35
set_option maxHeartbeats 4000000 in
set_option maxRecDepth 100000 in
theorem m_X1_coins (l : Launch) {D : va_G} {ci cz cj : ClassId} {q : Nat → Nat} {F P : Nat} {g : Nat → Nat → Int32} {th : Int32} {he : Nat → Int32} {hn : Nat} (hq : DQ q 9) (hF : F ≤ 6) (hP12 : P ≤ 12) (a : Int32) (ha0 : Iv F P g) : Met l yX1_coins wsX1_coins ({ frames := 2, cells := 0, slots := 0, locals := 43 } : Room) (va_Pc [.ref (q 0), .int a] (B1 D ci cz cj q th F P g he hn)) (WQ (some (.int (rz (k_1 P a) (g 4 (ix a))))) (fun H => ∃ (he : Nat → Int32) (hn : Nat), va_P D vwCl (w1 ci cz q (nI (k_1 P a)) F P g he hn) H) (aw q 9)) 0 0 (aw q 9) := by
  refine Met.ofWr (cc := cX1_coins) (maxL := 2) (ret := (some .int)) (by decide) rfl (Nat.le_of_ble_eq_true rfl) ?_
  intro pg en s m bl mt cd ls Fx hr hlocks hB hl
  obtain ⟨hP, hK, hE⟩ := hB
  have hl : lv_has ls 2 [(0, .ref (q 0)), (1, .int a)] := hl
  have Fx : CallFix pg m cd cX1_coins 2 s _ wsX1_coins RX1 := Fx
  have hx := Fx.1
  have hb := Fx.2.1
  have hin : ∀ w ∈ wsX10, w ∈ wsX1_coins := by decide +kernel
  have hS : va_S (aw q 9) s.heap s.heap [] := va_S.rf
  have hP : va_P D vwCl (w1 ci cz q th F P g he hn) s.heap := hP
  refine lv_aload_n hx hb dX1_coins_0 rfl (lv_at hl 0 rfl) ?_
  refine lv_iconst (v := nI 0) hx hb dX1_coins_1 (by decide) ?_
  refine r_put Fx hin tyX1 tyX1_ok nmX1 hK hP (d1 hq) hS 1 rfl 0 (by decide) (by decide +kernel) rfl (by decide +kernel) rfl (Nat.le_of_ble_eq_true rfl) dX1_coins_2 (fun H locs hP hS => ?_)
  have hP : va_P D vwCl (w1 ci cz q (nI 0) F P g he hn) H := hP
  refine lv_aload_n hx hb dX1_coins_5 rfl (lv_at hl 0 rfl) ?_
  refine lv_iload_n hx hb dX1_coins_6 rfl (lv_at hl 1 rfl) ?_
  refine r_callR (rest := []) Fx (m_X1_isPerson l (D := D) (ci := ci) (cz := cz) (cj := cj) (q := q) (F := F) (P := P) (g := g) (th := nI 0) (he := he) (hn := hn) hF hP12 a ) (cwV 1 Fx.2.2.2.2 gX1_coins_X1_isPerson rfl rfl rfl (by decide +kernel) ⟨Nat.le_of_ble_eq_true rfl, Nat.le_of_ble_eq_true rfl⟩) BW.bl (va_recv hK hP (ci := 1) (q0 := 0) rfl rfl) (BW.at hP hK hE hS) rfl hl.1 rfl (Nat.le_of_ble_eq_true rfl) dX1_coins_7 ⟨Nat.zero_le _, Nat.zero_le _⟩ ?_
  refine b_if_eq (tgt := 22) hx hb dX1_coins_10 (by decide) (fun h1 => ?_) (fun h1 => ?_)
  · have h1 := of_decide_eq_false h1
    refine lv_aload_n hx hb dX1_coins_22 rfl (lv_at hl 0 rfl) ?_
    refine lv_iconst (v := nI 1) hx hb dX1_coins_23 (by decide) ?_
    refine r_callW (rest := []) Fx (m_X1_no l (D := D) (ci := ci) (cz := cz) (cj := cj) (q := q) (F := F) (P := P) (g := g) (th := nI 0) (he := he) (hn := hn) hq hF hP12 (nI 1) ) (cwV 1 Fx.2.2.2.2 gX1_coins_X1_no rfl rfl rfl (by decide +kernel) ⟨Nat.le_of_ble_eq_true rfl, Nat.le_of_ble_eq_true rfl⟩) BW.bl (va_recv hK hP (ci := 1) (q0 := 0) rfl rfl) (BW.at hP hK hE hS) rfl hl.1 rfl (Nat.le_of_ble_eq_true rfl) dX1_coins_24 ⟨Nat.zero_le _, Nat.zero_le _⟩ hS (fun _ h => h) (fun H locs hP hS _ _ => ?_)
    have hP : va_P D vwCl (w1 ci cz q (nI 1) F P g he hn) H := hP
    exact w_iret hx hb hr hlocks hS (⟨_, _, w1_k 1 (by simp [k_1, lv, inR, inB, Int32.not_lt, Int32.not_le, h1]) hP⟩) (rz_n 0 (by simp [k_1, lv, inR, inB, Int32.not_lt, Int32.not_le, h1])) dX1_coins_27
  · have h1 := of_decide_eq_true h1
    obtain ⟨ja, h2, rfl⟩ := inR_of h1 (by omega)
    have h3 : ix (nI ja) = ja := ix_nI (by omega)
    refine lv_aload_n hx hb dX1_coins_13 rfl (lv_at hl 0 rfl) ?_
    refine r_get Fx hin hK hP 1 rfl 6 (by decide) (by decide +kernel) rfl rfl dX1_coins_14 ?_
    refine lv_iload_n hx hb dX1_coins_17 rfl (lv_at hl 1 rfl) ?_
    refine r_iald Fx hK hP 5 0 rfl rfl (i := ja) (by omega) (by decide) dX1_coins_18 ?_
    refine lv_goto (tgt := 27) hx hb dX1_coins_19 (by decide) ?_
    exact w_iret hx hb hr hlocks hS (⟨_, _, w1_k 0 (by simp [k_1, lv, inR, inB, Int32.not_lt, Int32.not_le, h1, h2, h3]) hP⟩) (rz_0 (by simp [k_1, lv, inR, inB, Int32.not_lt, Int32.not_le, h1, h2, h3]) (by simp [k_1, lv, h1, h2, h3])) dX1_coins_27
set_option maxHeartbeats 4000000 in
set_option maxRecDepth 100000 in
theorem m_X1_earned (l : Launch) {D : va_G} {ci cz cj : ClassId} {q : Nat → Nat} {F P : Nat} {g : Nat → Nat → Int32} {th : Int32} {he : Nat → Int32} {hn : Nat} (hq : DQ q 9) (hF : F ≤ 6) (hP12 : P ≤ 12) (a : Int32) (ha0 : Iv F P g) : Met l yX1_earned wsX1_earned ({ frames := 2, cells := 0, slots := 0, locals := 43 } : Room) (va_Pc [.ref (q 0), .int a] (B1 D ci cz cj q th F P g he hn)) (WQ (some (.int (rz (k_1 P a) (g 5 (ix a))))) (fun H => ∃ (he : Nat → Int32) (hn : Nat), va_P D vwCl (w1 ci cz q (nI (k_1 P a)) F P g he hn) H) (aw q 9)) 0 0 (aw q 9) := by
  refine Met.ofWr (cc := cX1_earned) (maxL := 2) (ret := (some .int)) (by decide) rfl (Nat.le_of_ble_eq_true rfl) ?_
  intro pg en s m bl mt cd ls Fx hr hlocks hB hl
  obtain ⟨hP, hK, hE⟩ := hB
  have hl : lv_has ls 2 [(0, .ref (q 0)), (1, .int a)] := hl
  have Fx : CallFix pg m cd cX1_earned 2 s _ wsX1_earned RX1 := Fx
  have hx := Fx.1
  have hb := Fx.2.1
  have hin : ∀ w ∈ wsX10, w ∈ wsX1_earned := by decide +kernel
  have hS : va_S (aw q 9) s.heap s.heap [] := va_S.rf
  have hP : va_P D vwCl (w1 ci cz q th F P g he hn) s.heap := hP
  refine lv_aload_n hx hb dX1_earned_0 rfl (lv_at hl 0 rfl) ?_
  refine lv_iconst (v := nI 0) hx hb dX1_earned_1 (by decide) ?_
  refine r_put Fx hin tyX1 tyX1_ok nmX1 hK hP (d1 hq) hS 1 rfl 0 (by decide) (by decide +kernel) rfl (by decide +kernel) rfl (Nat.le_of_ble_eq_true rfl) dX1_earned_2 (fun H locs hP hS => ?_)
  have hP : va_P D vwCl (w1 ci cz q (nI 0) F P g he hn) H := hP
  refine lv_aload_n hx hb dX1_earned_5 rfl (lv_at hl 0 rfl) ?_
  refine lv_iload_n hx hb dX1_earned_6 rfl (lv_at hl 1 rfl) ?_
  refine r_callR (rest := []) Fx (m_X1_isPerson l (D := D) (ci := ci) (cz := cz) (cj := cj) (q := q) (F := F) (P := P) (g := g) (th := nI 0) (he := he) (hn := hn) hF hP12 a ) (cwV 1 Fx.2.2.2.2 gX1_earned_X1_isPerson rfl rfl rfl (by decide +kernel) ⟨Nat.le_of_ble_eq_true rfl, Nat.le_of_ble_eq_true rfl⟩) BW.bl (va_recv hK hP (ci := 1) (q0 := 0) rfl rfl) (BW.at hP hK hE hS) rfl hl.1 rfl (Nat.le_of_ble_eq_true rfl) dX1_earned_7 ⟨Nat.zero_le _, Nat.zero_le _⟩ ?_
  refine b_if_eq (tgt := 22) hx hb dX1_earned_10 (by decide) (fun h1 => ?_) (fun h1 => ?_)
  · have h1 := of_decide_eq_false h1
    refine lv_aload_n hx hb dX1_earned_22 rfl (lv_at hl 0 rfl) ?_
    refine lv_iconst (v := nI 1) hx hb dX1_earned_23 (by decide) ?_
    refine r_callW (rest := []) Fx (m_X1_no l (D := D) (ci := ci) (cz := cz) (cj := cj) (q := q) (F := F) (P := P) (g := g) (th := nI 0) (he := he) (hn := hn) hq hF hP12 (nI 1) ) (cwV 1 Fx.2.2.2.2 gX1_earned_X1_no rfl rfl rfl (by decide +kernel) ⟨Nat.le_of_ble_eq_true rfl, Nat.le_of_ble_eq_true rfl⟩) BW.bl (va_recv hK hP (ci := 1) (q0 := 0) rfl rfl) (BW.at hP hK hE hS) rfl hl.1 rfl (Nat.le_of_ble_eq_true rfl) dX1_earned_24 ⟨Nat.zero_le _, Nat.zero_le _⟩ hS (fun _ h => h) (fun H locs hP hS _ _ => ?_)
    have hP : va_P D vwCl (w1 ci cz q (nI 1) F P g he hn) H := hP
    exact w_iret hx hb hr hlocks hS (⟨_, _, w1_k 1 (by simp [k_1, lv, inR, inB, Int32.not_lt, Int32.not_le, h1]) hP⟩) (rz_n 0 (by simp [k_1, lv, inR, inB, Int32.not_lt, Int32.not_le, h1])) dX1_earned_27
  · have h1 := of_decide_eq_true h1
    obtain ⟨ja, h2, rfl⟩ := inR_of h1 (by omega)
    have h3 : ix (nI ja) = ja := ix_nI (by omega)
    refine lv_aload_n hx hb dX1_earned_13 rfl (lv_at hl 0 rfl) ?_
    refine r_get Fx hin hK hP 1 rfl 7 (by decide) (by decide +kernel) rfl rfl dX1_earned_14 ?_
    refine lv_iload_n hx hb dX1_earned_17 rfl (lv_at hl 1 rfl) ?_
    refine r_iald Fx hK hP 6 0 rfl rfl (i := ja) (by omega) (by decide) dX1_earned_18 ?_
    refine lv_goto (tgt := 27) hx hb dX1_earned_19 (by decide) ?_
    exact w_iret hx hb hr hlocks hS (⟨_, _, w1_k 0 (by simp [k_1, lv, inR, inB, Int32.not_lt, Int32.not_le, h1, h2, h3]) hP⟩) (rz_0 (by simp [k_1, lv, inR, inB, Int32.not_lt, Int32.not_le, h1, h2, h3]) (by simp [k_1, lv, h1, h2, h3])) dX1_earned_27
set_option maxHeartbeats 4000000 in
set_option maxRecDepth 100000 in
theorem m_X1_allShares (l : Launch) {D : va_G} {ci cz cj : ClassId} {q : Nat → Nat} {F P : Nat} {g : Nat → Nat → Int32} {th : Int32} {he : Nat → Int32} {hn : Nat} (hq : DQ q 9) (hF : F ≤ 6) (hP12 : P ≤ 12) (a : Int32) (ha0 : Iv F P g) : Met l yX1_allShares wsX1_allShares ({ frames := 3, cells := 0, slots := 0, locals := 69 } : Room) (va_Pc [.ref (q 0), .int a] (B1 D ci cz cj q th F P g he hn)) (WQ (some (.int (rz (k_1 P a) (sAll g F (ix a))))) (fun H => ∃ (he : Nat → Int32) (hn : Nat), va_P D vwCl (w1 ci cz q (nI (k_1 P a)) F P g he hn) H) (aw q 9)) 0 0 (aw q 9) := by
  refine Met.ofWr (cc := cX1_allShares) (maxL := 2) (ret := (some .int)) (by decide) rfl (Nat.le_of_ble_eq_true rfl) ?_
  intro pg en s m bl mt cd ls Fx hr hlocks hB hl
  obtain ⟨hP, hK, hE⟩ := hB
  have hl : lv_has ls 2 [(0, .ref (q 0)), (1, .int a)] := hl
  have Fx : CallFix pg m cd cX1_allShares 2 s _ wsX1_allShares RX1 := Fx
  have hx := Fx.1
  have hb := Fx.2.1
  have hin : ∀ w ∈ wsX10, w ∈ wsX1_allShares := by decide +kernel
  have hS : va_S (aw q 9) s.heap s.heap [] := va_S.rf
  have hP : va_P D vwCl (w1 ci cz q th F P g he hn) s.heap := hP
  refine lv_aload_n hx hb dX1_allShares_0 rfl (lv_at hl 0 rfl) ?_
  refine lv_iconst (v := nI 0) hx hb dX1_allShares_1 (by decide) ?_
  refine r_put Fx hin tyX1 tyX1_ok nmX1 hK hP (d1 hq) hS 1 rfl 0 (by decide) (by decide +kernel) rfl (by decide +kernel) rfl (Nat.le_of_ble_eq_true rfl) dX1_allShares_2 (fun H locs hP hS => ?_)
  have hP : va_P D vwCl (w1 ci cz q (nI 0) F P g he hn) H := hP
  refine lv_aload_n hx hb dX1_allShares_5 rfl (lv_at hl 0 rfl) ?_
  refine lv_iload_n hx hb dX1_allShares_6 rfl (lv_at hl 1 rfl) ?_
  refine r_callR (rest := []) Fx (m_X1_isPerson l (D := D) (ci := ci) (cz := cz) (cj := cj) (q := q) (F := F) (P := P) (g := g) (th := nI 0) (he := he) (hn := hn) hF hP12 a ) (cwV 1 Fx.2.2.2.2 gX1_allShares_X1_isPerson rfl rfl rfl (by decide +kernel) ⟨Nat.le_of_ble_eq_true rfl, Nat.le_of_ble_eq_true rfl⟩) BW.bl (va_recv hK hP (ci := 1) (q0 := 0) rfl rfl) (BW.at hP hK hE hS) rfl hl.1 rfl (Nat.le_of_ble_eq_true rfl) dX1_allShares_7 ⟨Nat.zero_le _, Nat.zero_le _⟩ ?_
  refine b_if_eq (tgt := 21) hx hb dX1_allShares_10 (by decide) (fun h1 => ?_) (fun h1 => ?_)
  · have h1 := of_decide_eq_false h1
    refine lv_aload_n hx hb dX1_allShares_21 rfl (lv_at hl 0 rfl) ?_
    refine lv_iconst (v := nI 1) hx hb dX1_allShares_22 (by decide) ?_
    refine r_callW (rest := []) Fx (m_X1_no l (D := D) (ci := ci) (cz := cz) (cj := cj) (q := q) (F := F) (P := P) (g := g) (th := nI 0) (he := he) (hn := hn) hq hF hP12 (nI 1) ) (cwV 1 Fx.2.2.2.2 gX1_allShares_X1_no rfl rfl rfl (by decide +kernel) ⟨Nat.le_of_ble_eq_true rfl, Nat.le_of_ble_eq_true rfl⟩) BW.bl (va_recv hK hP (ci := 1) (q0 := 0) rfl rfl) (BW.at hP hK hE hS) rfl hl.1 rfl (Nat.le_of_ble_eq_true rfl) dX1_allShares_23 ⟨Nat.zero_le _, Nat.zero_le _⟩ hS (fun _ h => h) (fun H locs hP hS _ _ => ?_)
    have hP : va_P D vwCl (w1 ci cz q (nI 1) F P g he hn) H := hP
    exact w_iret hx hb hr hlocks hS (⟨_, _, w1_k 1 (by simp [k_1, lv, inR, inB, Int32.not_lt, Int32.not_le, h1]) hP⟩) (rz_n 0 (by simp [k_1, lv, inR, inB, Int32.not_lt, Int32.not_le, h1])) dX1_allShares_26
  · have h1 := of_decide_eq_true h1
    obtain ⟨ja, h2, rfl⟩ := inR_of h1 (by omega)
    have h3 : ix (nI ja) = ja := ix_nI (by omega)
    refine lv_aload_n hx hb dX1_allShares_13 rfl (lv_at hl 0 rfl) ?_
    refine lv_iload_n hx hb dX1_allShares_14 rfl (lv_at hl 1 rfl) ?_
    refine r_callR (rest := []) Fx (m_X1_allOf l (D := D) (ci := ci) (cz := cz) (cj := cj) (q := q) (F := F) (P := P) (g := g) (th := nI 0) (he := he) (hn := hn) hF hP12 ja (by omega)) (cwV 1 Fx.2.2.2.2 gX1_allShares_X1_allOf rfl rfl rfl (by decide +kernel) ⟨Nat.le_of_ble_eq_true rfl, Nat.le_of_ble_eq_true rfl⟩) BW.bl (va_recv hK hP (ci := 1) (q0 := 0) rfl rfl) (BW.at hP hK hE hS) rfl hl.1 rfl (Nat.le_of_ble_eq_true rfl) dX1_allShares_15 ⟨Nat.zero_le _, Nat.zero_le _⟩ ?_
    refine lv_goto (tgt := 26) hx hb dX1_allShares_18 (by decide) ?_
    exact w_iret hx hb hr hlocks hS (⟨_, _, w1_k 0 (by simp [k_1, lv, inR, inB, Int32.not_lt, Int32.not_le, h1, h2, h3]) hP⟩) (rz_0 (by simp [k_1, lv, inR, inB, Int32.not_lt, Int32.not_le, h1, h2, h3]) (by simp [k_1, lv, h1, h2, h3])) dX1_allShares_26
set_option maxHeartbeats 4000000 in
set_option maxRecDepth 100000 in
theorem m_X1_hasParent (l : Launch) {D : va_G} {ci cz cj : ClassId} {q : Nat → Nat} {F P : Nat} {g : Nat → Nat → Int32} {th : Int32} {he : Nat → Int32} {hn : Nat} (hq : DQ q 9) (hF : F ≤ 6) (hP12 : P ≤ 12) (a : Int32) (ha0 : Iv F P g) : Met l yX1_hasParent wsX1_hasParent ({ frames := 2, cells := 0, slots := 0, locals := 43 } : Room) (va_Pc [.ref (q 0), .int a] (B1 D ci cz cj q th F P g he hn)) (WQ (some (.int (bI (rb (k_1 P a) (decide (g 6 (ix a) ≠ -1)))))) (fun H => ∃ (he : Nat → Int32) (hn : Nat), va_P D vwCl (w1 ci cz q (nI (k_1 P a)) F P g he hn) H) (aw q 9)) 0 0 (aw q 9) := by
  refine Met.ofWr (cc := cX1_hasParent) (maxL := 2) (ret := (some .boolean)) (by decide) rfl (Nat.le_of_ble_eq_true rfl) ?_
  intro pg en s m bl mt cd ls Fx hr hlocks hB hl
  obtain ⟨hP, hK, hE⟩ := hB
  have hl : lv_has ls 2 [(0, .ref (q 0)), (1, .int a)] := hl
  have Fx : CallFix pg m cd cX1_hasParent 2 s _ wsX1_hasParent RX1 := Fx
  have hx := Fx.1
  have hb := Fx.2.1
  have hin : ∀ w ∈ wsX10, w ∈ wsX1_hasParent := by decide +kernel
  have hS : va_S (aw q 9) s.heap s.heap [] := va_S.rf
  have hP : va_P D vwCl (w1 ci cz q th F P g he hn) s.heap := hP
  refine lv_aload_n hx hb dX1_hasParent_0 rfl (lv_at hl 0 rfl) ?_
  refine lv_iconst (v := nI 0) hx hb dX1_hasParent_1 (by decide) ?_
  refine r_put Fx hin tyX1 tyX1_ok nmX1 hK hP (d1 hq) hS 1 rfl 0 (by decide) (by decide +kernel) rfl (by decide +kernel) rfl (Nat.le_of_ble_eq_true rfl) dX1_hasParent_2 (fun H locs hP hS => ?_)
  have hP : va_P D vwCl (w1 ci cz q (nI 0) F P g he hn) H := hP
  refine lv_aload_n hx hb dX1_hasParent_5 rfl (lv_at hl 0 rfl) ?_
  refine lv_iload_n hx hb dX1_hasParent_6 rfl (lv_at hl 1 rfl) ?_
  refine r_callR (rest := []) Fx (m_X1_isPerson l (D := D) (ci := ci) (cz := cz) (cj := cj) (q := q) (F := F) (P := P) (g := g) (th := nI 0) (he := he) (hn := hn) hF hP12 a ) (cwV 1 Fx.2.2.2.2 gX1_hasParent_X1_isPerson rfl rfl rfl (by decide +kernel) ⟨Nat.le_of_ble_eq_true rfl, Nat.le_of_ble_eq_true rfl⟩) BW.bl (va_recv hK hP (ci := 1) (q0 := 0) rfl rfl) (BW.at hP hK hE hS) rfl hl.1 rfl (Nat.le_of_ble_eq_true rfl) dX1_hasParent_7 ⟨Nat.zero_le _, Nat.zero_le _⟩ ?_
  refine b_if_eq (tgt := 31) hx hb dX1_hasParent_10 (by decide) (fun h1 => ?_) (fun h1 => ?_)
  · have h1 := of_decide_eq_false h1
    refine lv_aload_n hx hb dX1_hasParent_31 rfl (lv_at hl 0 rfl) ?_
    refine lv_iconst (v := nI 1) hx hb dX1_hasParent_32 (by decide) ?_
    refine r_callW (rest := []) Fx (m_X1_isNot l (D := D) (ci := ci) (cz := cz) (cj := cj) (q := q) (F := F) (P := P) (g := g) (th := nI 0) (he := he) (hn := hn) hq hF hP12 (nI 1) ) (cwV 1 Fx.2.2.2.2 gX1_hasParent_X1_isNot rfl rfl rfl (by decide +kernel) ⟨Nat.le_of_ble_eq_true rfl, Nat.le_of_ble_eq_true rfl⟩) BW.bl (va_recv hK hP (ci := 1) (q0 := 0) rfl rfl) (BW.at hP hK hE hS) rfl hl.1 rfl (Nat.le_of_ble_eq_true rfl) dX1_hasParent_33 ⟨Nat.zero_le _, Nat.zero_le _⟩ hS (fun _ h => h) (fun H locs hP hS _ _ => ?_)
    have hP : va_P D vwCl (w1 ci cz q (nI 1) F P g he hn) H := hP
    exact w_zret hx hb hr hlocks hS (⟨_, _, w1_k 1 (by simp [k_1, lv, inR, inB, Int32.not_lt, Int32.not_le, h1]) hP⟩) (rb_n 0 (by simp [k_1, lv, inR, inB, Int32.not_lt, Int32.not_le, h1])) dX1_hasParent_36
  · have h1 := of_decide_eq_true h1
    obtain ⟨ja, h2, rfl⟩ := inR_of h1 (by omega)
    have h3 : ix (nI ja) = ja := ix_nI (by omega)
    refine lv_aload_n hx hb dX1_hasParent_13 rfl (lv_at hl 0 rfl) ?_
    refine r_get Fx hin hK hP 1 rfl 8 (by decide) (by decide +kernel) rfl rfl dX1_hasParent_14 ?_
    refine lv_iload_n hx hb dX1_hasParent_17 rfl (lv_at hl 1 rfl) ?_
    refine r_iald Fx hK hP 7 0 rfl rfl (i := ja) (by omega) (by decide) dX1_hasParent_18 ?_
    refine lv_iconst (v := -1) hx hb dX1_hasParent_19 (by decide) ?_
    refine lv_icmp_eq (tgt := 27) hx hb dX1_hasParent_20 (by decide) (fun h4 => ?_) (fun h4 => ?_)
    · refine lv_iconst (v := nI 0) hx hb dX1_hasParent_27 (by decide) ?_
      refine lv_goto (tgt := 36) hx hb dX1_hasParent_28 (by decide) ?_
      exact w_zret hx hb hr hlocks hS (⟨_, _, w1_k 0 (by simp [k_1, lv, inR, inB, Int32.not_lt, Int32.not_le, h1, h2, h3, h4]) hP⟩) (rb_0 (by simp [k_1, lv, inR, inB, Int32.not_lt, Int32.not_le, h1, h2, h3, h4]) (by simp [k_1, bI, lv, h1, h2, h3, h4])) dX1_hasParent_36
    · refine lv_iconst (v := nI 1) hx hb dX1_hasParent_23 (by decide) ?_
      refine lv_goto (tgt := 36) hx hb dX1_hasParent_24 (by decide) ?_
      exact w_zret hx hb hr hlocks hS (⟨_, _, w1_k 0 (by simp [k_1, lv, inR, inB, Int32.not_lt, Int32.not_le, h1, h2, h3, h4]) hP⟩) (rb_0 (by simp [k_1, lv, inR, inB, Int32.not_lt, Int32.not_le, h1, h2, h3, h4]) (by simp [k_1, bI, lv, h1, h2, h3, h4])) dX1_hasParent_36
set_option maxHeartbeats 4000000 in
set_option maxRecDepth 100000 in
theorem m_X1_parent (l : Launch) {D : va_G} {ci cz cj : ClassId} {q : Nat → Nat} {F P : Nat} {g : Nat → Nat → Int32} {th : Int32} {he : Nat → Int32} {hn : Nat} (hq : DQ q 9) (hF : F ≤ 6) (hP12 : P ≤ 12) (a : Int32) (ha0 : Iv F P g) : Met l yX1_parent wsX1_parent ({ frames := 2, cells := 0, slots := 0, locals := 43 } : Room) (va_Pc [.ref (q 0), .int a] (B1 D ci cz cj q th F P g he hn)) (WQ (some (.int (rz (k_parent P g a) (g 6 (ix a))))) (fun H => ∃ (he : Nat → Int32) (hn : Nat), va_P D vwCl (w1 ci cz q (nI (k_parent P g a)) F P g he hn) H) (aw q 9)) 0 0 (aw q 9) := by
  refine Met.ofWr (cc := cX1_parent) (maxL := 2) (ret := (some .int)) (by decide) rfl (Nat.le_of_ble_eq_true rfl) ?_
  intro pg en s m bl mt cd ls Fx hr hlocks hB hl
  obtain ⟨hP, hK, hE⟩ := hB
  have hl : lv_has ls 2 [(0, .ref (q 0)), (1, .int a)] := hl
  have Fx : CallFix pg m cd cX1_parent 2 s _ wsX1_parent RX1 := Fx
  have hx := Fx.1
  have hb := Fx.2.1
  have hin : ∀ w ∈ wsX10, w ∈ wsX1_parent := by decide +kernel
  have hS : va_S (aw q 9) s.heap s.heap [] := va_S.rf
  have hP : va_P D vwCl (w1 ci cz q th F P g he hn) s.heap := hP
  refine lv_aload_n hx hb dX1_parent_0 rfl (lv_at hl 0 rfl) ?_
  refine lv_iconst (v := nI 0) hx hb dX1_parent_1 (by decide) ?_
  refine r_put Fx hin tyX1 tyX1_ok nmX1 hK hP (d1 hq) hS 1 rfl 0 (by decide) (by decide +kernel) rfl (by decide +kernel) rfl (Nat.le_of_ble_eq_true rfl) dX1_parent_2 (fun H locs hP hS => ?_)
  have hP : va_P D vwCl (w1 ci cz q (nI 0) F P g he hn) H := hP
  refine lv_aload_n hx hb dX1_parent_5 rfl (lv_at hl 0 rfl) ?_
  refine lv_iload_n hx hb dX1_parent_6 rfl (lv_at hl 1 rfl) ?_
  refine r_callR (rest := []) Fx (m_X1_isPerson l (D := D) (ci := ci) (cz := cz) (cj := cj) (q := q) (F := F) (P := P) (g := g) (th := nI 0) (he := he) (hn := hn) hF hP12 a ) (cwV 1 Fx.2.2.2.2 gX1_parent_X1_isPerson rfl rfl rfl (by decide +kernel) ⟨Nat.le_of_ble_eq_true rfl, Nat.le_of_ble_eq_true rfl⟩) BW.bl (va_recv hK hP (ci := 1) (q0 := 0) rfl rfl) (BW.at hP hK hE hS) rfl hl.1 rfl (Nat.le_of_ble_eq_true rfl) dX1_parent_7 ⟨Nat.zero_le _, Nat.zero_le _⟩ ?_
  refine b_if_ne (tgt := 19) hx hb dX1_parent_10 (by decide) (fun h1 => ?_) (fun h1 => ?_)
  · have h1 := of_decide_eq_true h1
    obtain ⟨ja, h2, rfl⟩ := inR_of h1 (by omega)
    have h3 : ix (nI ja) = ja := ix_nI (by omega)
    refine lv_aload_n hx hb dX1_parent_19 rfl (lv_at hl 0 rfl) ?_
    refine r_get Fx hin hK hP 1 rfl 8 (by decide) (by decide +kernel) rfl rfl dX1_parent_20 ?_
    refine lv_iload_n hx hb dX1_parent_23 rfl (lv_at hl 1 rfl) ?_
    refine r_iald Fx hK hP 7 0 rfl rfl (i := ja) (by omega) (by decide) dX1_parent_24 ?_
    refine lv_iconst (v := -1) hx hb dX1_parent_25 (by decide) ?_
    refine lv_icmp_ne (tgt := 37) hx hb dX1_parent_26 (by decide) (fun h4 => ?_) (fun h4 => ?_)
    · refine lv_aload_n hx hb dX1_parent_37 rfl (lv_at hl 0 rfl) ?_
      refine r_get Fx hin hK hP 1 rfl 8 (by decide) (by decide +kernel) rfl rfl dX1_parent_38 ?_
      refine lv_iload_n hx hb dX1_parent_41 rfl (lv_at hl 1 rfl) ?_
      refine r_iald Fx hK hP 7 0 rfl rfl (i := ja) (by omega) (by decide) dX1_parent_42 ?_
      exact w_iret hx hb hr hlocks hS (⟨_, _, w1_k 0 (by simp [k_parent, lv, inR, inB, Int32.not_lt, Int32.not_le, h1, h2, h3, h4]) hP⟩) (rz_0 (by simp [k_parent, lv, inR, inB, Int32.not_lt, Int32.not_le, h1, h2, h3, h4]) (by simp [k_parent, lv, h1, h2, h3, h4])) dX1_parent_43
    · refine lv_aload_n hx hb dX1_parent_29 rfl (lv_at hl 0 rfl) ?_
      refine lv_iconst (v := nI 2) hx hb dX1_parent_30 (by decide) ?_
      refine r_callW (rest := []) Fx (m_X1_no l (D := D) (ci := ci) (cz := cz) (cj := cj) (q := q) (F := F) (P := P) (g := g) (th := nI 0) (he := he) (hn := hn) hq hF hP12 (nI 2) ) (cwV 1 Fx.2.2.2.2 gX1_parent_X1_no rfl rfl rfl (by decide +kernel) ⟨Nat.le_of_ble_eq_true rfl, Nat.le_of_ble_eq_true rfl⟩) BW.bl (va_recv hK hP (ci := 1) (q0 := 0) rfl rfl) (BW.at hP hK hE hS) rfl hl.1 rfl (Nat.le_of_ble_eq_true rfl) dX1_parent_31 ⟨Nat.zero_le _, Nat.zero_le _⟩ hS (fun _ h => h) (fun H locs hP hS _ _ => ?_)
      have hP : va_P D vwCl (w1 ci cz q (nI 2) F P g he hn) H := hP
      refine lv_goto (tgt := 43) hx hb dX1_parent_34 (by decide) ?_
      exact w_iret hx hb hr hlocks hS (⟨_, _, w1_k 2 (by simp [k_parent, lv, inR, inB, Int32.not_lt, Int32.not_le, h1, h2, h3, h4]) hP⟩) (rz_n 1 (by simp [k_parent, lv, inR, inB, Int32.not_lt, Int32.not_le, h1, h2, h3, h4])) dX1_parent_43
  · have h1 := of_decide_eq_false h1
    refine lv_aload_n hx hb dX1_parent_13 rfl (lv_at hl 0 rfl) ?_
    refine lv_iconst (v := nI 1) hx hb dX1_parent_14 (by decide) ?_
    refine r_callW (rest := []) Fx (m_X1_no l (D := D) (ci := ci) (cz := cz) (cj := cj) (q := q) (F := F) (P := P) (g := g) (th := nI 0) (he := he) (hn := hn) hq hF hP12 (nI 1) ) (cwV 1 Fx.2.2.2.2 gX1_parent_X1_no rfl rfl rfl (by decide +kernel) ⟨Nat.le_of_ble_eq_true rfl, Nat.le_of_ble_eq_true rfl⟩) BW.bl (va_recv hK hP (ci := 1) (q0 := 0) rfl rfl) (BW.at hP hK hE hS) rfl hl.1 rfl (Nat.le_of_ble_eq_true rfl) dX1_parent_15 ⟨Nat.zero_le _, Nat.zero_le _⟩ hS (fun _ h => h) (fun H locs hP hS _ _ => ?_)
    have hP : va_P D vwCl (w1 ci cz q (nI 1) F P g he hn) H := hP
    exact w_iret hx hb hr hlocks hS (⟨_, _, w1_k 1 (by simp [k_parent, lv, inR, inB, Int32.not_lt, Int32.not_le, h1]) hP⟩) (rz_n 0 (by simp [k_parent, lv, inR, inB, Int32.not_lt, Int32.not_le, h1])) dX1_parent_18
set_option maxHeartbeats 4000000 in
set_option maxRecDepth 100000 in
theorem m_X1_children (l : Launch) {D : va_G} {ci cz cj : ClassId} {q : Nat → Nat} {F P : Nat} {g : Nat → Nat → Int32} {th : Int32} {he : Nat → Int32} {hn : Nat} (hq : DQ q 9) (hF : F ≤ 6) (hP12 : P ≤ 12) (a : Int32) (ha0 : Iv F P g) : Met l yX1_children wsX1_children ({ frames := 2, cells := 0, slots := 0, locals := 43 } : Room) (va_Pc [.ref (q 0), .int a] (B1 D ci cz cj q th F P g he hn)) (WQ (some (.int (rz (k_1 P a) (nI (sChi g P (ix a)))))) (fun H => ∃ (he : Nat → Int32) (hn : Nat), va_P D vwCl (w1 ci cz q (nI (k_1 P a)) F P g he hn) H) (aw q 9)) 0 0 (aw q 9) := by
  refine Met.ofWr (cc := cX1_children) (maxL := 2) (ret := (some .int)) (by decide) rfl (Nat.le_of_ble_eq_true rfl) ?_
  intro pg en s m bl mt cd ls Fx hr hlocks hB hl
  obtain ⟨hP, hK, hE⟩ := hB
  have hl : lv_has ls 2 [(0, .ref (q 0)), (1, .int a)] := hl
  have Fx : CallFix pg m cd cX1_children 2 s _ wsX1_children RX1 := Fx
  have hx := Fx.1
  have hb := Fx.2.1
  have hin : ∀ w ∈ wsX10, w ∈ wsX1_children := by decide +kernel
  have hS : va_S (aw q 9) s.heap s.heap [] := va_S.rf
  have hP : va_P D vwCl (w1 ci cz q th F P g he hn) s.heap := hP
  refine lv_aload_n hx hb dX1_children_0 rfl (lv_at hl 0 rfl) ?_
  refine lv_iconst (v := nI 0) hx hb dX1_children_1 (by decide) ?_
  refine r_put Fx hin tyX1 tyX1_ok nmX1 hK hP (d1 hq) hS 1 rfl 0 (by decide) (by decide +kernel) rfl (by decide +kernel) rfl (Nat.le_of_ble_eq_true rfl) dX1_children_2 (fun H locs hP hS => ?_)
  have hP : va_P D vwCl (w1 ci cz q (nI 0) F P g he hn) H := hP
  refine lv_aload_n hx hb dX1_children_5 rfl (lv_at hl 0 rfl) ?_
  refine lv_iload_n hx hb dX1_children_6 rfl (lv_at hl 1 rfl) ?_
  refine r_callR (rest := []) Fx (m_X1_isPerson l (D := D) (ci := ci) (cz := cz) (cj := cj) (q := q) (F := F) (P := P) (g := g) (th := nI 0) (he := he) (hn := hn) hF hP12 a ) (cwV 1 Fx.2.2.2.2 gX1_children_X1_isPerson rfl rfl rfl (by decide +kernel) ⟨Nat.le_of_ble_eq_true rfl, Nat.le_of_ble_eq_true rfl⟩) BW.bl (va_recv hK hP (ci := 1) (q0 := 0) rfl rfl) (BW.at hP hK hE hS) rfl hl.1 rfl (Nat.le_of_ble_eq_true rfl) dX1_children_7 ⟨Nat.zero_le _, Nat.zero_le _⟩ ?_
  refine b_if_eq (tgt := 21) hx hb dX1_children_10 (by decide) (fun h1 => ?_) (fun h1 => ?_)
  · have h1 := of_decide_eq_false h1
    refine lv_aload_n hx hb dX1_children_21 rfl (lv_at hl 0 rfl) ?_
    refine lv_iconst (v := nI 1) hx hb dX1_children_22 (by decide) ?_
    refine r_callW (rest := []) Fx (m_X1_no l (D := D) (ci := ci) (cz := cz) (cj := cj) (q := q) (F := F) (P := P) (g := g) (th := nI 0) (he := he) (hn := hn) hq hF hP12 (nI 1) ) (cwV 1 Fx.2.2.2.2 gX1_children_X1_no rfl rfl rfl (by decide +kernel) ⟨Nat.le_of_ble_eq_true rfl, Nat.le_of_ble_eq_true rfl⟩) BW.bl (va_recv hK hP (ci := 1) (q0 := 0) rfl rfl) (BW.at hP hK hE hS) rfl hl.1 rfl (Nat.le_of_ble_eq_true rfl) dX1_children_23 ⟨Nat.zero_le _, Nat.zero_le _⟩ hS (fun _ h => h) (fun H locs hP hS _ _ => ?_)
    have hP : va_P D vwCl (w1 ci cz q (nI 1) F P g he hn) H := hP
    exact w_iret hx hb hr hlocks hS (⟨_, _, w1_k 1 (by simp [k_1, lv, inR, inB, Int32.not_lt, Int32.not_le, h1]) hP⟩) (rz_n 0 (by simp [k_1, lv, inR, inB, Int32.not_lt, Int32.not_le, h1])) dX1_children_26
  · have h1 := of_decide_eq_true h1
    obtain ⟨ja, h2, rfl⟩ := inR_of h1 (by omega)
    have h3 : ix (nI ja) = ja := ix_nI (by omega)
    refine lv_aload_n hx hb dX1_children_13 rfl (lv_at hl 0 rfl) ?_
    refine lv_iload_n hx hb dX1_children_14 rfl (lv_at hl 1 rfl) ?_
    refine r_callR (rest := []) Fx (m_X1_childrenOf l (D := D) (ci := ci) (cz := cz) (cj := cj) (q := q) (F := F) (P := P) (g := g) (th := nI 0) (he := he) (hn := hn) hF hP12 ja ) (cwV 1 Fx.2.2.2.2 gX1_children_X1_childrenOf rfl rfl rfl (by decide +kernel) ⟨Nat.le_of_ble_eq_true rfl, Nat.le_of_ble_eq_true rfl⟩) BW.bl (va_recv hK hP (ci := 1) (q0 := 0) rfl rfl) (BW.at hP hK hE hS) rfl hl.1 rfl (Nat.le_of_ble_eq_true rfl) dX1_children_15 ⟨Nat.zero_le _, Nat.zero_le _⟩ ?_
    refine lv_goto (tgt := 26) hx hb dX1_children_18 (by decide) ?_
    exact w_iret hx hb hr hlocks hS (⟨_, _, w1_k 0 (by simp [k_1, lv, inR, inB, Int32.not_lt, Int32.not_le, h1, h2, h3]) hP⟩) (rz_0 (by simp [k_1, lv, inR, inB, Int32.not_lt, Int32.not_le, h1, h2, h3]) (by simp [k_1, lv, h1, h2, h3])) dX1_children_26
set_option maxHeartbeats 4000000 in
set_option maxRecDepth 100000 in
theorem m_X1_price (l : Launch) {D : va_G} {ci cz cj : ClassId} {q : Nat → Nat} {F P : Nat} {g : Nat → Nat → Int32} {th : Int32} {he : Nat → Int32} {hn : Nat} (hq : DQ q 9) (hF : F ≤ 6) (hP12 : P ≤ 12) (a : Int32) (f : Int32) (w : Int32) (ha0 : Iv F P g) : Met l yX1_price wsX1_price ({ frames := 3, cells := 0, slots := 0, locals := 65 } : Room) (va_Pc [.ref (q 0), .int a, .int f, .int w] (B1 D ci cz cj q th F P g he hn)) (WQ (some (.int (rz (k_pfw F P a f w) (sPri g (ix f) (ix w) (ix a))))) (fun H => ∃ (he : Nat → Int32) (hn : Nat), va_P D vwCl (w1 ci cz q (nI (k_pfw F P a f w)) F P g he hn) H) (aw q 9)) 0 0 (aw q 9) := by
  refine Met.ofWr (cc := cX1_price) (maxL := 4) (ret := (some .int)) (by decide) rfl (Nat.le_of_ble_eq_true rfl) ?_
  intro pg en s m bl mt cd ls Fx hr hlocks hB hl
  obtain ⟨hP, hK, hE⟩ := hB
  have hl : lv_has ls 4 [(0, .ref (q 0)), (1, .int a), (2, .int f), (3, .int w)] := hl
  have Fx : CallFix pg m cd cX1_price 4 s _ wsX1_price RX1 := Fx
  have hx := Fx.1
  have hb := Fx.2.1
  have hin : ∀ w ∈ wsX10, w ∈ wsX1_price := by decide +kernel
  have hS : va_S (aw q 9) s.heap s.heap [] := va_S.rf
  have hP : va_P D vwCl (w1 ci cz q th F P g he hn) s.heap := hP
  refine lv_aload_n hx hb dX1_price_0 rfl (lv_at hl 0 rfl) ?_
  refine lv_iconst (v := nI 0) hx hb dX1_price_1 (by decide) ?_
  refine r_put Fx hin tyX1 tyX1_ok nmX1 hK hP (d1 hq) hS 1 rfl 0 (by decide) (by decide +kernel) rfl (by decide +kernel) rfl (Nat.le_of_ble_eq_true rfl) dX1_price_2 (fun H locs hP hS => ?_)
  have hP : va_P D vwCl (w1 ci cz q (nI 0) F P g he hn) H := hP
  refine lv_aload_n hx hb dX1_price_5 rfl (lv_at hl 0 rfl) ?_
  refine lv_iload_n hx hb dX1_price_6 rfl (lv_at hl 1 rfl) ?_
  refine r_callR (rest := []) Fx (m_X1_isPerson l (D := D) (ci := ci) (cz := cz) (cj := cj) (q := q) (F := F) (P := P) (g := g) (th := nI 0) (he := he) (hn := hn) hF hP12 a ) (cwV 1 Fx.2.2.2.2 gX1_price_X1_isPerson rfl rfl rfl (by decide +kernel) ⟨Nat.le_of_ble_eq_true rfl, Nat.le_of_ble_eq_true rfl⟩) BW.bl (va_recv hK hP (ci := 1) (q0 := 0) rfl rfl) (BW.at hP hK hE hS) rfl hl.1 rfl (Nat.le_of_ble_eq_true rfl) dX1_price_7 ⟨Nat.zero_le _, Nat.zero_le _⟩ ?_
  refine b_if_eq (tgt := 32) hx hb dX1_price_10 (by decide) (fun h1 => ?_) (fun h1 => ?_)
  · have h1 := of_decide_eq_false h1
    refine lv_aload_n hx hb dX1_price_32 rfl (lv_at hl 0 rfl) ?_
    refine lv_iconst (v := nI 1) hx hb dX1_price_33 (by decide) ?_
    refine r_callW (rest := []) Fx (m_X1_no l (D := D) (ci := ci) (cz := cz) (cj := cj) (q := q) (F := F) (P := P) (g := g) (th := nI 0) (he := he) (hn := hn) hq hF hP12 (nI 1) ) (cwV 1 Fx.2.2.2.2 gX1_price_X1_no rfl rfl rfl (by decide +kernel) ⟨Nat.le_of_ble_eq_true rfl, Nat.le_of_ble_eq_true rfl⟩) BW.bl (va_recv hK hP (ci := 1) (q0 := 0) rfl rfl) (BW.at hP hK hE hS) rfl hl.1 rfl (Nat.le_of_ble_eq_true rfl) dX1_price_34 ⟨Nat.zero_le _, Nat.zero_le _⟩ hS (fun _ h => h) (fun H locs hP hS _ _ => ?_)
    have hP : va_P D vwCl (w1 ci cz q (nI 1) F P g he hn) H := hP
    exact w_iret hx hb hr hlocks hS (⟨_, _, w1_k 1 (by simp [k_pfw, lv, inR, inB, Int32.not_lt, Int32.not_le, h1]) hP⟩) (rz_n 0 (by simp [k_pfw, lv, inR, inB, Int32.not_lt, Int32.not_le, h1])) dX1_price_37
  · have h1 := of_decide_eq_true h1
    obtain ⟨ja, h2, rfl⟩ := inR_of h1 (by omega)
    have h3 : ix (nI ja) = ja := ix_nI (by omega)
    refine lv_aload_n hx hb dX1_price_13 rfl (lv_at hl 0 rfl) ?_
    refine lv_iload_n hx hb dX1_price_14 rfl (lv_at hl 2 rfl) ?_
    refine lv_iload_n hx hb dX1_price_15 rfl (lv_at hl 3 rfl) ?_
    refine r_callR (rest := []) Fx (m_X1_isWatch l (D := D) (ci := ci) (cz := cz) (cj := cj) (q := q) (F := F) (P := P) (g := g) (th := nI 0) (he := he) (hn := hn) hF hP12 f w ) (cwV 2 Fx.2.2.2.2 gX1_price_X1_isWatch rfl rfl rfl (by decide +kernel) ⟨Nat.le_of_ble_eq_true rfl, Nat.le_of_ble_eq_true rfl⟩) BW.bl (va_recv hK hP (ci := 1) (q0 := 0) rfl rfl) (BW.at hP hK hE hS) rfl hl.1 rfl (Nat.le_of_ble_eq_true rfl) dX1_price_16 ⟨Nat.zero_le _, Nat.zero_le _⟩ ?_
    refine b_if_eq (tgt := 32) hx hb dX1_price_19 (by decide) (fun h4 => ?_) (fun h4 => ?_)
    · have h4 := of_decide_eq_false h4
      rcases Classical.not_and_iff_not_or_not.mp h4 with h4 | h4
      · refine lv_aload_n hx hb dX1_price_32 rfl (lv_at hl 0 rfl) ?_
        refine lv_iconst (v := nI 1) hx hb dX1_price_33 (by decide) ?_
        refine r_callW (rest := []) Fx (m_X1_no l (D := D) (ci := ci) (cz := cz) (cj := cj) (q := q) (F := F) (P := P) (g := g) (th := nI 0) (he := he) (hn := hn) hq hF hP12 (nI 1) ) (cwV 1 Fx.2.2.2.2 gX1_price_X1_no rfl rfl rfl (by decide +kernel) ⟨Nat.le_of_ble_eq_true rfl, Nat.le_of_ble_eq_true rfl⟩) BW.bl (va_recv hK hP (ci := 1) (q0 := 0) rfl rfl) (BW.at hP hK hE hS) rfl hl.1 rfl (Nat.le_of_ble_eq_true rfl) dX1_price_34 ⟨Nat.zero_le _, Nat.zero_le _⟩ hS (fun _ h => h) (fun H locs hP hS _ _ => ?_)
        have hP : va_P D vwCl (w1 ci cz q (nI 1) F P g he hn) H := hP
        exact w_iret hx hb hr hlocks hS (⟨_, _, w1_k 1 (by simp [k_pfw, lv, inR, inB, Int32.not_lt, Int32.not_le, h1, h2, h3, h4]) hP⟩) (rz_n 0 (by simp [k_pfw, lv, inR, inB, Int32.not_lt, Int32.not_le, h1, h2, h3, h4])) dX1_price_37
      · refine lv_aload_n hx hb dX1_price_32 rfl (lv_at hl 0 rfl) ?_
        refine lv_iconst (v := nI 1) hx hb dX1_price_33 (by decide) ?_
        refine r_callW (rest := []) Fx (m_X1_no l (D := D) (ci := ci) (cz := cz) (cj := cj) (q := q) (F := F) (P := P) (g := g) (th := nI 0) (he := he) (hn := hn) hq hF hP12 (nI 1) ) (cwV 1 Fx.2.2.2.2 gX1_price_X1_no rfl rfl rfl (by decide +kernel) ⟨Nat.le_of_ble_eq_true rfl, Nat.le_of_ble_eq_true rfl⟩) BW.bl (va_recv hK hP (ci := 1) (q0 := 0) rfl rfl) (BW.at hP hK hE hS) rfl hl.1 rfl (Nat.le_of_ble_eq_true rfl) dX1_price_34 ⟨Nat.zero_le _, Nat.zero_le _⟩ hS (fun _ h => h) (fun H locs hP hS _ _ => ?_)
        have hP : va_P D vwCl (w1 ci cz q (nI 1) F P g he hn) H := hP
        exact w_iret hx hb hr hlocks hS (⟨_, _, w1_k 1 (by simp [k_pfw, lv, inR, inB, Int32.not_lt, Int32.not_le, h1, h2, h3, h4]) hP⟩) (rz_n 0 (by simp [k_pfw, lv, inR, inB, Int32.not_lt, Int32.not_le, h1, h2, h3, h4])) dX1_price_37
    · have h4 := of_decide_eq_true h4
      obtain ⟨h5, h6⟩ := h4
      obtain ⟨jf, h7, rfl⟩ := inR_of h5 (by omega)
      have h8 : ix (nI jf) = jf := ix_nI (by omega)
      obtain ⟨jw, h9, rfl⟩ := inR_of h6 (by omega)
      have h10 : ix (nI jw) = jw := ix_nI (by omega)
      refine lv_aload_n hx hb dX1_price_22 rfl (lv_at hl 0 rfl) ?_
      refine lv_iload_n hx hb dX1_price_23 rfl (lv_at hl 1 rfl) ?_
      refine lv_iload_n hx hb dX1_price_24 rfl (lv_at hl 2 rfl) ?_
      refine lv_iload_n hx hb dX1_price_25 rfl (lv_at hl 3 rfl) ?_
      refine r_callR (rest := []) Fx (m_X1_priceOf l (D := D) (ci := ci) (cz := cz) (cj := cj) (q := q) (F := F) (P := P) (g := g) (th := nI 0) (he := he) (hn := hn) hF hP12 ja jf jw (by omega) (by omega) (by omega)) (cwV 3 Fx.2.2.2.2 gX1_price_X1_priceOf rfl rfl rfl (by decide +kernel) ⟨Nat.le_of_ble_eq_true rfl, Nat.le_of_ble_eq_true rfl⟩) BW.bl (va_recv hK hP (ci := 1) (q0 := 0) rfl rfl) (BW.at hP hK hE hS) rfl hl.1 rfl (Nat.le_of_ble_eq_true rfl) dX1_price_26 ⟨Nat.zero_le _, Nat.zero_le _⟩ ?_
      refine lv_goto (tgt := 37) hx hb dX1_price_29 (by decide) ?_
      exact w_iret hx hb hr hlocks hS (⟨_, _, w1_k 0 (by simp [k_pfw, lv, inR, inB, Int32.not_lt, Int32.not_le, h1, h2, h3, h5, h6, h7, h8, h9, h10]) hP⟩) (rz_0 (by simp [k_pfw, lv, inR, inB, Int32.not_lt, Int32.not_le, h1, h2, h3, h5, h6, h7, h8, h9, h10]) (by simp [k_pfw, lv, h1, h2, h3, h5, h6, h7, h8, h9, h10])) dX1_price_37
set_option maxHeartbeats 4000000 in
set_option maxRecDepth 100000 in
theorem m_X1_canBuy (l : Launch) {D : va_G} {ci cz cj : ClassId} {q : Nat → Nat} {F P : Nat} {g : Nat → Nat → Int32} {th : Int32} {he : Nat → Int32} {hn : Nat} (hq : DQ q 9) (hF : F ≤ 6) (hP12 : P ≤ 12) (a : Int32) (b : Int32) (f : Int32) (w : Int32) (ha0 : Iv F P g) : Met l yX1_canBuy wsX1_canBuy ({ frames := 3, cells := 0, slots := 0, locals := 72 } : Room) (va_Pc [.ref (q 0), .int a, .int b, .int f, .int w] (B1 D ci cz cj q th F P g he hn)) (WQ (some (.int (bI (rb (k_ppfw F P a b f w) (sMay g P (ix a) (ix b) (ix f) (ix w)))))) (fun H => ∃ (he : Nat → Int32) (hn : Nat), va_P D vwCl (w1 ci cz q (nI (k_ppfw F P a b f w)) F P g he hn) H) (aw q 9)) 0 0 (aw q 9) := by
  refine Met.ofWr (cc := cX1_canBuy) (maxL := 5) (ret := (some .boolean)) (by decide) rfl (Nat.le_of_ble_eq_true rfl) ?_
  intro pg en s m bl mt cd ls Fx hr hlocks hB hl
  obtain ⟨hP, hK, hE⟩ := hB
  have hl : lv_has ls 5 [(0, .ref (q 0)), (1, .int a), (2, .int b), (3, .int f), (4, .int w)] := hl
  have Fx : CallFix pg m cd cX1_canBuy 5 s _ wsX1_canBuy RX1 := Fx
  have hx := Fx.1
  have hb := Fx.2.1
  have hin : ∀ w ∈ wsX10, w ∈ wsX1_canBuy := by decide +kernel
  have hS : va_S (aw q 9) s.heap s.heap [] := va_S.rf
  have hP : va_P D vwCl (w1 ci cz q th F P g he hn) s.heap := hP
  refine lv_aload_n hx hb dX1_canBuy_0 rfl (lv_at hl 0 rfl) ?_
  refine lv_iconst (v := nI 0) hx hb dX1_canBuy_1 (by decide) ?_
  refine r_put Fx hin tyX1 tyX1_ok nmX1 hK hP (d1 hq) hS 1 rfl 0 (by decide) (by decide +kernel) rfl (by decide +kernel) rfl (Nat.le_of_ble_eq_true rfl) dX1_canBuy_2 (fun H locs hP hS => ?_)
  have hP : va_P D vwCl (w1 ci cz q (nI 0) F P g he hn) H := hP
  refine lv_aload_n hx hb dX1_canBuy_5 rfl (lv_at hl 0 rfl) ?_
  refine lv_iload_n hx hb dX1_canBuy_6 rfl (lv_at hl 1 rfl) ?_
  refine r_callR (rest := []) Fx (m_X1_isPerson l (D := D) (ci := ci) (cz := cz) (cj := cj) (q := q) (F := F) (P := P) (g := g) (th := nI 0) (he := he) (hn := hn) hF hP12 a ) (cwV 1 Fx.2.2.2.2 gX1_canBuy_X1_isPerson rfl rfl rfl (by decide +kernel) ⟨Nat.le_of_ble_eq_true rfl, Nat.le_of_ble_eq_true rfl⟩) BW.bl (va_recv hK hP (ci := 1) (q0 := 0) rfl rfl) (BW.at hP hK hE hS) rfl hl.1 rfl (Nat.le_of_ble_eq_true rfl) dX1_canBuy_7 ⟨Nat.zero_le _, Nat.zero_le _⟩ ?_
  refine b_if_eq (tgt := 43) hx hb dX1_canBuy_10 (by decide) (fun h1 => ?_) (fun h1 => ?_)
  · have h1 := of_decide_eq_false h1
    refine lv_aload_n hx hb dX1_canBuy_43 rfl (lv_at hl 0 rfl) ?_
    refine lv_iconst (v := nI 1) hx hb dX1_canBuy_44 (by decide) ?_
    refine r_callW (rest := []) Fx (m_X1_isNot l (D := D) (ci := ci) (cz := cz) (cj := cj) (q := q) (F := F) (P := P) (g := g) (th := nI 0) (he := he) (hn := hn) hq hF hP12 (nI 1) ) (cwV 1 Fx.2.2.2.2 gX1_canBuy_X1_isNot rfl rfl rfl (by decide +kernel) ⟨Nat.le_of_ble_eq_true rfl, Nat.le_of_ble_eq_true rfl⟩) BW.bl (va_recv hK hP (ci := 1) (q0 := 0) rfl rfl) (BW.at hP hK hE hS) rfl hl.1 rfl (Nat.le_of_ble_eq_true rfl) dX1_canBuy_45 ⟨Nat.zero_le _, Nat.zero_le _⟩ hS (fun _ h => h) (fun H locs hP hS _ _ => ?_)
    have hP : va_P D vwCl (w1 ci cz q (nI 1) F P g he hn) H := hP
    exact w_zret hx hb hr hlocks hS (⟨_, _, w1_k 1 (by simp [k_ppfw, lv, inR, inB, Int32.not_lt, Int32.not_le, h1]) hP⟩) (rb_n 0 (by simp [k_ppfw, lv, inR, inB, Int32.not_lt, Int32.not_le, h1])) dX1_canBuy_48
  · have h1 := of_decide_eq_true h1
    obtain ⟨ja, h2, rfl⟩ := inR_of h1 (by omega)
    have h3 : ix (nI ja) = ja := ix_nI (by omega)
    refine lv_aload_n hx hb dX1_canBuy_13 rfl (lv_at hl 0 rfl) ?_
    refine lv_iload_n hx hb dX1_canBuy_14 rfl (lv_at hl 2 rfl) ?_
    refine r_callR (rest := []) Fx (m_X1_isPerson l (D := D) (ci := ci) (cz := cz) (cj := cj) (q := q) (F := F) (P := P) (g := g) (th := nI 0) (he := he) (hn := hn) hF hP12 b ) (cwV 1 Fx.2.2.2.2 gX1_canBuy_X1_isPerson rfl rfl rfl (by decide +kernel) ⟨Nat.le_of_ble_eq_true rfl, Nat.le_of_ble_eq_true rfl⟩) BW.bl (va_recv hK hP (ci := 1) (q0 := 0) rfl rfl) (BW.at hP hK hE hS) rfl hl.1 rfl (Nat.le_of_ble_eq_true rfl) dX1_canBuy_15 ⟨Nat.zero_le _, Nat.zero_le _⟩ ?_
    refine b_if_eq (tgt := 43) hx hb dX1_canBuy_18 (by decide) (fun h4 => ?_) (fun h4 => ?_)
    · have h4 := of_decide_eq_false h4
      refine lv_aload_n hx hb dX1_canBuy_43 rfl (lv_at hl 0 rfl) ?_
      refine lv_iconst (v := nI 1) hx hb dX1_canBuy_44 (by decide) ?_
      refine r_callW (rest := []) Fx (m_X1_isNot l (D := D) (ci := ci) (cz := cz) (cj := cj) (q := q) (F := F) (P := P) (g := g) (th := nI 0) (he := he) (hn := hn) hq hF hP12 (nI 1) ) (cwV 1 Fx.2.2.2.2 gX1_canBuy_X1_isNot rfl rfl rfl (by decide +kernel) ⟨Nat.le_of_ble_eq_true rfl, Nat.le_of_ble_eq_true rfl⟩) BW.bl (va_recv hK hP (ci := 1) (q0 := 0) rfl rfl) (BW.at hP hK hE hS) rfl hl.1 rfl (Nat.le_of_ble_eq_true rfl) dX1_canBuy_45 ⟨Nat.zero_le _, Nat.zero_le _⟩ hS (fun _ h => h) (fun H locs hP hS _ _ => ?_)
      have hP : va_P D vwCl (w1 ci cz q (nI 1) F P g he hn) H := hP
      exact w_zret hx hb hr hlocks hS (⟨_, _, w1_k 1 (by simp [k_ppfw, lv, inR, inB, Int32.not_lt, Int32.not_le, h1, h2, h3, h4]) hP⟩) (rb_n 0 (by simp [k_ppfw, lv, inR, inB, Int32.not_lt, Int32.not_le, h1, h2, h3, h4])) dX1_canBuy_48
    · have h4 := of_decide_eq_true h4
      obtain ⟨jb, h5, rfl⟩ := inR_of h4 (by omega)
      have h6 : ix (nI jb) = jb := ix_nI (by omega)
      refine lv_aload_n hx hb dX1_canBuy_21 rfl (lv_at hl 0 rfl) ?_
      refine lv_iload_n hx hb dX1_canBuy_22 rfl (lv_at hl 3 rfl) ?_
      refine lv_iload hx hb dX1_canBuy_23 (lv_at hl 4 rfl) ?_
      refine r_callR (rest := []) Fx (m_X1_isWatch l (D := D) (ci := ci) (cz := cz) (cj := cj) (q := q) (F := F) (P := P) (g := g) (th := nI 0) (he := he) (hn := hn) hF hP12 f w ) (cwV 2 Fx.2.2.2.2 gX1_canBuy_X1_isWatch rfl rfl rfl (by decide +kernel) ⟨Nat.le_of_ble_eq_true rfl, Nat.le_of_ble_eq_true rfl⟩) BW.bl (va_recv hK hP (ci := 1) (q0 := 0) rfl rfl) (BW.at hP hK hE hS) rfl hl.1 rfl (Nat.le_of_ble_eq_true rfl) dX1_canBuy_25 ⟨Nat.zero_le _, Nat.zero_le _⟩ ?_
      refine b_if_eq (tgt := 43) hx hb dX1_canBuy_28 (by decide) (fun h7 => ?_) (fun h7 => ?_)
      · have h7 := of_decide_eq_false h7
        rcases Classical.not_and_iff_not_or_not.mp h7 with h7 | h7
        · refine lv_aload_n hx hb dX1_canBuy_43 rfl (lv_at hl 0 rfl) ?_
          refine lv_iconst (v := nI 1) hx hb dX1_canBuy_44 (by decide) ?_
          refine r_callW (rest := []) Fx (m_X1_isNot l (D := D) (ci := ci) (cz := cz) (cj := cj) (q := q) (F := F) (P := P) (g := g) (th := nI 0) (he := he) (hn := hn) hq hF hP12 (nI 1) ) (cwV 1 Fx.2.2.2.2 gX1_canBuy_X1_isNot rfl rfl rfl (by decide +kernel) ⟨Nat.le_of_ble_eq_true rfl, Nat.le_of_ble_eq_true rfl⟩) BW.bl (va_recv hK hP (ci := 1) (q0 := 0) rfl rfl) (BW.at hP hK hE hS) rfl hl.1 rfl (Nat.le_of_ble_eq_true rfl) dX1_canBuy_45 ⟨Nat.zero_le _, Nat.zero_le _⟩ hS (fun _ h => h) (fun H locs hP hS _ _ => ?_)
          have hP : va_P D vwCl (w1 ci cz q (nI 1) F P g he hn) H := hP
          exact w_zret hx hb hr hlocks hS (⟨_, _, w1_k 1 (by simp [k_ppfw, lv, inR, inB, Int32.not_lt, Int32.not_le, h1, h2, h3, h4, h5, h6, h7]) hP⟩) (rb_n 0 (by simp [k_ppfw, lv, inR, inB, Int32.not_lt, Int32.not_le, h1, h2, h3, h4, h5, h6, h7])) dX1_canBuy_48
        · refine lv_aload_n hx hb dX1_canBuy_43 rfl (lv_at hl 0 rfl) ?_
          refine lv_iconst (v := nI 1) hx hb dX1_canBuy_44 (by decide) ?_
          refine r_callW (rest := []) Fx (m_X1_isNot l (D := D) (ci := ci) (cz := cz) (cj := cj) (q := q) (F := F) (P := P) (g := g) (th := nI 0) (he := he) (hn := hn) hq hF hP12 (nI 1) ) (cwV 1 Fx.2.2.2.2 gX1_canBuy_X1_isNot rfl rfl rfl (by decide +kernel) ⟨Nat.le_of_ble_eq_true rfl, Nat.le_of_ble_eq_true rfl⟩) BW.bl (va_recv hK hP (ci := 1) (q0 := 0) rfl rfl) (BW.at hP hK hE hS) rfl hl.1 rfl (Nat.le_of_ble_eq_true rfl) dX1_canBuy_45 ⟨Nat.zero_le _, Nat.zero_le _⟩ hS (fun _ h => h) (fun H locs hP hS _ _ => ?_)
          have hP : va_P D vwCl (w1 ci cz q (nI 1) F P g he hn) H := hP
          exact w_zret hx hb hr hlocks hS (⟨_, _, w1_k 1 (by simp [k_ppfw, lv, inR, inB, Int32.not_lt, Int32.not_le, h1, h2, h3, h4, h5, h6, h7]) hP⟩) (rb_n 0 (by simp [k_ppfw, lv, inR, inB, Int32.not_lt, Int32.not_le, h1, h2, h3, h4, h5, h6, h7])) dX1_canBuy_48
      · have h7 := of_decide_eq_true h7
        obtain ⟨h8, h9⟩ := h7
        obtain ⟨jf, h10, rfl⟩ := inR_of h8 (by omega)
        have h11 : ix (nI jf) = jf := ix_nI (by omega)
        obtain ⟨jw, h12, rfl⟩ := inR_of h9 (by omega)
        have h13 : ix (nI jw) = jw := ix_nI (by omega)
        refine lv_aload_n hx hb dX1_canBuy_31 rfl (lv_at hl 0 rfl) ?_
        refine lv_iload_n hx hb dX1_canBuy_32 rfl (lv_at hl 1 rfl) ?_
        refine lv_iload_n hx hb dX1_canBuy_33 rfl (lv_at hl 2 rfl) ?_
        refine lv_iload_n hx hb dX1_canBuy_34 rfl (lv_at hl 3 rfl) ?_
        refine lv_iload hx hb dX1_canBuy_35 (lv_at hl 4 rfl) ?_
        refine r_callR (rest := []) Fx (m_X1_buys l (D := D) (ci := ci) (cz := cz) (cj := cj) (q := q) (F := F) (P := P) (g := g) (th := nI 0) (he := he) (hn := hn) hF hP12 ja jb jf jw ha0 (by omega) (by omega) (by omega) (by omega)) (cwV 4 Fx.2.2.2.2 gX1_canBuy_X1_buys rfl rfl rfl (by decide +kernel) ⟨Nat.le_of_ble_eq_true rfl, Nat.le_of_ble_eq_true rfl⟩) BW.bl (va_recv hK hP (ci := 1) (q0 := 0) rfl rfl) (BW.at hP hK hE hS) rfl hl.1 rfl (Nat.le_of_ble_eq_true rfl) dX1_canBuy_37 ⟨Nat.zero_le _, Nat.zero_le _⟩ ?_
        refine lv_goto (tgt := 48) hx hb dX1_canBuy_40 (by decide) ?_
        exact w_zret hx hb hr hlocks hS (⟨_, _, w1_k 0 (by simp [k_ppfw, lv, inR, inB, Int32.not_lt, Int32.not_le, h1, h2, h3, h4, h5, h6, h8, h9, h10, h11, h12, h13]) hP⟩) (rb_0 (by simp [k_ppfw, lv, inR, inB, Int32.not_lt, Int32.not_le, h1, h2, h3, h4, h5, h6, h8, h9, h10, h11, h12, h13]) (by simp [k_ppfw, bI, lv, h1, h2, h3, h4, h5, h6, h8, h9, h10, h11, h12, h13])) dX1_canBuy_48
set_option maxHeartbeats 4000000 in
set_option maxRecDepth 100000 in
theorem m_X1_fare (l : Launch) {D : va_G} {ci cz cj : ClassId} {q : Nat → Nat} {F P : Nat} {g : Nat → Nat → Int32} {th : Int32} {he : Nat → Int32} {hn : Nat} (hq : DQ q 9) (hF : F ≤ 6) (hP12 : P ≤ 12) (a : Int32) (f : Int32) (h : Int32) (x : Int32) (ha0 : Iv F P g) : Met l yX1_fare wsX1_fare ({ frames := 2, cells := 0, slots := 0, locals := 46 } : Room) (va_Pc [.ref (q 0), .int a, .int f, .int h, .int x] (B1 D ci cz cj q th F P g he hn)) (WQ (some (.int (rz (k_fare F P a f h x) (sFar g (ix f) (ix h / 6) (ix a) x)))) (fun H => ∃ (he : Nat → Int32) (hn : Nat), va_P D vwCl (w1 ci cz q (nI (k_fare F P a f h x)) F P g he hn) H) (aw q 9)) 0 0 (aw q 9) := by
  refine Met.ofWr (cc := cX1_fare) (maxL := 5) (ret := (some .int)) (by decide) rfl (Nat.le_of_ble_eq_true rfl) ?_
  intro pg en s m bl mt cd ls Fx hr hlocks hB hl
  obtain ⟨hP, hK, hE⟩ := hB
  have hl : lv_has ls 5 [(0, .ref (q 0)), (1, .int a), (2, .int f), (3, .int h), (4, .int x)] := hl
  have Fx : CallFix pg m cd cX1_fare 5 s _ wsX1_fare RX1 := Fx
  have hx := Fx.1
  have hb := Fx.2.1
  have hin : ∀ w ∈ wsX10, w ∈ wsX1_fare := by decide +kernel
  have hS : va_S (aw q 9) s.heap s.heap [] := va_S.rf
  have hP : va_P D vwCl (w1 ci cz q th F P g he hn) s.heap := hP
  refine lv_aload_n hx hb dX1_fare_0 rfl (lv_at hl 0 rfl) ?_
  refine lv_iconst (v := nI 0) hx hb dX1_fare_1 (by decide) ?_
  refine r_put Fx hin tyX1 tyX1_ok nmX1 hK hP (d1 hq) hS 1 rfl 0 (by decide) (by decide +kernel) rfl (by decide +kernel) rfl (Nat.le_of_ble_eq_true rfl) dX1_fare_2 (fun H locs hP hS => ?_)
  have hP : va_P D vwCl (w1 ci cz q (nI 0) F P g he hn) H := hP
  refine lv_aload_n hx hb dX1_fare_5 rfl (lv_at hl 0 rfl) ?_
  refine lv_iload_n hx hb dX1_fare_6 rfl (lv_at hl 1 rfl) ?_
  refine r_callR (rest := []) Fx (m_X1_isPerson l (D := D) (ci := ci) (cz := cz) (cj := cj) (q := q) (F := F) (P := P) (g := g) (th := nI 0) (he := he) (hn := hn) hF hP12 a ) (cwV 1 Fx.2.2.2.2 gX1_fare_X1_isPerson rfl rfl rfl (by decide +kernel) ⟨Nat.le_of_ble_eq_true rfl, Nat.le_of_ble_eq_true rfl⟩) BW.bl (va_recv hK hP (ci := 1) (q0 := 0) rfl rfl) (BW.at hP hK hE hS) rfl hl.1 rfl (Nat.le_of_ble_eq_true rfl) dX1_fare_7 ⟨Nat.zero_le _, Nat.zero_le _⟩ ?_
  refine b_if_eq (tgt := 31) hx hb dX1_fare_10 (by decide) (fun h1 => ?_) (fun h1 => ?_)
  · have h1 := of_decide_eq_false h1
    refine lv_aload_n hx hb dX1_fare_31 rfl (lv_at hl 0 rfl) ?_
    refine lv_iconst (v := nI 1) hx hb dX1_fare_32 (by decide) ?_
    refine r_callW (rest := []) Fx (m_X1_no l (D := D) (ci := ci) (cz := cz) (cj := cj) (q := q) (F := F) (P := P) (g := g) (th := nI 0) (he := he) (hn := hn) hq hF hP12 (nI 1) ) (cwV 1 Fx.2.2.2.2 gX1_fare_X1_no rfl rfl rfl (by decide +kernel) ⟨Nat.le_of_ble_eq_true rfl, Nat.le_of_ble_eq_true rfl⟩) BW.bl (va_recv hK hP (ci := 1) (q0 := 0) rfl rfl) (BW.at hP hK hE hS) rfl hl.1 rfl (Nat.le_of_ble_eq_true rfl) dX1_fare_33 ⟨Nat.zero_le _, Nat.zero_le _⟩ hS (fun _ h => h) (fun H locs hP hS _ _ => ?_)
    have hP : va_P D vwCl (w1 ci cz q (nI 1) F P g he hn) H := hP
    exact w_iret hx hb hr hlocks hS (⟨_, _, w1_k 1 (by simp [k_fare, lv, inR, inB, Int32.not_lt, Int32.not_le, h1]) hP⟩) (rz_n 0 (by simp [k_fare, lv, inR, inB, Int32.not_lt, Int32.not_le, h1])) dX1_fare_36
  · have h1 := of_decide_eq_true h1
    obtain ⟨ja, h2, rfl⟩ := inR_of h1 (by omega)
    have h3 : ix (nI ja) = ja := ix_nI (by omega)
    refine lv_aload_n hx hb dX1_fare_13 rfl (lv_at hl 0 rfl) ?_
    refine lv_iload_n hx hb dX1_fare_14 rfl (lv_at hl 2 rfl) ?_
    refine r_callR (rest := []) Fx (m_X1_isFerry l (D := D) (ci := ci) (cz := cz) (cj := cj) (q := q) (F := F) (P := P) (g := g) (th := nI 0) (he := he) (hn := hn) hF hP12 f ) (cwV 1 Fx.2.2.2.2 gX1_fare_X1_isFerry rfl rfl rfl (by decide +kernel) ⟨Nat.le_of_ble_eq_true rfl, Nat.le_of_ble_eq_true rfl⟩) BW.bl (va_recv hK hP (ci := 1) (q0 := 0) rfl rfl) (BW.at hP hK hE hS) rfl hl.1 rfl (Nat.le_of_ble_eq_true rfl) dX1_fare_15 ⟨Nat.zero_le _, Nat.zero_le _⟩ ?_
    refine b_if_eq (tgt := 31) hx hb dX1_fare_18 (by decide) (fun h4 => ?_) (fun h4 => ?_)
    · have h4 := of_decide_eq_false h4
      refine lv_aload_n hx hb dX1_fare_31 rfl (lv_at hl 0 rfl) ?_
      refine lv_iconst (v := nI 1) hx hb dX1_fare_32 (by decide) ?_
      refine r_callW (rest := []) Fx (m_X1_no l (D := D) (ci := ci) (cz := cz) (cj := cj) (q := q) (F := F) (P := P) (g := g) (th := nI 0) (he := he) (hn := hn) hq hF hP12 (nI 1) ) (cwV 1 Fx.2.2.2.2 gX1_fare_X1_no rfl rfl rfl (by decide +kernel) ⟨Nat.le_of_ble_eq_true rfl, Nat.le_of_ble_eq_true rfl⟩) BW.bl (va_recv hK hP (ci := 1) (q0 := 0) rfl rfl) (BW.at hP hK hE hS) rfl hl.1 rfl (Nat.le_of_ble_eq_true rfl) dX1_fare_33 ⟨Nat.zero_le _, Nat.zero_le _⟩ hS (fun _ h => h) (fun H locs hP hS _ _ => ?_)
      have hP : va_P D vwCl (w1 ci cz q (nI 1) F P g he hn) H := hP
      exact w_iret hx hb hr hlocks hS (⟨_, _, w1_k 1 (by simp [k_fare, lv, inR, inB, Int32.not_lt, Int32.not_le, h1, h2, h3, h4]) hP⟩) (rz_n 0 (by simp [k_fare, lv, inR, inB, Int32.not_lt, Int32.not_le, h1, h2, h3, h4])) dX1_fare_36
    · have h4 := of_decide_eq_true h4
      obtain ⟨jf, h5, rfl⟩ := inR_of h4 (by omega)
      have h6 : ix (nI jf) = jf := ix_nI (by omega)
      refine lv_iload_n hx hb dX1_fare_21 rfl (lv_at hl 3 rfl) ?_
      refine lv_iconst (v := nI 0) hx hb dX1_fare_22 (by decide) ?_
      refine lv_bipush (v := nI 23) hx hb dX1_fare_23 (by decide) ?_
      refine r_callRS (rest := []) Fx (m_X1_isIn l (D := D) (ci := ci) (cz := cz) (cj := cj) (q := q) (F := F) (P := P) (g := g) (th := nI 0) (he := he) (hn := hn) hF hP12 h (nI 0) (nI 23) ) (va_cwS 3 Fx.2.2.2.2 gX1_fare_X1_isIn rfl rfl rfl (by decide +kernel) ⟨Nat.le_of_ble_eq_true rfl, Nat.le_of_ble_eq_true rfl⟩) BW.bl (BW.at hP hK hE hS) rfl hl.1 rfl (Nat.le_of_ble_eq_true rfl) dX1_fare_25 ⟨Nat.zero_le _, Nat.zero_le _⟩ ?_
      rw [isI_23]
      refine b_if_ne (tgt := 37) hx hb dX1_fare_28 (by decide) (fun h7 => ?_) (fun h7 => ?_)
      · have h7 := of_decide_eq_true h7
        obtain ⟨jh, h8, rfl⟩ := inR_of h7 (by omega)
        have h9 : ix (nI jh) = jh := ix_nI (by omega)
        refine lv_iload hx hb dX1_fare_37 (lv_at hl 4 rfl) ?_
        refine lv_iconst (v := nI 1) hx hb dX1_fare_39 (by decide) ?_
        refine lv_sipush (v := nI 200) hx hb dX1_fare_40 (by decide) ?_
        refine r_callRS (rest := []) Fx (m_X1_isIn l (D := D) (ci := ci) (cz := cz) (cj := cj) (q := q) (F := F) (P := P) (g := g) (th := nI 0) (he := he) (hn := hn) hF hP12 x (nI 1) (nI 200) ) (va_cwS 3 Fx.2.2.2.2 gX1_fare_X1_isIn rfl rfl rfl (by decide +kernel) ⟨Nat.le_of_ble_eq_true rfl, Nat.le_of_ble_eq_true rfl⟩) BW.bl (BW.at hP hK hE hS) rfl hl.1 rfl (Nat.le_of_ble_eq_true rfl) dX1_fare_43 ⟨Nat.zero_le _, Nat.zero_le _⟩ ?_
        refine b_if_eq (tgt := 61) hx hb dX1_fare_46 (by decide) (fun h10 => ?_) (fun h10 => ?_)
        · have h10 := of_decide_eq_false h10
          refine lv_aload_n hx hb dX1_fare_61 rfl (lv_at hl 0 rfl) ?_
          refine lv_iconst (v := nI 2) hx hb dX1_fare_62 (by decide) ?_
          refine r_callW (rest := []) Fx (m_X1_no l (D := D) (ci := ci) (cz := cz) (cj := cj) (q := q) (F := F) (P := P) (g := g) (th := nI 0) (he := he) (hn := hn) hq hF hP12 (nI 2) ) (cwV 1 Fx.2.2.2.2 gX1_fare_X1_no rfl rfl rfl (by decide +kernel) ⟨Nat.le_of_ble_eq_true rfl, Nat.le_of_ble_eq_true rfl⟩) BW.bl (va_recv hK hP (ci := 1) (q0 := 0) rfl rfl) (BW.at hP hK hE hS) rfl hl.1 rfl (Nat.le_of_ble_eq_true rfl) dX1_fare_63 ⟨Nat.zero_le _, Nat.zero_le _⟩ hS (fun _ h => h) (fun H locs hP hS _ _ => ?_)
          have hP : va_P D vwCl (w1 ci cz q (nI 2) F P g he hn) H := hP
          exact w_iret hx hb hr hlocks hS (⟨_, _, w1_k 2 (by simp [k_fare, lv, inR, inB, Int32.not_lt, Int32.not_le, h1, h2, h3, h4, h5, h6, h7, h8, h9, h10]) hP⟩) (rz_n 1 (by simp [k_fare, lv, inR, inB, Int32.not_lt, Int32.not_le, h1, h2, h3, h4, h5, h6, h7, h8, h9, h10])) dX1_fare_66
        · have h10 := of_decide_eq_true h10
          refine lv_aload_n hx hb dX1_fare_49 rfl (lv_at hl 0 rfl) ?_
          refine lv_iload_n hx hb dX1_fare_50 rfl (lv_at hl 2 rfl) ?_
          refine lv_iload_n hx hb dX1_fare_51 rfl (lv_at hl 3 rfl) ?_
          refine lv_iload_n hx hb dX1_fare_52 rfl (lv_at hl 1 rfl) ?_
          refine lv_iload hx hb dX1_fare_53 (lv_at hl 4 rfl) ?_
          refine r_callR (rest := []) Fx (m_X1_part l (D := D) (ci := ci) (cz := cz) (cj := cj) (q := q) (F := F) (P := P) (g := g) (th := nI 0) (he := he) (hn := hn) hF hP12 jf jh ja x (by omega) (by omega) (by omega)) (cwV 4 Fx.2.2.2.2 gX1_fare_X1_part rfl rfl rfl (by decide +kernel) ⟨Nat.le_of_ble_eq_true rfl, Nat.le_of_ble_eq_true rfl⟩) BW.bl (va_recv hK hP (ci := 1) (q0 := 0) rfl rfl) (BW.at hP hK hE hS) rfl hl.1 rfl (Nat.le_of_ble_eq_true rfl) dX1_fare_55 ⟨Nat.zero_le _, Nat.zero_le _⟩ ?_
          refine lv_goto (tgt := 66) hx hb dX1_fare_58 (by decide) ?_
          exact w_iret hx hb hr hlocks hS (⟨_, _, w1_k 0 (by simp [k_fare, lv, inR, inB, Int32.not_lt, Int32.not_le, h1, h2, h3, h4, h5, h6, h7, h8, h9, h10]) hP⟩) (rz_0 (by simp [k_fare, lv, inR, inB, Int32.not_lt, Int32.not_le, h1, h2, h3, h4, h5, h6, h7, h8, h9, h10]) (by simp [k_fare, lv, h1, h2, h3, h4, h5, h6, h7, h8, h9, h10])) dX1_fare_66
      · have h7 := of_decide_eq_false h7
        refine lv_aload_n hx hb dX1_fare_31 rfl (lv_at hl 0 rfl) ?_
        refine lv_iconst (v := nI 1) hx hb dX1_fare_32 (by decide) ?_
        refine r_callW (rest := []) Fx (m_X1_no l (D := D) (ci := ci) (cz := cz) (cj := cj) (q := q) (F := F) (P := P) (g := g) (th := nI 0) (he := he) (hn := hn) hq hF hP12 (nI 1) ) (cwV 1 Fx.2.2.2.2 gX1_fare_X1_no rfl rfl rfl (by decide +kernel) ⟨Nat.le_of_ble_eq_true rfl, Nat.le_of_ble_eq_true rfl⟩) BW.bl (va_recv hK hP (ci := 1) (q0 := 0) rfl rfl) (BW.at hP hK hE hS) rfl hl.1 rfl (Nat.le_of_ble_eq_true rfl) dX1_fare_33 ⟨Nat.zero_le _, Nat.zero_le _⟩ hS (fun _ h => h) (fun H locs hP hS _ _ => ?_)
        have hP : va_P D vwCl (w1 ci cz q (nI 1) F P g he hn) H := hP
        exact w_iret hx hb hr hlocks hS (⟨_, _, w1_k 1 (by simp [k_fare, lv, inR, inB, Int32.not_lt, Int32.not_le, h1, h2, h3, h4, h5, h6, h7]) hP⟩) (rz_n 0 (by simp [k_fare, lv, inR, inB, Int32.not_lt, Int32.not_le, h1, h2, h3, h4, h5, h6, h7])) dX1_fare_36
