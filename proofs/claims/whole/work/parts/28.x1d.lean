/-! FerryRightsModel, IV: heirs, dying, the rest -/
set_option maxHeartbeats 4000000 in
set_option maxRecDepth 100000 in
theorem m_X1_partOf (l : Launch) {D : va_G} {ci cz cj : ClassId} {q : Nat → Nat} {F P : Nat} {g : Nat → Nat → Int32} {th : Int32} {he : Nat → Int32} {hn : Nat} (hF : F ≤ 6) (hP12 : P ≤ 12) (x : Int32) (k : Nat) (ha0 : 1 ≤ hn) (ha1 : hn ≤ 12) (ha2 : k ≤ 12) : Met l yX1_partOf wsX1_partOf ({ frames := 0, cells := 0, slots := 0, locals := 0 } : Room) (va_Pc [.ref (q 0), .int x, .int (nI k)] (B1 D ci cz cj q th F P g he hn)) (RQ (some (.int (sPar x hn k)))) 0 0 none_ := by
  refine Met.ofR (cc := cX1_partOf) (maxL := 4) (ret := (some .int)) (by decide) rfl (Nat.le_of_ble_eq_true rfl) ?_
  intro pg en s m bl mt cd ls Fx hr hlocks hB hl
  obtain ⟨hP, hK, hE⟩ := hB
  have hl : lv_has ls 4 [(0, .ref (q 0)), (1, .int x), (2, .int (nI k))] := hl
  have Fx : CallFix pg m cd cX1_partOf 4 s _ wsX1_partOf RX1 := Fx
  have hx := Fx.1
  have hb := Fx.2.1
  have hin : ∀ w ∈ wsX10, w ∈ wsX1_partOf := by decide +kernel
  have hS : va_S (aw q 9) s.heap s.heap [] := va_S.rf
  have hP : va_P D vwCl (w1 ci cz q th F P g he hn) s.heap := hP
  refine lv_aload_n hx hb dX1_partOf_0 rfl (lv_at hl 0 rfl) ?_
  refine r_get Fx hin hK hP 1 rfl 12 (by decide) (by decide +kernel) rfl rfl dX1_partOf_1 ?_
  refine lv_iconst (v := nI 1) hx hb dX1_partOf_4 (by decide) ?_
  refine n_icmp_ne (tgt := 10) hx hb (by omega) (by omega) dX1_partOf_5 (by decide) (fun h1 => ?_) (fun h1 => ?_)
  · have h9 : ¬ hn ≤ 1 := by omega
    refine lv_iload_n hx hb dX1_partOf_10 rfl (lv_at hl 1 rfl) ?_
    refine lv_iconst (v := nI 2) hx hb dX1_partOf_11 (by decide) ?_
    refine lv_idiv hx hb dX1_partOf_12 (by decide) ?_
    refine lv_istore_n (lv' := [(3, .int (x / (nI 2))), (0, .ref (q 0)), (1, .int x), (2, .int (nI k))]) hx hb dX1_partOf_13 rfl hl (by decide) rfl (fun ls hl => ?_)
    refine lv_iload_n hx hb dX1_partOf_14 rfl (lv_at hl 3 rfl) ?_
    refine n_if_ne (tgt := 22) hx hb (by omega) dX1_partOf_15 (by decide) (fun h2 => ?_) (fun h2 => ?_)
    · refine lv_iload_n hx hb dX1_partOf_22 rfl (lv_at hl 0 rfl) ?_
      refine lv_aload_n hx hb dX1_partOf_23 rfl (lv_at hl 1 rfl) ?_
      refine r_get Fx hin hK hP 1 rfl 12 (by decide) (by decide +kernel) rfl rfl dX1_partOf_24 ?_
      refine lv_iconst (v := nI 1) hx hb dX1_partOf_27 (by decide) ?_
      refine r_isub_n hx hb (by omega) dX1_partOf_28 ?_
      refine lv_idiv hx hb dX1_partOf_29 (nI_ne0 (by omega) (by omega)) ?_
      refine lv_iload_n hx hb dX1_partOf_30 rfl (lv_at hl 3 rfl) ?_
      refine lv_iconst (v := nI 1) hx hb dX1_partOf_31 (by decide) ?_
      refine r_isub_n hx hb (by omega) dX1_partOf_32 ?_
      refine lv_iload_n hx hb dX1_partOf_33 rfl (lv_at hl 0 rfl) ?_
      refine lv_aload_n hx hb dX1_partOf_34 rfl (lv_at hl 1 rfl) ?_
      refine r_get Fx hin hK hP 1 rfl 12 (by decide) (by decide +kernel) rfl rfl dX1_partOf_35 ?_
      refine lv_iconst (v := nI 1) hx hb dX1_partOf_38 (by decide) ?_
      refine r_isub_n hx hb (by omega) dX1_partOf_39 ?_
      refine lv_irem hx hb dX1_partOf_40 (nI_ne0 (by omega) (by omega)) ?_
      refine lv_icmp_ge (tgt := 48) hx hb dX1_partOf_41 (by decide) (fun h3 => ?_) (fun h3 => ?_)
      · refine lv_iconst (v := nI 0) hx hb dX1_partOf_48 (by decide) ?_
        refine lv_iadd hx hb dX1_partOf_49 ?_
        exact r_iret hx hb hr hlocks (by have e0 : (nI 0 : Int32) = 0 := rfl; simp [sPar, h9, e0, h1, h2, h3, Int32.not_lt.mpr h3]) dX1_partOf_50
      · have h3 := Int32.not_le.mp h3
        refine lv_iconst (v := nI 1) hx hb dX1_partOf_44 (by decide) ?_
        refine lv_goto (tgt := 49) hx hb dX1_partOf_45 (by decide) ?_
        refine lv_iadd hx hb dX1_partOf_49 ?_
        exact r_iret hx hb hr hlocks (by have e0 : (nI 0 : Int32) = 0 := rfl; simp [sPar, h9, e0, h1, h2, h3, Int32.not_le.mpr h3]) dX1_partOf_50
    · refine lv_iload_n hx hb dX1_partOf_18 rfl (lv_at hl 2 rfl) ?_
      refine lv_iload_n hx hb dX1_partOf_19 rfl (lv_at hl 0 rfl) ?_
      refine lv_isub hx hb dX1_partOf_20 ?_
      exact r_iret hx hb hr hlocks (by have e0 : (nI 0 : Int32) = 0 := rfl; simp [sPar, h9, e0, h1, h2]) dX1_partOf_21
  · refine lv_iload_n hx hb dX1_partOf_8 rfl (lv_at hl 1 rfl) ?_
    exact r_iret hx hb hr hlocks (by rw [sPar, if_pos (by omega)]) dX1_partOf_9
set_option maxHeartbeats 4000000 in
set_option maxRecDepth 100000 in
theorem m_X1_heirsOf (l : Launch) {D : va_G} {ci cz cj : ClassId} {q : Nat → Nat} {F P : Nat} {g : Nat → Nat → Int32} {th : Int32} {he : Nat → Int32} {hn : Nat} (hq : DQ q 9) (hF : F ≤ 6) (hP12 : P ≤ 12) (k : Nat) (ha0 : Iv F P g) (ha1 : k < P) : Met l yX1_heirsOf wsX1_heirsOf ({ frames := 2, cells := 0, slots := 0, locals := 43 } : Room) (va_Pc [.ref (q 0), .int (nI k)] (B1 D ci cz cj q th F P g he hn)) (WQ (some (.int (nI (sCHe g P k)))) (fun H => ∃ he, HeOk g P k he ∧ va_P D vwCl (w1 ci cz q th F P g he (sCHe g P k)) H) (aw q 9)) 0 0 (aw q 9) := by
  refine Met.ofWr (cc := cX1_heirsOf) (maxL := 2) (ret := (some .int)) (by decide) rfl (Nat.le_of_ble_eq_true rfl) ?_
  intro pg en s m bl mt cd ls Fx hr hlocks hB hl
  obtain ⟨hP, hK, hE⟩ := hB
  have hl : lv_has ls 2 [(0, .ref (q 0)), (1, .int (nI k))] := hl
  have Fx : CallFix pg m cd cX1_heirsOf 2 s _ wsX1_heirsOf RX1 := Fx
  have hx := Fx.1
  have hb := Fx.2.1
  have hin : ∀ w ∈ wsX10, w ∈ wsX1_heirsOf := by decide +kernel
  have hS : va_S (aw q 9) s.heap s.heap [] := va_S.rf
  have hP : va_P D vwCl (w1 ci cz q th F P g he hn) s.heap := hP
  refine lv_aload_n hx hb dX1_heirsOf_0 rfl (lv_at hl 0 rfl) ?_
  refine lv_iload_n hx hb dX1_heirsOf_1 rfl (lv_at hl 1 rfl) ?_
  refine r_callW (rest := []) Fx (m_X1_lookForHeirs l (D := D) (ci := ci) (cz := cz) (cj := cj) (q := q) (F := F) (P := P) (g := g) (th := th) (he := he) (hn := hn) hq hF hP12 k ha0 (by omega)) (cwV 1 Fx.2.2.2.2 gX1_heirsOf_X1_lookForHeirs rfl rfl rfl (by decide +kernel) ⟨Nat.le_of_ble_eq_true rfl, Nat.le_of_ble_eq_true rfl⟩) BW.bl (va_recv hK hP (ci := 1) (q0 := 0) rfl rfl) (BW.at hP hK hE hS) rfl hl.1 rfl (Nat.le_of_ble_eq_true rfl) dX1_heirsOf_2 ⟨Nat.zero_le _, Nat.zero_le _⟩ hS (fun _ h => h) (fun H locs hP hS _ _ => ?_)
  obtain ⟨he0, hHe, hP⟩ := hP
  have hP : va_P D vwCl (w1 ci cz q th F P g he0 (sCHe g P k)) H := hP
  refine lv_aload_n hx hb dX1_heirsOf_5 rfl (lv_at hl 0 rfl) ?_
  refine r_get Fx hin hK hP 1 rfl 12 (by decide) (by decide +kernel) rfl rfl dX1_heirsOf_6 ?_
  exact w_iret hx hb hr hlocks hS (⟨_, hHe, hP⟩) (rfl) dX1_heirsOf_9
set_option maxHeartbeats 4000000 in
set_option maxRecDepth 100000 in
theorem m_X1_heirs (l : Launch) {D : va_G} {ci cz cj : ClassId} {q : Nat → Nat} {F P : Nat} {g : Nat → Nat → Int32} {th : Int32} {he : Nat → Int32} {hn : Nat} (hq : DQ q 9) (hF : F ≤ 6) (hP12 : P ≤ 12) (a : Int32) (ha0 : Iv F P g) : Met l yX1_heirs wsX1_heirs ({ frames := 3, cells := 0, slots := 0, locals := 64 } : Room) (va_Pc [.ref (q 0), .int a] (B1 D ci cz cj q th F P g he hn)) (WQ (some (.int (rz (k_1 P a) (nI (sCHe g P (ix a)))))) (fun H => ∃ (he : Nat → Int32) (hn : Nat), va_P D vwCl (w1 ci cz q (nI (k_1 P a)) F P g he hn) H) (aw q 9)) 0 0 (aw q 9) := by
  refine Met.ofWr (cc := cX1_heirs) (maxL := 2) (ret := (some .int)) (by decide) rfl (Nat.le_of_ble_eq_true rfl) ?_
  intro pg en s m bl mt cd ls Fx hr hlocks hB hl
  obtain ⟨hP, hK, hE⟩ := hB
  have hl : lv_has ls 2 [(0, .ref (q 0)), (1, .int a)] := hl
  have Fx : CallFix pg m cd cX1_heirs 2 s _ wsX1_heirs RX1 := Fx
  have hx := Fx.1
  have hb := Fx.2.1
  have hin : ∀ w ∈ wsX10, w ∈ wsX1_heirs := by decide +kernel
  have hS : va_S (aw q 9) s.heap s.heap [] := va_S.rf
  have hP : va_P D vwCl (w1 ci cz q th F P g he hn) s.heap := hP
  refine lv_aload_n hx hb dX1_heirs_0 rfl (lv_at hl 0 rfl) ?_
  refine lv_iconst (v := nI 0) hx hb dX1_heirs_1 (by decide) ?_
  refine r_put Fx hin tyX1 tyX1_ok nmX1 hK hP (d1 hq) hS 1 rfl 0 (by decide) (by decide +kernel) rfl (by decide +kernel) rfl (Nat.le_of_ble_eq_true rfl) dX1_heirs_2 (fun H locs hP hS => ?_)
  have hP : va_P D vwCl (w1 ci cz q (nI 0) F P g he hn) H := hP
  refine lv_aload_n hx hb dX1_heirs_5 rfl (lv_at hl 0 rfl) ?_
  refine lv_iload_n hx hb dX1_heirs_6 rfl (lv_at hl 1 rfl) ?_
  refine r_callR (rest := []) Fx (m_X1_isPerson l (D := D) (ci := ci) (cz := cz) (cj := cj) (q := q) (F := F) (P := P) (g := g) (th := nI 0) (he := he) (hn := hn) hF hP12 a ) (cwV 1 Fx.2.2.2.2 gX1_heirs_X1_isPerson rfl rfl rfl (by decide +kernel) ⟨Nat.le_of_ble_eq_true rfl, Nat.le_of_ble_eq_true rfl⟩) BW.bl (va_recv hK hP (ci := 1) (q0 := 0) rfl rfl) (BW.at hP hK hE hS) rfl hl.1 rfl (Nat.le_of_ble_eq_true rfl) dX1_heirs_7 ⟨Nat.zero_le _, Nat.zero_le _⟩ ?_
  refine b_if_eq (tgt := 21) hx hb dX1_heirs_10 (by decide) (fun h1 => ?_) (fun h1 => ?_)
  · have h1 := of_decide_eq_false h1
    refine lv_aload_n hx hb dX1_heirs_21 rfl (lv_at hl 0 rfl) ?_
    refine lv_iconst (v := nI 1) hx hb dX1_heirs_22 (by decide) ?_
    refine r_callW (rest := []) Fx (m_X1_no l (D := D) (ci := ci) (cz := cz) (cj := cj) (q := q) (F := F) (P := P) (g := g) (th := nI 0) (he := he) (hn := hn) hq hF hP12 (nI 1) ) (cwV 1 Fx.2.2.2.2 gX1_heirs_X1_no rfl rfl rfl (by decide +kernel) ⟨Nat.le_of_ble_eq_true rfl, Nat.le_of_ble_eq_true rfl⟩) BW.bl (va_recv hK hP (ci := 1) (q0 := 0) rfl rfl) (BW.at hP hK hE hS) rfl hl.1 rfl (Nat.le_of_ble_eq_true rfl) dX1_heirs_23 ⟨Nat.zero_le _, Nat.zero_le _⟩ hS (fun _ h => h) (fun H locs hP hS _ _ => ?_)
    have hP : va_P D vwCl (w1 ci cz q (nI 1) F P g he hn) H := hP
    exact w_iret hx hb hr hlocks hS (⟨_, _, w1_k 1 (by simp [k_1, lv, inR, inB, Int32.not_lt, Int32.not_le, h1]) hP⟩) (rz_n 0 (by simp [k_1, lv, inR, inB, Int32.not_lt, Int32.not_le, h1])) dX1_heirs_26
  · have h1 := of_decide_eq_true h1
    obtain ⟨ja, h2, rfl⟩ := inR_of h1 (by omega)
    have h3 : ix (nI ja) = ja := ix_nI (by omega)
    refine lv_aload_n hx hb dX1_heirs_13 rfl (lv_at hl 0 rfl) ?_
    refine lv_iload_n hx hb dX1_heirs_14 rfl (lv_at hl 1 rfl) ?_
    refine r_callW (rest := []) Fx (m_X1_heirsOf l (D := D) (ci := ci) (cz := cz) (cj := cj) (q := q) (F := F) (P := P) (g := g) (th := nI 0) (he := he) (hn := hn) hq hF hP12 ja ha0 (by omega)) (cwV 1 Fx.2.2.2.2 gX1_heirs_X1_heirsOf rfl rfl rfl (by decide +kernel) ⟨Nat.le_of_ble_eq_true rfl, Nat.le_of_ble_eq_true rfl⟩) BW.bl (va_recv hK hP (ci := 1) (q0 := 0) rfl rfl) (BW.at hP hK hE hS) rfl hl.1 rfl (Nat.le_of_ble_eq_true rfl) dX1_heirs_15 ⟨Nat.zero_le _, Nat.zero_le _⟩ hS (fun _ h => h) (fun H locs hP hS _ _ => ?_)
    obtain ⟨he0, hHe, hP⟩ := hP
    have hP : va_P D vwCl (w1 ci cz q (nI 0) F P g he0 (sCHe g P ja)) H := hP
    refine lv_goto (tgt := 26) hx hb dX1_heirs_18 (by decide) ?_
    exact w_iret hx hb hr hlocks hS (⟨_, _, w1_k 0 (by simp [k_1, lv, inR, inB, Int32.not_lt, Int32.not_le, h1, h2, h3]) hP⟩) (rz_0 (by simp [k_1, lv, inR, inB, Int32.not_lt, Int32.not_le, h1, h2, h3]) (by simp [k_1, lv, h1, h2, h3])) dX1_heirs_26
set_option maxHeartbeats 4000000 in
set_option maxRecDepth 100000 in
theorem m_X1_heir (l : Launch) {D : va_G} {ci cz cj : ClassId} {q : Nat → Nat} {F P : Nat} {g : Nat → Nat → Int32} {th : Int32} {he : Nat → Int32} {hn : Nat} (hq : DQ q 9) (hF : F ≤ 6) (hP12 : P ≤ 12) (a : Int32) (x : Int32) (ha0 : Iv F P g) : Met l yX1_heir wsX1_heir ({ frames := 3, cells := 0, slots := 0, locals := 64 } : Room) (va_Pc [.ref (q 0), .int a, .int x] (B1 D ci cz cj q th F P g he hn)) (WQ (some (.int (rz (k_heir P g a x) (sFH g P (ix a) x)))) (fun H => ∃ (he : Nat → Int32) (hn : Nat), va_P D vwCl (w1 ci cz q (nI (k_heir P g a x)) F P g he hn) H) (aw q 9)) 0 0 (aw q 9) := by
  refine Met.ofWr (cc := cX1_heir) (maxL := 3) (ret := (some .int)) (by decide) rfl (Nat.le_of_ble_eq_true rfl) ?_
  intro pg en s m bl mt cd ls Fx hr hlocks hB hl
  obtain ⟨hP, hK, hE⟩ := hB
  have hl : lv_has ls 3 [(0, .ref (q 0)), (1, .int a), (2, .int x)] := hl
  have Fx : CallFix pg m cd cX1_heir 3 s _ wsX1_heir RX1 := Fx
  have hx := Fx.1
  have hb := Fx.2.1
  have hin : ∀ w ∈ wsX10, w ∈ wsX1_heir := by decide +kernel
  have hS : va_S (aw q 9) s.heap s.heap [] := va_S.rf
  have hP : va_P D vwCl (w1 ci cz q th F P g he hn) s.heap := hP
  refine lv_aload_n hx hb dX1_heir_0 rfl (lv_at hl 0 rfl) ?_
  refine lv_iconst (v := nI 0) hx hb dX1_heir_1 (by decide) ?_
  refine r_put Fx hin tyX1 tyX1_ok nmX1 hK hP (d1 hq) hS 1 rfl 0 (by decide) (by decide +kernel) rfl (by decide +kernel) rfl (Nat.le_of_ble_eq_true rfl) dX1_heir_2 (fun H locs hP hS => ?_)
  have hP : va_P D vwCl (w1 ci cz q (nI 0) F P g he hn) H := hP
  refine lv_aload_n hx hb dX1_heir_5 rfl (lv_at hl 0 rfl) ?_
  refine lv_iload_n hx hb dX1_heir_6 rfl (lv_at hl 1 rfl) ?_
  refine r_callR (rest := []) Fx (m_X1_isPerson l (D := D) (ci := ci) (cz := cz) (cj := cj) (q := q) (F := F) (P := P) (g := g) (th := nI 0) (he := he) (hn := hn) hF hP12 a ) (cwV 1 Fx.2.2.2.2 gX1_heir_X1_isPerson rfl rfl rfl (by decide +kernel) ⟨Nat.le_of_ble_eq_true rfl, Nat.le_of_ble_eq_true rfl⟩) BW.bl (va_recv hK hP (ci := 1) (q0 := 0) rfl rfl) (BW.at hP hK hE hS) rfl hl.1 rfl (Nat.le_of_ble_eq_true rfl) dX1_heir_7 ⟨Nat.zero_le _, Nat.zero_le _⟩ ?_
  refine b_if_eq (tgt := 37) hx hb dX1_heir_10 (by decide) (fun h1 => ?_) (fun h1 => ?_)
  · have h1 := of_decide_eq_false h1
    refine lv_aload_n hx hb dX1_heir_37 rfl (lv_at hl 0 rfl) ?_
    refine lv_iconst (v := nI 1) hx hb dX1_heir_38 (by decide) ?_
    refine r_callW (rest := []) Fx (m_X1_no l (D := D) (ci := ci) (cz := cz) (cj := cj) (q := q) (F := F) (P := P) (g := g) (th := nI 0) (he := he) (hn := hn) hq hF hP12 (nI 1) ) (cwV 1 Fx.2.2.2.2 gX1_heir_X1_no rfl rfl rfl (by decide +kernel) ⟨Nat.le_of_ble_eq_true rfl, Nat.le_of_ble_eq_true rfl⟩) BW.bl (va_recv hK hP (ci := 1) (q0 := 0) rfl rfl) (BW.at hP hK hE hS) rfl hl.1 rfl (Nat.le_of_ble_eq_true rfl) dX1_heir_39 ⟨Nat.zero_le _, Nat.zero_le _⟩ hS (fun _ h => h) (fun H locs hP hS _ _ => ?_)
    have hP : va_P D vwCl (w1 ci cz q (nI 1) F P g he hn) H := hP
    exact w_iret hx hb hr hlocks hS (⟨_, _, w1_k 1 (by first | (simp [k_heir, lv, inR, inB, Int32.not_lt, Int32.not_le, hf.2, h1]; done) | (simp [k_heir, inR, fh_out hP12 h1, ]; done) | (simp [k_heir, lv, inR, inB, Int32.not_lt, Int32.not_le, h1]; done)) hP⟩) (rz_n 0 (by first | (simp [k_heir, lv, inR, inB, Int32.not_lt, Int32.not_le, hf.2, h1]; done) | (simp [k_heir, inR, fh_out hP12 h1, ]; done) | (simp [k_heir, lv, inR, inB, Int32.not_lt, Int32.not_le, h1]; done))) dX1_heir_42
  · have h1 := of_decide_eq_true h1
    obtain ⟨ja, h2, rfl⟩ := inR_of h1 (by omega)
    have h3 : ix (nI ja) = ja := ix_nI (by omega)
    refine lv_iload_n hx hb dX1_heir_13 rfl (lv_at hl 2 rfl) ?_
    refine lv_iconst (v := nI 0) hx hb dX1_heir_14 (by decide) ?_
    refine lv_aload_n hx hb dX1_heir_15 rfl (lv_at hl 0 rfl) ?_
    refine lv_iload_n hx hb dX1_heir_16 rfl (lv_at hl 1 rfl) ?_
    refine r_callW (rest := [.int (nI 0), .int x]) Fx (m_X1_heirsOf l (D := D) (ci := ci) (cz := cz) (cj := cj) (q := q) (F := F) (P := P) (g := g) (th := nI 0) (he := he) (hn := hn) hq hF hP12 ja ha0 (by omega)) (cwV 1 Fx.2.2.2.2 gX1_heir_X1_heirsOf rfl rfl rfl (by decide +kernel) ⟨Nat.le_of_ble_eq_true rfl, Nat.le_of_ble_eq_true rfl⟩) BW.bl (va_recv hK hP (ci := 1) (q0 := 0) rfl rfl) (BW.at hP hK hE hS) rfl hl.1 rfl (Nat.le_of_ble_eq_true rfl) dX1_heir_17 ⟨Nat.zero_le _, Nat.zero_le _⟩ hS (fun _ h => h) (fun H locs hP hS _ _ => ?_)
    obtain ⟨he0, hHe, hP⟩ := hP
    have hP : va_P D vwCl (w1 ci cz q (nI 0) F P g he0 (sCHe g P ja)) H := hP
    have hcc : sCHe g P ja ≤ 12 := Nat.le_trans (cn_le _ _) hP12
    refine lv_iconst (v := nI 1) hx hb dX1_heir_20 (by decide) ?_
    refine lv_isub hx hb dX1_heir_21 ?_
    refine r_callRS (rest := []) Fx (m_X1_isIn l (D := D) (ci := ci) (cz := cz) (cj := cj) (q := q) (F := F) (P := P) (g := g) (th := nI 0) (he := he0) (hn := sCHe g P ja) hF hP12 x (nI 0) ((nI (sCHe g P ja)) - (nI 1)) ) (va_cwS 3 Fx.2.2.2.2 gX1_heir_X1_isIn rfl rfl rfl (by decide +kernel) ⟨Nat.le_of_ble_eq_true rfl, Nat.le_of_ble_eq_true rfl⟩) BW.bl (BW.at hP hK hE hS) rfl hl.1 rfl (Nat.le_of_ble_eq_true rfl) dX1_heir_22 ⟨Nat.zero_le _, Nat.zero_le _⟩ ?_
    rw [isI_R (by omega)]
    refine b_if_eq (tgt := 37) hx hb dX1_heir_25 (by decide) (fun h4 => ?_) (fun h4 => ?_)
    · have h4 := of_decide_eq_false h4
      refine lv_aload_n hx hb dX1_heir_37 rfl (lv_at hl 0 rfl) ?_
      refine lv_iconst (v := nI 1) hx hb dX1_heir_38 (by decide) ?_
      refine r_callW (rest := []) Fx (m_X1_no l (D := D) (ci := ci) (cz := cz) (cj := cj) (q := q) (F := F) (P := P) (g := g) (th := nI 0) (he := he0) (hn := sCHe g P ja) hq hF hP12 (nI 1) ) (cwV 1 Fx.2.2.2.2 gX1_heir_X1_no rfl rfl rfl (by decide +kernel) ⟨Nat.le_of_ble_eq_true rfl, Nat.le_of_ble_eq_true rfl⟩) BW.bl (va_recv hK hP (ci := 1) (q0 := 0) rfl rfl) (BW.at hP hK hE hS) rfl hl.1 rfl (Nat.le_of_ble_eq_true rfl) dX1_heir_39 ⟨Nat.zero_le _, Nat.zero_le _⟩ hS (fun _ h => h) (fun H locs hP hS _ _ => ?_)
      have hP : va_P D vwCl (w1 ci cz q (nI 1) F P g he0 (sCHe g P ja)) H := hP
      exact w_iret hx hb hr hlocks hS (⟨_, _, w1_k 1 (by first | (simp [k_heir, lv, inR, inB, Int32.not_lt, Int32.not_le, hf.2, h1, h2, h3, h4]; done) | (simp [k_heir, inR, fh_out hP12 h4, h1, h2, h3]; done) | (simp [k_heir, lv, inR, inB, Int32.not_lt, Int32.not_le, h1, h2, h3, h4]; done)) hP⟩) (rz_n 0 (by first | (simp [k_heir, lv, inR, inB, Int32.not_lt, Int32.not_le, hf.2, h1, h2, h3, h4]; done) | (simp [k_heir, inR, fh_out hP12 h4, h1, h2, h3]; done) | (simp [k_heir, lv, inR, inB, Int32.not_lt, Int32.not_le, h1, h2, h3, h4]; done))) dX1_heir_42
    · have h4 := of_decide_eq_true h4
      obtain ⟨jx, h5, rfl⟩ := inR_of h4 (by omega)
      have h6 : ix (nI jx) = jx := ix_nI (by omega)
      have hf := fh_in hP12 hHe (by assumption)
      refine lv_aload_n hx hb dX1_heir_28 rfl (lv_at hl 0 rfl) ?_
      refine r_get Fx hin hK hP 1 rfl 11 (by decide) (by decide +kernel) rfl rfl dX1_heir_29 ?_
      refine lv_iload_n hx hb dX1_heir_32 rfl (lv_at hl 2 rfl) ?_
      refine r_iald Fx hK hP 8 0 rfl rfl (i := jx) (by omega) (by decide) dX1_heir_33 ?_
      refine lv_goto (tgt := 42) hx hb dX1_heir_34 (by decide) ?_
      exact w_iret hx hb hr hlocks hS (⟨_, _, w1_k 0 (by first | (simp [k_heir, lv, inR, inB, Int32.not_lt, Int32.not_le, hf.2, h1, h2, h3, h4, h5, h6]; done) | (simp [k_heir, inR, fh_out hP12 h6, h1, h2, h3, h4, h5]; done) | (simp [k_heir, lv, inR, inB, Int32.not_lt, Int32.not_le, h1, h2, h3, h4, h5, h6]; done)) hP⟩) (rz_0 (by first | (simp [k_heir, lv, inR, inB, Int32.not_lt, Int32.not_le, hf.2, h1, h2, h3, h4, h5, h6]; done) | (simp [k_heir, inR, fh_out hP12 h6, h1, h2, h3, h4, h5]; done) | (simp [k_heir, lv, inR, inB, Int32.not_lt, Int32.not_le, h1, h2, h3, h4, h5, h6]; done)) (by simp only [h3, h6]; exact hf.1)) dX1_heir_42
set_option maxHeartbeats 4000000 in
set_option maxRecDepth 100000 in
theorem m_X1_inheritance (l : Launch) {D : va_G} {ci cz cj : ClassId} {q : Nat → Nat} {F P : Nat} {g : Nat → Nat → Int32} {th : Int32} {he : Nat → Int32} {hn : Nat} (hq : DQ q 9) (hF : F ≤ 6) (hP12 : P ≤ 12) (a : Int32) (b : Int32) (f : Int32) (w : Int32) (ha0 : Iv F P g) : Met l yX1_inheritance wsX1_inheritance ({ frames := 3, cells := 0, slots := 0, locals := 65 } : Room) (va_Pc [.ref (q 0), .int a, .int b, .int f, .int w] (B1 D ci cz cj q th F P g he hn)) (WQ (some (.int (rz (k_ppfw F P a b f w) (sInh g P (ix a) (ix b) (ix f) (ix w))))) (fun H => ∃ (he : Nat → Int32) (hn : Nat), va_P D vwCl (w1 ci cz q (nI (k_ppfw F P a b f w)) F P g he hn) H) (aw q 9)) 0 0 (aw q 9) := by
  refine Met.ofWr (cc := cX1_inheritance) (maxL := 6) (ret := (some .int)) (by decide) rfl (Nat.le_of_ble_eq_true rfl) ?_
  intro pg en s m bl mt cd ls Fx hr hlocks hB hl
  obtain ⟨hP, hK, hE⟩ := hB
  have hl : lv_has ls 6 [(0, .ref (q 0)), (1, .int a), (2, .int b), (3, .int f), (4, .int w)] := hl
  have Fx : CallFix pg m cd cX1_inheritance 6 s _ wsX1_inheritance RX1 := Fx
  have hx := Fx.1
  have hb := Fx.2.1
  have hin : ∀ w ∈ wsX10, w ∈ wsX1_inheritance := by decide +kernel
  have hS : va_S (aw q 9) s.heap s.heap [] := va_S.rf
  have hP : va_P D vwCl (w1 ci cz q th F P g he hn) s.heap := hP
  refine lv_aload_n hx hb dX1_inheritance_0 rfl (lv_at hl 0 rfl) ?_
  refine lv_iconst (v := nI 0) hx hb dX1_inheritance_1 (by decide) ?_
  refine r_put Fx hin tyX1 tyX1_ok nmX1 hK hP (d1 hq) hS 1 rfl 0 (by decide) (by decide +kernel) rfl (by decide +kernel) rfl (Nat.le_of_ble_eq_true rfl) dX1_inheritance_2 (fun H locs hP hS => ?_)
  have hP : va_P D vwCl (w1 ci cz q (nI 0) F P g he hn) H := hP
  refine lv_aload_n hx hb dX1_inheritance_5 rfl (lv_at hl 0 rfl) ?_
  refine lv_iload_n hx hb dX1_inheritance_6 rfl (lv_at hl 1 rfl) ?_
  refine r_callR (rest := []) Fx (m_X1_isPerson l (D := D) (ci := ci) (cz := cz) (cj := cj) (q := q) (F := F) (P := P) (g := g) (th := nI 0) (he := he) (hn := hn) hF hP12 a ) (cwV 1 Fx.2.2.2.2 gX1_inheritance_X1_isPerson rfl rfl rfl (by decide +kernel) ⟨Nat.le_of_ble_eq_true rfl, Nat.le_of_ble_eq_true rfl⟩) BW.bl (va_recv hK hP (ci := 1) (q0 := 0) rfl rfl) (BW.at hP hK hE hS) rfl hl.1 rfl (Nat.le_of_ble_eq_true rfl) dX1_inheritance_7 ⟨Nat.zero_le _, Nat.zero_le _⟩ ?_
  refine b_if_eq (tgt := 31) hx hb dX1_inheritance_10 (by decide) (fun h1 => ?_) (fun h1 => ?_)
  · have h1 := of_decide_eq_false h1
    refine lv_aload_n hx hb dX1_inheritance_31 rfl (lv_at hl 0 rfl) ?_
    refine lv_iconst (v := nI 1) hx hb dX1_inheritance_32 (by decide) ?_
    refine r_callW (rest := []) Fx (m_X1_no l (D := D) (ci := ci) (cz := cz) (cj := cj) (q := q) (F := F) (P := P) (g := g) (th := nI 0) (he := he) (hn := hn) hq hF hP12 (nI 1) ) (cwV 1 Fx.2.2.2.2 gX1_inheritance_X1_no rfl rfl rfl (by decide +kernel) ⟨Nat.le_of_ble_eq_true rfl, Nat.le_of_ble_eq_true rfl⟩) BW.bl (va_recv hK hP (ci := 1) (q0 := 0) rfl rfl) (BW.at hP hK hE hS) rfl hl.1 rfl (Nat.le_of_ble_eq_true rfl) dX1_inheritance_33 ⟨Nat.zero_le _, Nat.zero_le _⟩ hS (fun _ h => h) (fun H locs hP hS _ _ => ?_)
    have hP : va_P D vwCl (w1 ci cz q (nI 1) F P g he hn) H := hP
    exact w_iret hx hb hr hlocks hS (⟨_, _, w1_k 1 (by simp [k_ppfw, lv, inR, inB, Int32.not_lt, Int32.not_le, h1]) hP⟩) (rz_n 0 (by simp [k_ppfw, lv, inR, inB, Int32.not_lt, Int32.not_le, h1])) dX1_inheritance_36
  · have h1 := of_decide_eq_true h1
    obtain ⟨ja, h2, rfl⟩ := inR_of h1 (by omega)
    have h3 : ix (nI ja) = ja := ix_nI (by omega)
    refine lv_aload_n hx hb dX1_inheritance_13 rfl (lv_at hl 0 rfl) ?_
    refine lv_iload_n hx hb dX1_inheritance_14 rfl (lv_at hl 2 rfl) ?_
    refine r_callR (rest := []) Fx (m_X1_isPerson l (D := D) (ci := ci) (cz := cz) (cj := cj) (q := q) (F := F) (P := P) (g := g) (th := nI 0) (he := he) (hn := hn) hF hP12 b ) (cwV 1 Fx.2.2.2.2 gX1_inheritance_X1_isPerson rfl rfl rfl (by decide +kernel) ⟨Nat.le_of_ble_eq_true rfl, Nat.le_of_ble_eq_true rfl⟩) BW.bl (va_recv hK hP (ci := 1) (q0 := 0) rfl rfl) (BW.at hP hK hE hS) rfl hl.1 rfl (Nat.le_of_ble_eq_true rfl) dX1_inheritance_15 ⟨Nat.zero_le _, Nat.zero_le _⟩ ?_
    refine b_if_eq (tgt := 31) hx hb dX1_inheritance_18 (by decide) (fun h4 => ?_) (fun h4 => ?_)
    · have h4 := of_decide_eq_false h4
      refine lv_aload_n hx hb dX1_inheritance_31 rfl (lv_at hl 0 rfl) ?_
      refine lv_iconst (v := nI 1) hx hb dX1_inheritance_32 (by decide) ?_
      refine r_callW (rest := []) Fx (m_X1_no l (D := D) (ci := ci) (cz := cz) (cj := cj) (q := q) (F := F) (P := P) (g := g) (th := nI 0) (he := he) (hn := hn) hq hF hP12 (nI 1) ) (cwV 1 Fx.2.2.2.2 gX1_inheritance_X1_no rfl rfl rfl (by decide +kernel) ⟨Nat.le_of_ble_eq_true rfl, Nat.le_of_ble_eq_true rfl⟩) BW.bl (va_recv hK hP (ci := 1) (q0 := 0) rfl rfl) (BW.at hP hK hE hS) rfl hl.1 rfl (Nat.le_of_ble_eq_true rfl) dX1_inheritance_33 ⟨Nat.zero_le _, Nat.zero_le _⟩ hS (fun _ h => h) (fun H locs hP hS _ _ => ?_)
      have hP : va_P D vwCl (w1 ci cz q (nI 1) F P g he hn) H := hP
      exact w_iret hx hb hr hlocks hS (⟨_, _, w1_k 1 (by simp [k_ppfw, lv, inR, inB, Int32.not_lt, Int32.not_le, h1, h2, h3, h4]) hP⟩) (rz_n 0 (by simp [k_ppfw, lv, inR, inB, Int32.not_lt, Int32.not_le, h1, h2, h3, h4])) dX1_inheritance_36
    · have h4 := of_decide_eq_true h4
      obtain ⟨jb, h5, rfl⟩ := inR_of h4 (by omega)
      have h6 : ix (nI jb) = jb := ix_nI (by omega)
      refine lv_aload_n hx hb dX1_inheritance_21 rfl (lv_at hl 0 rfl) ?_
      refine lv_iload_n hx hb dX1_inheritance_22 rfl (lv_at hl 3 rfl) ?_
      refine lv_iload hx hb dX1_inheritance_23 (lv_at hl 4 rfl) ?_
      refine r_callR (rest := []) Fx (m_X1_isWatch l (D := D) (ci := ci) (cz := cz) (cj := cj) (q := q) (F := F) (P := P) (g := g) (th := nI 0) (he := he) (hn := hn) hF hP12 f w ) (cwV 2 Fx.2.2.2.2 gX1_inheritance_X1_isWatch rfl rfl rfl (by decide +kernel) ⟨Nat.le_of_ble_eq_true rfl, Nat.le_of_ble_eq_true rfl⟩) BW.bl (va_recv hK hP (ci := 1) (q0 := 0) rfl rfl) (BW.at hP hK hE hS) rfl hl.1 rfl (Nat.le_of_ble_eq_true rfl) dX1_inheritance_25 ⟨Nat.zero_le _, Nat.zero_le _⟩ ?_
      refine b_if_ne (tgt := 37) hx hb dX1_inheritance_28 (by decide) (fun h7 => ?_) (fun h7 => ?_)
      · have h7 := of_decide_eq_true h7
        obtain ⟨h8, h9⟩ := h7
        obtain ⟨jf, h10, rfl⟩ := inR_of h8 (by omega)
        have h11 : ix (nI jf) = jf := ix_nI (by omega)
        obtain ⟨jw, h12, rfl⟩ := inR_of h9 (by omega)
        have h13 : ix (nI jw) = jw := ix_nI (by omega)
        refine lv_aload_n hx hb dX1_inheritance_37 rfl (lv_at hl 0 rfl) ?_
        refine lv_iload_n hx hb dX1_inheritance_38 rfl (lv_at hl 1 rfl) ?_
        refine r_callW (rest := []) Fx (m_X1_lookForHeirs l (D := D) (ci := ci) (cz := cz) (cj := cj) (q := q) (F := F) (P := P) (g := g) (th := nI 0) (he := he) (hn := hn) hq hF hP12 ja ha0 (by omega)) (cwV 1 Fx.2.2.2.2 gX1_inheritance_X1_lookForHeirs rfl rfl rfl (by decide +kernel) ⟨Nat.le_of_ble_eq_true rfl, Nat.le_of_ble_eq_true rfl⟩) BW.bl (va_recv hK hP (ci := 1) (q0 := 0) rfl rfl) (BW.at hP hK hE hS) rfl hl.1 rfl (Nat.le_of_ble_eq_true rfl) dX1_inheritance_39 ⟨Nat.zero_le _, Nat.zero_le _⟩ hS (fun _ h => h) (fun H locs hP hS _ _ => ?_)
        obtain ⟨he0, hHe, hP⟩ := hP
        have hP : va_P D vwCl (w1 ci cz q (nI 0) F P g he0 (sCHe g P ja)) H := hP
        have hcc : sCHe g P ja ≤ 12 := Nat.le_trans (cn_le _ _) hP12
        refine lv_iconst (v := nI 0) hx hb dX1_inheritance_42 (by decide) ?_
        refine lv_istore (lv' := [(5, .int (nI 0)), (0, .ref (q 0)), (1, .int (nI ja)), (2, .int (nI jb)), (3, .int (nI jf)), (4, .int (nI jw))]) hx hb dX1_inheritance_43 hl (by decide) rfl (fun ls hl => ?_)
        refine rloop (nL := 6) (N := sCHe g P ja) (fun i => ∀ z, z < i → ¬ he0 z = nI jb) (fun i => [(0, .ref (q 0)), (1, .int (nI ja)), (2, .int (nI jb)), (3, .int (nI jf)), (4, .int (nI jw)), (5, .int (nI i))]) (all_0) (lv_sub hl [1, 2, 3, 4, 5, 0] rfl) ?_ ?_
        · intro h14 ls hl
          have hl : lv_has ls 6 [(0, .ref (q 0)), (1, .int (nI ja)), (2, .int (nI jb)), (3, .int (nI jf)), (4, .int (nI jw)), (5, .int (nI (sCHe g P ja)))] := hl
          refine lv_iload hx hb dX1_inheritance_45 (lv_at hl 5 rfl) ?_
          refine lv_aload_n hx hb dX1_inheritance_47 rfl (lv_at hl 0 rfl) ?_
          refine r_get Fx hin hK hP 1 rfl 12 (by decide) (by decide +kernel) rfl rfl dX1_inheritance_48 ?_
          refine n_icmp_ge (tgt := 90) hx hb (by omega) (by omega) dX1_inheritance_51 (by decide) (fun h15 => ?_) (fun h15 => by omega)
          refine lv_iconst (v := nI 0) hx hb dX1_inheritance_90 (by decide) ?_
          exact w_iret hx hb hr hlocks hS (⟨_, _, w1_k 0 (by simp [k_ppfw, lv, inR, inB, Int32.not_lt, Int32.not_le, h1, h2, h3, h4, h5, h6, h8, h9, h10, h11, h12, h13, h14, h15]) hP⟩) (rz_0 (by simp [k_ppfw, lv, inR, inB, Int32.not_lt, Int32.not_le, h1, h2, h3, h4, h5, h6, h8, h9, h10, h11, h12, h13, h14, h15]) (by simp only [h3, h6, h11, h13]; exact inh_no hHe (by assumption) h14)) dX1_inheritance_91
        · intro i h17 h16 ih45 ls hl
          have hl : lv_has ls 6 [(0, .ref (q 0)), (1, .int (nI ja)), (2, .int (nI jb)), (3, .int (nI jf)), (4, .int (nI jw)), (5, .int (nI i))] := hl
          refine lv_iload hx hb dX1_inheritance_45 (lv_at hl 5 rfl) ?_
          refine lv_aload_n hx hb dX1_inheritance_47 rfl (lv_at hl 0 rfl) ?_
          refine r_get Fx hin hK hP 1 rfl 12 (by decide) (by decide +kernel) rfl rfl dX1_inheritance_48 ?_
          refine n_icmp_ge (tgt := 90) hx hb (by omega) (by omega) dX1_inheritance_51 (by decide) (fun h18 => by omega) (fun h18 => ?_)
          refine lv_aload_n hx hb dX1_inheritance_54 rfl (lv_at hl 0 rfl) ?_
          refine r_get Fx hin hK hP 1 rfl 11 (by decide) (by decide +kernel) rfl rfl dX1_inheritance_55 ?_
          refine lv_iload hx hb dX1_inheritance_58 (lv_at hl 5 rfl) ?_
          refine r_iald Fx hK hP 8 0 rfl rfl (i := i) (by omega) (by decide) dX1_inheritance_60 ?_
          refine lv_iload_n hx hb dX1_inheritance_61 rfl (lv_at hl 2 rfl) ?_
          refine lv_icmp_ne (tgt := 84) hx hb dX1_inheritance_62 (by decide) (fun h19 => ?_) (fun h19 => ?_)
          · refine lv_iinc (v := nI (i + 1)) (lv' := [(5, .int (nI (i + 1))), (0, .ref (q 0)), (1, .int (nI ja)), (2, .int (nI jb)), (3, .int (nI jf)), (4, .int (nI jw))]) hx hb dX1_inheritance_84 hl (k := 5) rfl (nI_inc _ 1) (by decide) rfl (fun ls hl => ?_)
            refine lv_goto (tgt := 45) hx hb dX1_inheritance_87 (by decide) ?_
            exact ih45 (all_s h16 h19) _ (lv_sub hl [1, 2, 3, 4, 5, 0] rfl)
          · refine lv_aload_n hx hb dX1_inheritance_65 rfl (lv_at hl 0 rfl) ?_
            refine lv_aload_n hx hb dX1_inheritance_66 rfl (lv_at hl 0 rfl) ?_
            refine r_get Fx hin hK hP 1 rfl 4 (by decide) (by decide +kernel) rfl rfl dX1_inheritance_67 ?_
            refine lv_iload_n hx hb dX1_inheritance_70 rfl (lv_at hl 3 rfl) ?_
            refine lv_iload hx hb dX1_inheritance_71 (lv_at hl 4 rfl) ?_
            refine lv_iload_n hx hb dX1_inheritance_73 rfl (lv_at hl 1 rfl) ?_
            refine r_callRS (rest := [.ref (q 3), .ref (q 0)]) Fx (m_X1_at l (D := D) (ci := ci) (cz := cz) (cj := cj) (q := q) (F := F) (P := P) (g := g) (th := nI 0) (he := he0) (hn := sCHe g P ja) hF hP12 jf jw ja ) (va_cwS 3 Fx.2.2.2.2 gX1_inheritance_X1_at rfl rfl rfl (by decide +kernel) ⟨Nat.le_of_ble_eq_true rfl, Nat.le_of_ble_eq_true rfl⟩) BW.bl (BW.at hP hK hE hS) rfl hl.1 rfl (Nat.le_of_ble_eq_true rfl) dX1_inheritance_74 ⟨Nat.zero_le _, Nat.zero_le _⟩ ?_
            refine r_iald Fx hK hP 3 0 rfl rfl (i := sl jf jw ja) (sl_lt (by omega) (by omega) (by omega)) (by decide) dX1_inheritance_77 ?_
            refine r_as (own g jf jw ja) rfl ?_
            refine lv_iload hx hb dX1_inheritance_78 (lv_at hl 5 rfl) ?_
            refine r_callR (rest := []) Fx (m_X1_partOf l (D := D) (ci := ci) (cz := cz) (cj := cj) (q := q) (F := F) (P := P) (g := g) (th := nI 0) (he := he0) (hn := sCHe g P ja) hF hP12 (own g jf jw ja) i (by omega) (by omega) (by omega)) (cwV 2 Fx.2.2.2.2 gX1_inheritance_X1_partOf rfl rfl rfl (by decide +kernel) ⟨Nat.le_of_ble_eq_true rfl, Nat.le_of_ble_eq_true rfl⟩) BW.bl (va_recv hK hP (ci := 1) (q0 := 0) rfl rfl) (BW.at hP hK hE hS) rfl hl.1 rfl (Nat.le_of_ble_eq_true rfl) dX1_inheritance_80 ⟨Nat.zero_le _, Nat.zero_le _⟩ ?_
            exact w_iret hx hb hr hlocks hS (⟨_, _, w1_k 0 (by simp [k_ppfw, lv, inR, inB, Int32.not_lt, Int32.not_le, h1, h2, h3, h4, h5, h6, h8, h9, h10, h11, h12, h13, h16, h17, h18, h19]) hP⟩) (rz_0 (by simp [k_ppfw, lv, inR, inB, Int32.not_lt, Int32.not_le, h1, h2, h3, h4, h5, h6, h8, h9, h10, h11, h12, h13, h16, h17, h18, h19]) (by simp only [h3, h6, h11, h13]; exact inh_yes hP12 hHe (by assumption) (by omega) h19)) dX1_inheritance_83
      · have h7 := of_decide_eq_false h7
        rcases Classical.not_and_iff_not_or_not.mp h7 with h7 | h7
        · refine lv_aload_n hx hb dX1_inheritance_31 rfl (lv_at hl 0 rfl) ?_
          refine lv_iconst (v := nI 1) hx hb dX1_inheritance_32 (by decide) ?_
          refine r_callW (rest := []) Fx (m_X1_no l (D := D) (ci := ci) (cz := cz) (cj := cj) (q := q) (F := F) (P := P) (g := g) (th := nI 0) (he := he) (hn := hn) hq hF hP12 (nI 1) ) (cwV 1 Fx.2.2.2.2 gX1_inheritance_X1_no rfl rfl rfl (by decide +kernel) ⟨Nat.le_of_ble_eq_true rfl, Nat.le_of_ble_eq_true rfl⟩) BW.bl (va_recv hK hP (ci := 1) (q0 := 0) rfl rfl) (BW.at hP hK hE hS) rfl hl.1 rfl (Nat.le_of_ble_eq_true rfl) dX1_inheritance_33 ⟨Nat.zero_le _, Nat.zero_le _⟩ hS (fun _ h => h) (fun H locs hP hS _ _ => ?_)
          have hP : va_P D vwCl (w1 ci cz q (nI 1) F P g he hn) H := hP
          exact w_iret hx hb hr hlocks hS (⟨_, _, w1_k 1 (by simp [k_ppfw, lv, inR, inB, Int32.not_lt, Int32.not_le, h1, h2, h3, h4, h5, h6, h7]) hP⟩) (rz_n 0 (by simp [k_ppfw, lv, inR, inB, Int32.not_lt, Int32.not_le, h1, h2, h3, h4, h5, h6, h7])) dX1_inheritance_36
        · refine lv_aload_n hx hb dX1_inheritance_31 rfl (lv_at hl 0 rfl) ?_
          refine lv_iconst (v := nI 1) hx hb dX1_inheritance_32 (by decide) ?_
          refine r_callW (rest := []) Fx (m_X1_no l (D := D) (ci := ci) (cz := cz) (cj := cj) (q := q) (F := F) (P := P) (g := g) (th := nI 0) (he := he) (hn := hn) hq hF hP12 (nI 1) ) (cwV 1 Fx.2.2.2.2 gX1_inheritance_X1_no rfl rfl rfl (by decide +kernel) ⟨Nat.le_of_ble_eq_true rfl, Nat.le_of_ble_eq_true rfl⟩) BW.bl (va_recv hK hP (ci := 1) (q0 := 0) rfl rfl) (BW.at hP hK hE hS) rfl hl.1 rfl (Nat.le_of_ble_eq_true rfl) dX1_inheritance_33 ⟨Nat.zero_le _, Nat.zero_le _⟩ hS (fun _ h => h) (fun H locs hP hS _ _ => ?_)
          have hP : va_P D vwCl (w1 ci cz q (nI 1) F P g he hn) H := hP
          exact w_iret hx hb hr hlocks hS (⟨_, _, w1_k 1 (by simp [k_ppfw, lv, inR, inB, Int32.not_lt, Int32.not_le, h1, h2, h3, h4, h5, h6, h7]) hP⟩) (rz_n 0 (by simp [k_ppfw, lv, inR, inB, Int32.not_lt, Int32.not_le, h1, h2, h3, h4, h5, h6, h7])) dX1_inheritance_36
set_option maxHeartbeats 4000000 in
set_option maxRecDepth 100000 in
theorem m_X1_richest (l : Launch) {D : va_G} {ci cz cj : ClassId} {q : Nat → Nat} {F P : Nat} {g : Nat → Nat → Int32} {th : Int32} {he : Nat → Int32} {hn : Nat} (hq : DQ q 9) (hF : F ≤ 6) (hP12 : P ≤ 12) (ha0 : Iv F P g) : Met l yX1_richest wsX1_richest ({ frames := 1, cells := 0, slots := 0, locals := 21 } : Room) (va_Pc [.ref (q 0)] (B1 D ci cz cj q th F P g he hn)) (WQ (some (.int (rz (k_richest P g) (sRic g P)))) (fun H => ∃ (he : Nat → Int32) (hn : Nat), va_P D vwCl (w1 ci cz q (nI (k_richest P g)) F P g he hn) H) (aw q 9)) 0 0 (aw q 9) := by
  refine Met.ofWr (cc := cX1_richest) (maxL := 3) (ret := (some .int)) (by decide) rfl (Nat.le_of_ble_eq_true rfl) ?_
  intro pg en s m bl mt cd ls Fx hr hlocks hB hl
  obtain ⟨hP, hK, hE⟩ := hB
  have hl : lv_has ls 3 [(0, .ref (q 0))] := hl
  have Fx : CallFix pg m cd cX1_richest 3 s _ wsX1_richest RX1 := Fx
  have hx := Fx.1
  have hb := Fx.2.1
  have hin : ∀ w ∈ wsX10, w ∈ wsX1_richest := by decide +kernel
  have hS : va_S (aw q 9) s.heap s.heap [] := va_S.rf
  have hP : va_P D vwCl (w1 ci cz q th F P g he hn) s.heap := hP
  refine lv_aload_n hx hb dX1_richest_0 rfl (lv_at hl 0 rfl) ?_
  refine lv_iconst (v := nI 0) hx hb dX1_richest_1 (by decide) ?_
  refine r_put Fx hin tyX1 tyX1_ok nmX1 hK hP (d1 hq) hS 1 rfl 0 (by decide) (by decide +kernel) rfl (by decide +kernel) rfl (Nat.le_of_ble_eq_true rfl) dX1_richest_2 (fun H locs hP hS => ?_)
  have hP : va_P D vwCl (w1 ci cz q (nI 0) F P g he hn) H := hP
  refine lv_iconst (v := -1) hx hb dX1_richest_5 (by decide) ?_
  refine lv_istore_n (lv' := [(1, .int (-1)), (0, .ref (q 0))]) hx hb dX1_richest_6 rfl hl (by decide) rfl (fun ls hl => ?_)
  refine lv_iconst (v := nI 0) hx hb dX1_richest_7 (by decide) ?_
  refine lv_istore_n (lv' := [(2, .int (nI 0)), (1, .int (-1)), (0, .ref (q 0))]) hx hb dX1_richest_8 rfl hl (by decide) rfl (fun ls hl => ?_)
  refine rloop (nL := 3) (N := P) (fun _ => True) (fun i => [(0, .ref (q 0)), (1, .int ((ri (fun z => lv g z) (fun z => g 4 z) i).1)), (2, .int (nI i))]) (trivial) (lv_sub hl [2, 1, 0] rfl) ?_ ?_
  · intro h1 ls hl
    have hl : lv_has ls 3 [(0, .ref (q 0)), (1, .int ((ri (fun z => lv g z) (fun z => g 4 z) P).1)), (2, .int (nI P))] := hl
    refine lv_iload_n hx hb dX1_richest_9 rfl (lv_at hl 2 rfl) ?_
    refine lv_aload_n hx hb dX1_richest_10 rfl (lv_at hl 0 rfl) ?_
    refine r_get Fx hin hK hP 1 rfl 5 (by decide) (by decide +kernel) rfl rfl dX1_richest_11 ?_
    refine n_icmp_ge (tgt := 54) hx hb (by omega) (by omega) dX1_richest_14 (by decide) (fun h2 => ?_) (fun h2 => by omega)
    refine lv_iload_n hx hb dX1_richest_54 rfl (lv_at hl 1 rfl) ?_
    refine lv_iconst (v := -1) hx hb dX1_richest_55 (by decide) ?_
    refine lv_icmp_ne (tgt := 67) hx hb dX1_richest_56 (by decide) (fun h3 => ?_) (fun h3 => ?_)
    · refine lv_iload_n hx hb dX1_richest_67 rfl (lv_at hl 1 rfl) ?_
      exact w_iret hx hb hr hlocks hS (⟨_, _, w1_k 0 (by simp [k_richest, sRic, h2, h3]) hP⟩) (rz_0 (by simp [k_richest, sRic, h2, h3]) rfl) dX1_richest_68
    · refine lv_aload_n hx hb dX1_richest_59 rfl (lv_at hl 0 rfl) ?_
      refine lv_iconst (v := nI 1) hx hb dX1_richest_60 (by decide) ?_
      refine r_callW (rest := []) Fx (m_X1_no l (D := D) (ci := ci) (cz := cz) (cj := cj) (q := q) (F := F) (P := P) (g := g) (th := nI 0) (he := he) (hn := hn) hq hF hP12 (nI 1) ) (cwV 1 Fx.2.2.2.2 gX1_richest_X1_no rfl rfl rfl (by decide +kernel) ⟨Nat.le_of_ble_eq_true rfl, Nat.le_of_ble_eq_true rfl⟩) BW.bl (va_recv hK hP (ci := 1) (q0 := 0) rfl rfl) (BW.at hP hK hE hS) rfl hl.1 rfl (Nat.le_of_ble_eq_true rfl) dX1_richest_61 ⟨Nat.zero_le _, Nat.zero_le _⟩ hS (fun _ h => h) (fun H locs hP hS _ _ => ?_)
      have hP : va_P D vwCl (w1 ci cz q (nI 1) F P g he hn) H := hP
      refine lv_goto (tgt := 68) hx hb dX1_richest_64 (by decide) ?_
      exact w_iret hx hb hr hlocks hS (⟨_, _, w1_k 1 (by simp [k_richest, sRic, h2, h3]) hP⟩) (rz_n 0 (by simp [k_richest, sRic, h2, h3])) dX1_richest_68
  · intro i h5 h4 ih9 ls hl
    have hl : lv_has ls 3 [(0, .ref (q 0)), (1, .int ((ri (fun z => lv g z) (fun z => g 4 z) i).1)), (2, .int (nI i))] := hl
    refine lv_iload_n hx hb dX1_richest_9 rfl (lv_at hl 2 rfl) ?_
    refine lv_aload_n hx hb dX1_richest_10 rfl (lv_at hl 0 rfl) ?_
    refine r_get Fx hin hK hP 1 rfl 5 (by decide) (by decide +kernel) rfl rfl dX1_richest_11 ?_
    refine n_icmp_ge (tgt := 54) hx hb (by omega) (by omega) dX1_richest_14 (by decide) (fun h6 => by omega) (fun h6 => ?_)
    have hz4 := iv_c1 ha0 i
    refine lv_aload_n hx hb dX1_richest_17 rfl (lv_at hl 0 rfl) ?_
    refine r_get Fx hin hK hP 1 rfl 9 (by decide) (by decide +kernel) rfl rfl dX1_richest_18 ?_
    refine lv_iload_n hx hb dX1_richest_21 rfl (lv_at hl 2 rfl) ?_
    refine r_zald Fx hK hP 4 1 rfl rfl (i := i) (by omega) (by decide) dX1_richest_22 ?_
    refine lv_if_ne (tgt := 48) hx hb dX1_richest_23 (by decide) (fun h7 => ?_) (fun h7 => ?_)
    · refine lv_iinc (v := nI (i + 1)) (lv' := [(2, .int (nI (i + 1))), (0, .ref (q 0)), (1, .int ((ri (fun z => lv g z) (fun z => g 4 z) i).1))]) hx hb dX1_richest_48 hl (k := 2) rfl (nI_inc _ 1) (by decide) rfl (fun ls hl => ?_)
      refine lv_goto (tgt := 9) hx hb dX1_richest_51 (by decide) ?_
      have e1_ : (ri (fun z => lv g z) (fun z => g 4 z) i).1 = (ri (fun z => lv g z) (fun z => g 4 z) (i + 1)).1 := by first | (simp [ri, lv, h5, h6, h7]; done) | (rw [ri_z (by rw [hj3]; exact Int32.not_lt.mpr (by assumption))]) | (rw [ri_y (by simp [lv, h5, h6, h7]) (by rw [hj3]; assumption)]) | (rw [ri_y (by simp [lv, h5, h6, h7]) (by rw [hn1]; exact hz4)])
      rw [e1_] at hl
      exact ih9 (trivial) _ (lv_sub hl [1, 2, 0] rfl)
    · refine lv_iload_n hx hb dX1_richest_26 rfl (lv_at hl 1 rfl) ?_
      refine lv_iconst (v := -1) hx hb dX1_richest_27 (by decide) ?_
      refine lv_icmp_eq (tgt := 46) hx hb dX1_richest_28 (by decide) (fun h8 => ?_) (fun h8 => ?_)
      · have hn1 := ri_n1 (b := (fun z => lv g z)) (f := (fun z => g 4 z)) (n := i) (by omega) h8
        refine lv_iload_n hx hb dX1_richest_46 rfl (lv_at hl 2 rfl) ?_
        refine lv_istore_n (lv' := [(1, .int (nI i)), (0, .ref (q 0)), (2, .int (nI i))]) hx hb dX1_richest_47 rfl hl (by decide) rfl (fun ls hl => ?_)
        refine lv_iinc (v := nI (i + 1)) (lv' := [(2, .int (nI (i + 1))), (1, .int (nI i)), (0, .ref (q 0))]) hx hb dX1_richest_48 hl (k := 2) rfl (nI_inc _ 1) (by decide) rfl (fun ls hl => ?_)
        refine lv_goto (tgt := 9) hx hb dX1_richest_51 (by decide) ?_
        have e1_ : nI i = (ri (fun z => lv g z) (fun z => g 4 z) (i + 1)).1 := by first | (simp [ri, lv, h5, h6, h7, h8]; done) | (rw [ri_z (by rw [hj3]; exact Int32.not_lt.mpr (by assumption))]) | (rw [ri_y (by simp [lv, h5, h6, h7, h8]) (by rw [hj3]; assumption)]) | (rw [ri_y (by simp [lv, h5, h6, h7, h8]) (by rw [hn1]; exact hz4)])
        rw [e1_] at hl
        exact ih9 (trivial) _ (lv_sub hl [2, 1, 0] rfl)
      · obtain ⟨j, hj1, hj2, hj3⟩ := (ri_pos (fun z => lv g z) (fun z => g 4 z) i).resolve_left (fun e => (by assumption : ¬ (ri (fun z => lv g z) (fun z => g 4 z) i).1 = -1) e.1)
        refine lv_aload_n hx hb dX1_richest_31 rfl (lv_at hl 0 rfl) ?_
        refine r_get Fx hin hK hP 1 rfl 6 (by decide) (by decide +kernel) rfl rfl dX1_richest_32 ?_
        refine lv_iload_n hx hb dX1_richest_35 rfl (lv_at hl 2 rfl) ?_
        refine r_iald Fx hK hP 5 0 rfl rfl (i := i) (by omega) (by decide) dX1_richest_36 ?_
        refine lv_aload_n hx hb dX1_richest_37 rfl (lv_at hl 0 rfl) ?_
        refine r_get Fx hin hK hP 1 rfl 6 (by decide) (by decide +kernel) rfl rfl dX1_richest_38 ?_
        refine lv_iload_n hx hb dX1_richest_41 rfl (lv_at hl 1 rfl) ?_
        refine r_as (nI j) hj2 ?_
        refine r_iald Fx hK hP 5 0 rfl rfl (i := j) (by omega) (by decide) dX1_richest_42 ?_
        refine lv_icmp_le (tgt := 48) hx hb dX1_richest_43 (by decide) (fun h9 => ?_) (fun h9 => ?_)
        · refine lv_iinc (v := nI (i + 1)) (lv' := [(2, .int (nI (i + 1))), (0, .ref (q 0)), (1, .int ((ri (fun z => lv g z) (fun z => g 4 z) i).1))]) hx hb dX1_richest_48 hl (k := 2) rfl (nI_inc _ 1) (by decide) rfl (fun ls hl => ?_)
          refine lv_goto (tgt := 9) hx hb dX1_richest_51 (by decide) ?_
          have e1_ : (ri (fun z => lv g z) (fun z => g 4 z) i).1 = (ri (fun z => lv g z) (fun z => g 4 z) (i + 1)).1 := by first | (simp [ri, lv, h5, h6, h7, h8, h9, Int32.not_lt.mpr h9]; done) | (rw [ri_z (by rw [hj3]; exact Int32.not_lt.mpr (by assumption))]) | (rw [ri_y (by simp [lv, h5, h6, h7, h8, h9, Int32.not_lt.mpr h9]) (by rw [hj3]; assumption)]) | (rw [ri_y (by simp [lv, h5, h6, h7, h8, h9, Int32.not_lt.mpr h9]) (by rw [hn1]; exact hz4)])
          rw [e1_] at hl
          exact ih9 (trivial) _ (lv_sub hl [1, 2, 0] rfl)
        · have h9 := Int32.not_le.mp h9
          refine lv_iload_n hx hb dX1_richest_46 rfl (lv_at hl 2 rfl) ?_
          refine lv_istore_n (lv' := [(1, .int (nI i)), (0, .ref (q 0)), (2, .int (nI i))]) hx hb dX1_richest_47 rfl hl (by decide) rfl (fun ls hl => ?_)
          refine lv_iinc (v := nI (i + 1)) (lv' := [(2, .int (nI (i + 1))), (1, .int (nI i)), (0, .ref (q 0))]) hx hb dX1_richest_48 hl (k := 2) rfl (nI_inc _ 1) (by decide) rfl (fun ls hl => ?_)
          refine lv_goto (tgt := 9) hx hb dX1_richest_51 (by decide) ?_
          have e1_ : nI i = (ri (fun z => lv g z) (fun z => g 4 z) (i + 1)).1 := by first | (simp [ri, lv, h5, h6, h7, h8, h9, Int32.not_le.mpr h9]; done) | (rw [ri_z (by rw [hj3]; exact Int32.not_lt.mpr (by assumption))]) | (rw [ri_y (by simp [lv, h5, h6, h7, h8, h9, Int32.not_le.mpr h9]) (by rw [hj3]; assumption)]) | (rw [ri_y (by simp [lv, h5, h6, h7, h8, h9, Int32.not_le.mpr h9]) (by rw [hn1]; exact hz4)])
          rw [e1_] at hl
          exact ih9 (trivial) _ (lv_sub hl [2, 1, 0] rfl)
set_option maxHeartbeats 4000000 in
set_option maxRecDepth 100000 in
theorem m_X1_digest (l : Launch) {D : va_G} {ci cz cj : ClassId} {q : Nat → Nat} {F P : Nat} {g : Nat → Nat → Int32} {th : Int32} {he : Nat → Int32} {hn : Nat} (hq : DQ q 9) (hF : F ≤ 6) (hP12 : P ≤ 12) (ha0 : Iv F P g) : Met l yX1_digest wsX1_digest ({ frames := 3, cells := 0, slots := 0, locals := 69 } : Room) (va_Pc [.ref (q 0)] (B1 D ci cz cj q th F P g he hn)) (WQ (some (.long (sDig g F P))) (fun H => ∃ (he : Nat → Int32) (hn : Nat), va_P D vwCl (w1 ci cz q (nI 0) F P g he hn) H) (aw q 9)) 0 0 (aw q 9) := by
  refine Met.ofWr (cc := cX1_digest) (maxL := 6) (ret := (some .long)) (by decide) rfl (Nat.le_of_ble_eq_true rfl) ?_
  intro pg en s m bl mt cd ls Fx hr hlocks hB hl
  obtain ⟨hP, hK, hE⟩ := hB
  have hl : lv_has ls 6 [(0, .ref (q 0))] := hl
  have Fx : CallFix pg m cd cX1_digest 6 s _ wsX1_digest RX1 := Fx
  have hx := Fx.1
  have hb := Fx.2.1
  have hin : ∀ w ∈ wsX10, w ∈ wsX1_digest := by decide +kernel
  have hS : va_S (aw q 9) s.heap s.heap [] := va_S.rf
  have hP : va_P D vwCl (w1 ci cz q th F P g he hn) s.heap := hP
  refine lv_aload_n hx hb dX1_digest_0 rfl (lv_at hl 0 rfl) ?_
  refine lv_iconst (v := nI 0) hx hb dX1_digest_1 (by decide) ?_
  refine r_put Fx hin tyX1 tyX1_ok nmX1 hK hP (d1 hq) hS 1 rfl 0 (by decide) (by decide +kernel) rfl (by decide +kernel) rfl (Nat.le_of_ble_eq_true rfl) dX1_digest_2 (fun H locs hP hS => ?_)
  have hP : va_P D vwCl (w1 ci cz q (nI 0) F P g he hn) H := hP
  refine lv_ldc2 hx hb Fx.2.2.2.1 (Fx.2.2.2.2 (.constantLong RX1 142 (1861)) (by decide +kernel)) dX1_digest_5 ?_
  refine lv_lstore_n (lv' := [(1, .long (1861 : Int64)), (0, .ref (q 0))]) hx hb dX1_digest_8 rfl hl (by decide) rfl (fun ls hl => ?_)
  refine lv_lload_n hx hb dX1_digest_9 rfl (lv_at hl 0 rfl) ?_
  refine lv_ldc2 hx hb Fx.2.2.2.1 (Fx.2.2.2.2 (.constantLong RX1 144 (31)) (by decide +kernel)) dX1_digest_10 ?_
  refine lv_lmul hx hb dX1_digest_13 ?_
  refine lv_aload_n hx hb dX1_digest_14 rfl (lv_at hl 1 rfl) ?_
  refine r_get Fx hin hK hP 1 rfl 1 (by decide) (by decide +kernel) rfl rfl dX1_digest_15 ?_
  refine lv_i2l hx hb dX1_digest_18 rfl ?_
  refine lv_ladd hx hb dX1_digest_19 ?_
  refine lv_ldc2 hx hb Fx.2.2.2.1 (Fx.2.2.2.2 (.constantLong RX1 144 (31)) (by decide +kernel)) dX1_digest_20 ?_
  refine lv_lmul hx hb dX1_digest_23 ?_
  refine lv_aload_n hx hb dX1_digest_24 rfl (lv_at hl 1 rfl) ?_
  refine r_get Fx hin hK hP 1 rfl 5 (by decide) (by decide +kernel) rfl rfl dX1_digest_25 ?_
  refine lv_i2l hx hb dX1_digest_28 rfl ?_
  refine lv_ladd hx hb dX1_digest_29 ?_
  refine lv_lstore_n (lv' := [(1, .long (((((1861 : Int64) * (31 : Int64)) + ((nI F).toInt64)) * (31 : Int64)) + ((nI P).toInt64))), (0, .ref (q 0))]) hx hb dX1_digest_30 rfl hl (by decide) rfl (fun ls hl => ?_)
  refine lv_lload_n hx hb dX1_digest_31 rfl (lv_at hl 0 rfl) ?_
  refine lv_ldc2 hx hb Fx.2.2.2.1 (Fx.2.2.2.2 (.constantLong RX1 144 (31)) (by decide +kernel)) dX1_digest_32 ?_
  refine lv_lmul hx hb dX1_digest_35 ?_
  refine lv_aload_n hx hb dX1_digest_36 rfl (lv_at hl 1 rfl) ?_
  refine r_callR (rest := [.long ((((((1861 : Int64) * (31 : Int64)) + ((nI F).toInt64)) * (31 : Int64)) + ((nI P).toInt64)) * (31 : Int64))]) Fx (m_X1_alive l (D := D) (ci := ci) (cz := cz) (cj := cj) (q := q) (F := F) (P := P) (g := g) (th := nI 0) (he := he) (hn := hn) hF hP12  ) (cwV 0 Fx.2.2.2.2 gX1_digest_X1_alive rfl rfl rfl (by decide +kernel) ⟨Nat.le_of_ble_eq_true rfl, Nat.le_of_ble_eq_true rfl⟩) BW.bl (va_recv hK hP (ci := 1) (q0 := 0) rfl rfl) (BW.at hP hK hE hS) rfl hl.1 rfl (Nat.le_of_ble_eq_true rfl) dX1_digest_37 ⟨Nat.zero_le _, Nat.zero_le _⟩ ?_
  refine lv_i2l hx hb dX1_digest_40 rfl ?_
  refine lv_ladd hx hb dX1_digest_41 ?_
  refine lv_ldc2 hx hb Fx.2.2.2.1 (Fx.2.2.2.2 (.constantLong RX1 144 (31)) (by decide +kernel)) dX1_digest_42 ?_
  refine lv_lmul hx hb dX1_digest_45 ?_
  refine lv_aload_n hx hb dX1_digest_46 rfl (lv_at hl 1 rfl) ?_
  refine r_get Fx hin hK hP 1 rfl 10 (by decide) (by decide +kernel) rfl rfl dX1_digest_47 ?_
  refine lv_i2l hx hb dX1_digest_50 rfl ?_
  refine lv_ladd hx hb dX1_digest_51 ?_
  refine lv_lstore_n (lv' := [(1, .long (((((((((1861 : Int64) * (31 : Int64)) + ((nI F).toInt64)) * (31 : Int64)) + ((nI P).toInt64)) * (31 : Int64)) + ((nI (sLiv g P)).toInt64)) * (31 : Int64)) + ((g 7 0).toInt64))), (0, .ref (q 0))]) hx hb dX1_digest_52 rfl hl (by decide) rfl (fun ls hl => ?_)
  refine lv_iconst (v := nI 0) hx hb dX1_digest_53 (by decide) ?_
  refine lv_istore_n (lv' := [(3, .int (nI 0)), (1, .long (((((((((1861 : Int64) * (31 : Int64)) + ((nI F).toInt64)) * (31 : Int64)) + ((nI P).toInt64)) * (31 : Int64)) + ((nI (sLiv g P)).toInt64)) * (31 : Int64)) + ((g 7 0).toInt64))), (0, .ref (q 0))]) hx hb dX1_digest_54 rfl hl (by decide) rfl (fun ls hl => ?_)
  refine rloop (nL := 6) (N := F) (fun _ => True) (fun i => [(0, .ref (q 0)), (1, .long (fo (fun d f => sDF g P d f) (sDig0 g F P) i)), (3, .int (nI i))]) (trivial) (lv_sub hl [2, 1, 0] rfl) ?_ ?_
  · intro h1 ls hl
    have hl : lv_has ls 6 [(0, .ref (q 0)), (1, .long (fo (fun d f => sDF g P d f) (sDig0 g F P) F)), (3, .int (nI F))] := hl
    refine lv_iload_n hx hb dX1_digest_55 rfl (lv_at hl 2 rfl) ?_
    refine lv_aload_n hx hb dX1_digest_56 rfl (lv_at hl 0 rfl) ?_
    refine r_get Fx hin hK hP 1 rfl 1 (by decide) (by decide +kernel) rfl rfl dX1_digest_57 ?_
    refine n_icmp_ge (tgt := 149) hx hb (by omega) (by omega) dX1_digest_60 (by decide) (fun h2 => ?_) (fun h2 => by omega)
    refine lv_iconst (v := nI 0) hx hb dX1_digest_149 (by decide) ?_
    refine lv_istore_n (lv' := [(3, .int (nI 0)), (0, .ref (q 0)), (1, .long (fo (fun d f => sDF g P d f) (sDig0 g F P) F))]) hx hb dX1_digest_150 rfl hl (by decide) rfl (fun ls hl => ?_)
    refine wloop (nL := 6) (N := P) (fun _ => True) (fun i => [(0, .ref (q 0)), (1, .long (fo (fun d k => sDP g F P d k) (fo (fun d f => sDF g P d f) (sDig0 g F P) F) i)), (3, .int (nI i))]) (fun i H => ∃ he, ∃ hn, va_P D vwCl (w1 ci cz q (nI 0) F P g he hn) H) (trivial) (⟨_, _, hP⟩) hS (lv_sub hl [1, 2, 0] rfl) ?_ ?_
    · intro h3 H locs ls hP hS hl
      have hl : lv_has ls 6 [(0, .ref (q 0)), (1, .long (fo (fun d k => sDP g F P d k) (fo (fun d f => sDF g P d f) (sDig0 g F P) F) P)), (3, .int (nI P))] := hl
      obtain ⟨he, hn, hP⟩ := hP
      have hP : va_P D vwCl (w1 ci cz q (nI 0) F P g he hn) H := hP
      refine lv_iload_n hx hb dX1_digest_151 rfl (lv_at hl 2 rfl) ?_
      refine lv_aload_n hx hb dX1_digest_152 rfl (lv_at hl 0 rfl) ?_
      refine r_get Fx hin hK hP 1 rfl 5 (by decide) (by decide +kernel) rfl rfl dX1_digest_153 ?_
      refine n_icmp_ge (tgt := 248) hx hb (by omega) (by omega) dX1_digest_156 (by decide) (fun h4 => ?_) (fun h4 => by omega)
      refine lv_lload_n hx hb dX1_digest_248 rfl (lv_at hl 1 rfl) ?_
      exact w_lret hx hb hr hlocks hS (⟨_, _, hP⟩) (rfl) dX1_digest_249
    · intro i h6 h5 ih151 H locs ls hP hS hl
      have hl : lv_has ls 6 [(0, .ref (q 0)), (1, .long (fo (fun d k => sDP g F P d k) (fo (fun d f => sDF g P d f) (sDig0 g F P) F) i)), (3, .int (nI i))] := hl
      obtain ⟨he, hn, hP⟩ := hP
      have hP : va_P D vwCl (w1 ci cz q (nI 0) F P g he hn) H := hP
      refine lv_iload_n hx hb dX1_digest_151 rfl (lv_at hl 2 rfl) ?_
      refine lv_aload_n hx hb dX1_digest_152 rfl (lv_at hl 0 rfl) ?_
      refine r_get Fx hin hK hP 1 rfl 5 (by decide) (by decide +kernel) rfl rfl dX1_digest_153 ?_
      refine n_icmp_ge (tgt := 248) hx hb (by omega) (by omega) dX1_digest_156 (by decide) (fun h7 => by omega) (fun h7 => ?_)
      refine lv_lload_n hx hb dX1_digest_159 rfl (lv_at hl 1 rfl) ?_
      refine lv_ldc2 hx hb Fx.2.2.2.1 (Fx.2.2.2.2 (.constantLong RX1 144 (31)) (by decide +kernel)) dX1_digest_160 ?_
      refine lv_lmul hx hb dX1_digest_163 ?_
      refine lv_aload_n hx hb dX1_digest_164 rfl (lv_at hl 0 rfl) ?_
      refine r_get Fx hin hK hP 1 rfl 9 (by decide) (by decide +kernel) rfl rfl dX1_digest_165 ?_
      refine lv_iload_n hx hb dX1_digest_168 rfl (lv_at hl 2 rfl) ?_
      refine r_zald Fx hK hP 4 1 rfl rfl (i := i) (by omega) (by decide) dX1_digest_169 ?_
      refine lv_if_eq (tgt := 177) hx hb dX1_digest_170 (by decide) (fun h8 => ?_) (fun h8 => ?_)
      · refine lv_iconst (v := nI 1) hx hb dX1_digest_177 (by decide) ?_
        refine lv_i2l hx hb dX1_digest_178 rfl ?_
        refine lv_ladd hx hb dX1_digest_179 ?_
        refine lv_ldc2 hx hb Fx.2.2.2.1 (Fx.2.2.2.2 (.constantLong RX1 144 (31)) (by decide +kernel)) dX1_digest_180 ?_
        refine lv_lmul hx hb dX1_digest_183 ?_
        refine lv_aload_n hx hb dX1_digest_184 rfl (lv_at hl 0 rfl) ?_
        refine r_get Fx hin hK hP 1 rfl 6 (by decide) (by decide +kernel) rfl rfl dX1_digest_185 ?_
        refine lv_iload_n hx hb dX1_digest_188 rfl (lv_at hl 2 rfl) ?_
        refine r_iald Fx hK hP 5 0 rfl rfl (i := i) (by omega) (by decide) dX1_digest_189 ?_
        refine lv_i2l hx hb dX1_digest_190 rfl ?_
        refine lv_ladd hx hb dX1_digest_191 ?_
        refine lv_lstore_n (lv' := [(1, .long (((((fo (fun d k => sDP g F P d k) (fo (fun d f => sDF g P d f) (sDig0 g F P) F) i) * (31 : Int64)) + ((nI 1).toInt64)) * (31 : Int64)) + ((g 4 i).toInt64))), (0, .ref (q 0)), (3, .int (nI i))]) hx hb dX1_digest_192 rfl hl (by decide) rfl (fun ls hl => ?_)
        refine lv_lload_n hx hb dX1_digest_193 rfl (lv_at hl 0 rfl) ?_
        refine lv_ldc2 hx hb Fx.2.2.2.1 (Fx.2.2.2.2 (.constantLong RX1 144 (31)) (by decide +kernel)) dX1_digest_194 ?_
        refine lv_lmul hx hb dX1_digest_197 ?_
        refine lv_aload_n hx hb dX1_digest_198 rfl (lv_at hl 1 rfl) ?_
        refine r_get Fx hin hK hP 1 rfl 7 (by decide) (by decide +kernel) rfl rfl dX1_digest_199 ?_
        refine lv_iload_n hx hb dX1_digest_202 rfl (lv_at hl 2 rfl) ?_
        refine r_iald Fx hK hP 6 0 rfl rfl (i := i) (by omega) (by decide) dX1_digest_203 ?_
        refine lv_i2l hx hb dX1_digest_204 rfl ?_
        refine lv_ladd hx hb dX1_digest_205 ?_
        refine lv_ldc2 hx hb Fx.2.2.2.1 (Fx.2.2.2.2 (.constantLong RX1 144 (31)) (by decide +kernel)) dX1_digest_206 ?_
        refine lv_lmul hx hb dX1_digest_209 ?_
        refine lv_aload_n hx hb dX1_digest_210 rfl (lv_at hl 1 rfl) ?_
        refine lv_iload_n hx hb dX1_digest_211 rfl (lv_at hl 2 rfl) ?_
        refine r_callR (rest := [.long ((((((((fo (fun d k => sDP g F P d k) (fo (fun d f => sDF g P d f) (sDig0 g F P) F) i) * (31 : Int64)) + ((nI 1).toInt64)) * (31 : Int64)) + ((g 4 i).toInt64)) * (31 : Int64)) + ((g 5 i).toInt64)) * (31 : Int64))]) Fx (m_X1_allOf l (D := D) (ci := ci) (cz := cz) (cj := cj) (q := q) (F := F) (P := P) (g := g) (th := nI 0) (he := he) (hn := hn) hF hP12 i (by omega)) (cwV 1 Fx.2.2.2.2 gX1_digest_X1_allOf rfl rfl rfl (by decide +kernel) ⟨Nat.le_of_ble_eq_true rfl, Nat.le_of_ble_eq_true rfl⟩) BW.bl (va_recv hK hP (ci := 1) (q0 := 0) rfl rfl) (BW.at hP hK hE hS) rfl hl.1 rfl (Nat.le_of_ble_eq_true rfl) dX1_digest_212 ⟨Nat.zero_le _, Nat.zero_le _⟩ ?_
        refine lv_i2l hx hb dX1_digest_215 rfl ?_
        refine lv_ladd hx hb dX1_digest_216 ?_
        refine lv_lstore_n (lv' := [(1, .long (((((((((fo (fun d k => sDP g F P d k) (fo (fun d f => sDF g P d f) (sDig0 g F P) F) i) * (31 : Int64)) + ((nI 1).toInt64)) * (31 : Int64)) + ((g 4 i).toInt64)) * (31 : Int64)) + ((g 5 i).toInt64)) * (31 : Int64)) + ((sAll g F i).toInt64))), (0, .ref (q 0)), (3, .int (nI i))]) hx hb dX1_digest_217 rfl hl (by decide) rfl (fun ls hl => ?_)
        refine lv_lload_n hx hb dX1_digest_218 rfl (lv_at hl 0 rfl) ?_
        refine lv_ldc2 hx hb Fx.2.2.2.1 (Fx.2.2.2.2 (.constantLong RX1 144 (31)) (by decide +kernel)) dX1_digest_219 ?_
        refine lv_lmul hx hb dX1_digest_222 ?_
        refine lv_aload_n hx hb dX1_digest_223 rfl (lv_at hl 1 rfl) ?_
        refine lv_iload_n hx hb dX1_digest_224 rfl (lv_at hl 2 rfl) ?_
        refine r_callR (rest := [.long ((((((((((fo (fun d k => sDP g F P d k) (fo (fun d f => sDF g P d f) (sDig0 g F P) F) i) * (31 : Int64)) + ((nI 1).toInt64)) * (31 : Int64)) + ((g 4 i).toInt64)) * (31 : Int64)) + ((g 5 i).toInt64)) * (31 : Int64)) + ((sAll g F i).toInt64)) * (31 : Int64))]) Fx (m_X1_childrenOf l (D := D) (ci := ci) (cz := cz) (cj := cj) (q := q) (F := F) (P := P) (g := g) (th := nI 0) (he := he) (hn := hn) hF hP12 i ) (cwV 1 Fx.2.2.2.2 gX1_digest_X1_childrenOf rfl rfl rfl (by decide +kernel) ⟨Nat.le_of_ble_eq_true rfl, Nat.le_of_ble_eq_true rfl⟩) BW.bl (va_recv hK hP (ci := 1) (q0 := 0) rfl rfl) (BW.at hP hK hE hS) rfl hl.1 rfl (Nat.le_of_ble_eq_true rfl) dX1_digest_225 ⟨Nat.zero_le _, Nat.zero_le _⟩ ?_
        refine lv_i2l hx hb dX1_digest_228 rfl ?_
        refine lv_ladd hx hb dX1_digest_229 ?_
        refine lv_ldc2 hx hb Fx.2.2.2.1 (Fx.2.2.2.2 (.constantLong RX1 144 (31)) (by decide +kernel)) dX1_digest_230 ?_
        refine lv_lmul hx hb dX1_digest_233 ?_
        refine lv_aload_n hx hb dX1_digest_234 rfl (lv_at hl 1 rfl) ?_
        refine lv_iload_n hx hb dX1_digest_235 rfl (lv_at hl 2 rfl) ?_
        refine r_callW (rest := [.long ((((((((((((fo (fun d k => sDP g F P d k) (fo (fun d f => sDF g P d f) (sDig0 g F P) F) i) * (31 : Int64)) + ((nI 1).toInt64)) * (31 : Int64)) + ((g 4 i).toInt64)) * (31 : Int64)) + ((g 5 i).toInt64)) * (31 : Int64)) + ((sAll g F i).toInt64)) * (31 : Int64)) + ((nI (sChi g P i)).toInt64)) * (31 : Int64))]) Fx (m_X1_heirsOf l (D := D) (ci := ci) (cz := cz) (cj := cj) (q := q) (F := F) (P := P) (g := g) (th := nI 0) (he := he) (hn := hn) hq hF hP12 i ha0 (by omega)) (cwV 1 Fx.2.2.2.2 gX1_digest_X1_heirsOf rfl rfl rfl (by decide +kernel) ⟨Nat.le_of_ble_eq_true rfl, Nat.le_of_ble_eq_true rfl⟩) BW.bl (va_recv hK hP (ci := 1) (q0 := 0) rfl rfl) (BW.at hP hK hE hS) rfl hl.1 rfl (Nat.le_of_ble_eq_true rfl) dX1_digest_236 ⟨Nat.zero_le _, Nat.zero_le _⟩ hS (fun _ h => h) (fun H locs hP hS _ _ => ?_)
        obtain ⟨he0, hHe, hP⟩ := hP
        have hP : va_P D vwCl (w1 ci cz q (nI 0) F P g he0 (sCHe g P i)) H := hP
        refine lv_i2l hx hb dX1_digest_239 rfl ?_
        refine lv_ladd hx hb dX1_digest_240 ?_
        refine lv_lstore_n (lv' := [(1, .long (((((((((((((fo (fun d k => sDP g F P d k) (fo (fun d f => sDF g P d f) (sDig0 g F P) F) i) * (31 : Int64)) + ((nI 1).toInt64)) * (31 : Int64)) + ((g 4 i).toInt64)) * (31 : Int64)) + ((g 5 i).toInt64)) * (31 : Int64)) + ((sAll g F i).toInt64)) * (31 : Int64)) + ((nI (sChi g P i)).toInt64)) * (31 : Int64)) + ((nI (sCHe g P i)).toInt64))), (0, .ref (q 0)), (3, .int (nI i))]) hx hb dX1_digest_241 rfl hl (by decide) rfl (fun ls hl => ?_)
        refine lv_iinc (v := nI (i + 1)) (lv' := [(3, .int (nI (i + 1))), (1, .long (((((((((((((fo (fun d k => sDP g F P d k) (fo (fun d f => sDF g P d f) (sDig0 g F P) F) i) * (31 : Int64)) + ((nI 1).toInt64)) * (31 : Int64)) + ((g 4 i).toInt64)) * (31 : Int64)) + ((g 5 i).toInt64)) * (31 : Int64)) + ((sAll g F i).toInt64)) * (31 : Int64)) + ((nI (sChi g P i)).toInt64)) * (31 : Int64)) + ((nI (sCHe g P i)).toInt64))), (0, .ref (q 0))]) hx hb dX1_digest_242 hl (k := 2) rfl (nI_inc _ 1) (by decide) rfl (fun ls hl => ?_)
        refine lv_goto (tgt := 151) hx hb dX1_digest_245 (by decide) ?_
        have e1_ : ((((((((((((fo (fun d k => sDP g F P d k) (fo (fun d f => sDF g P d f) (sDig0 g F P) F) i) * (31 : Int64)) + ((nI 1).toInt64)) * (31 : Int64)) + ((g 4 i).toInt64)) * (31 : Int64)) + ((g 5 i).toInt64)) * (31 : Int64)) + ((sAll g F i).toInt64)) * (31 : Int64)) + ((nI (sChi g P i)).toInt64)) * (31 : Int64)) + ((nI (sCHe g P i)).toInt64) = fo (fun d k => sDP g F P d k) (fo (fun d f => sDF g P d f) (sDig0 g F P) F) (i + 1) := by simp [fo, sDP, mx, lv, n1l, n0l, h2, h6, h7, h8]
        rw [e1_] at hl
        exact ih151 (trivial) _ _ _ (⟨_, _, hP⟩) hS (lv_sub hl [2, 1, 0] rfl)
      · refine lv_iconst (v := nI 0) hx hb dX1_digest_173 (by decide) ?_
        refine lv_goto (tgt := 178) hx hb dX1_digest_174 (by decide) ?_
        refine lv_i2l hx hb dX1_digest_178 rfl ?_
        refine lv_ladd hx hb dX1_digest_179 ?_
        refine lv_ldc2 hx hb Fx.2.2.2.1 (Fx.2.2.2.2 (.constantLong RX1 144 (31)) (by decide +kernel)) dX1_digest_180 ?_
        refine lv_lmul hx hb dX1_digest_183 ?_
        refine lv_aload_n hx hb dX1_digest_184 rfl (lv_at hl 0 rfl) ?_
        refine r_get Fx hin hK hP 1 rfl 6 (by decide) (by decide +kernel) rfl rfl dX1_digest_185 ?_
        refine lv_iload_n hx hb dX1_digest_188 rfl (lv_at hl 2 rfl) ?_
        refine r_iald Fx hK hP 5 0 rfl rfl (i := i) (by omega) (by decide) dX1_digest_189 ?_
        refine lv_i2l hx hb dX1_digest_190 rfl ?_
        refine lv_ladd hx hb dX1_digest_191 ?_
        refine lv_lstore_n (lv' := [(1, .long (((((fo (fun d k => sDP g F P d k) (fo (fun d f => sDF g P d f) (sDig0 g F P) F) i) * (31 : Int64)) + ((nI 0).toInt64)) * (31 : Int64)) + ((g 4 i).toInt64))), (0, .ref (q 0)), (3, .int (nI i))]) hx hb dX1_digest_192 rfl hl (by decide) rfl (fun ls hl => ?_)
        refine lv_lload_n hx hb dX1_digest_193 rfl (lv_at hl 0 rfl) ?_
        refine lv_ldc2 hx hb Fx.2.2.2.1 (Fx.2.2.2.2 (.constantLong RX1 144 (31)) (by decide +kernel)) dX1_digest_194 ?_
        refine lv_lmul hx hb dX1_digest_197 ?_
        refine lv_aload_n hx hb dX1_digest_198 rfl (lv_at hl 1 rfl) ?_
        refine r_get Fx hin hK hP 1 rfl 7 (by decide) (by decide +kernel) rfl rfl dX1_digest_199 ?_
        refine lv_iload_n hx hb dX1_digest_202 rfl (lv_at hl 2 rfl) ?_
        refine r_iald Fx hK hP 6 0 rfl rfl (i := i) (by omega) (by decide) dX1_digest_203 ?_
        refine lv_i2l hx hb dX1_digest_204 rfl ?_
        refine lv_ladd hx hb dX1_digest_205 ?_
        refine lv_ldc2 hx hb Fx.2.2.2.1 (Fx.2.2.2.2 (.constantLong RX1 144 (31)) (by decide +kernel)) dX1_digest_206 ?_
        refine lv_lmul hx hb dX1_digest_209 ?_
        refine lv_aload_n hx hb dX1_digest_210 rfl (lv_at hl 1 rfl) ?_
        refine lv_iload_n hx hb dX1_digest_211 rfl (lv_at hl 2 rfl) ?_
        refine r_callR (rest := [.long ((((((((fo (fun d k => sDP g F P d k) (fo (fun d f => sDF g P d f) (sDig0 g F P) F) i) * (31 : Int64)) + ((nI 0).toInt64)) * (31 : Int64)) + ((g 4 i).toInt64)) * (31 : Int64)) + ((g 5 i).toInt64)) * (31 : Int64))]) Fx (m_X1_allOf l (D := D) (ci := ci) (cz := cz) (cj := cj) (q := q) (F := F) (P := P) (g := g) (th := nI 0) (he := he) (hn := hn) hF hP12 i (by omega)) (cwV 1 Fx.2.2.2.2 gX1_digest_X1_allOf rfl rfl rfl (by decide +kernel) ⟨Nat.le_of_ble_eq_true rfl, Nat.le_of_ble_eq_true rfl⟩) BW.bl (va_recv hK hP (ci := 1) (q0 := 0) rfl rfl) (BW.at hP hK hE hS) rfl hl.1 rfl (Nat.le_of_ble_eq_true rfl) dX1_digest_212 ⟨Nat.zero_le _, Nat.zero_le _⟩ ?_
        refine lv_i2l hx hb dX1_digest_215 rfl ?_
        refine lv_ladd hx hb dX1_digest_216 ?_
        refine lv_lstore_n (lv' := [(1, .long (((((((((fo (fun d k => sDP g F P d k) (fo (fun d f => sDF g P d f) (sDig0 g F P) F) i) * (31 : Int64)) + ((nI 0).toInt64)) * (31 : Int64)) + ((g 4 i).toInt64)) * (31 : Int64)) + ((g 5 i).toInt64)) * (31 : Int64)) + ((sAll g F i).toInt64))), (0, .ref (q 0)), (3, .int (nI i))]) hx hb dX1_digest_217 rfl hl (by decide) rfl (fun ls hl => ?_)
        refine lv_lload_n hx hb dX1_digest_218 rfl (lv_at hl 0 rfl) ?_
        refine lv_ldc2 hx hb Fx.2.2.2.1 (Fx.2.2.2.2 (.constantLong RX1 144 (31)) (by decide +kernel)) dX1_digest_219 ?_
        refine lv_lmul hx hb dX1_digest_222 ?_
        refine lv_aload_n hx hb dX1_digest_223 rfl (lv_at hl 1 rfl) ?_
        refine lv_iload_n hx hb dX1_digest_224 rfl (lv_at hl 2 rfl) ?_
        refine r_callR (rest := [.long ((((((((((fo (fun d k => sDP g F P d k) (fo (fun d f => sDF g P d f) (sDig0 g F P) F) i) * (31 : Int64)) + ((nI 0).toInt64)) * (31 : Int64)) + ((g 4 i).toInt64)) * (31 : Int64)) + ((g 5 i).toInt64)) * (31 : Int64)) + ((sAll g F i).toInt64)) * (31 : Int64))]) Fx (m_X1_childrenOf l (D := D) (ci := ci) (cz := cz) (cj := cj) (q := q) (F := F) (P := P) (g := g) (th := nI 0) (he := he) (hn := hn) hF hP12 i ) (cwV 1 Fx.2.2.2.2 gX1_digest_X1_childrenOf rfl rfl rfl (by decide +kernel) ⟨Nat.le_of_ble_eq_true rfl, Nat.le_of_ble_eq_true rfl⟩) BW.bl (va_recv hK hP (ci := 1) (q0 := 0) rfl rfl) (BW.at hP hK hE hS) rfl hl.1 rfl (Nat.le_of_ble_eq_true rfl) dX1_digest_225 ⟨Nat.zero_le _, Nat.zero_le _⟩ ?_
        refine lv_i2l hx hb dX1_digest_228 rfl ?_
        refine lv_ladd hx hb dX1_digest_229 ?_
        refine lv_ldc2 hx hb Fx.2.2.2.1 (Fx.2.2.2.2 (.constantLong RX1 144 (31)) (by decide +kernel)) dX1_digest_230 ?_
        refine lv_lmul hx hb dX1_digest_233 ?_
        refine lv_aload_n hx hb dX1_digest_234 rfl (lv_at hl 1 rfl) ?_
        refine lv_iload_n hx hb dX1_digest_235 rfl (lv_at hl 2 rfl) ?_
        refine r_callW (rest := [.long ((((((((((((fo (fun d k => sDP g F P d k) (fo (fun d f => sDF g P d f) (sDig0 g F P) F) i) * (31 : Int64)) + ((nI 0).toInt64)) * (31 : Int64)) + ((g 4 i).toInt64)) * (31 : Int64)) + ((g 5 i).toInt64)) * (31 : Int64)) + ((sAll g F i).toInt64)) * (31 : Int64)) + ((nI (sChi g P i)).toInt64)) * (31 : Int64))]) Fx (m_X1_heirsOf l (D := D) (ci := ci) (cz := cz) (cj := cj) (q := q) (F := F) (P := P) (g := g) (th := nI 0) (he := he) (hn := hn) hq hF hP12 i ha0 (by omega)) (cwV 1 Fx.2.2.2.2 gX1_digest_X1_heirsOf rfl rfl rfl (by decide +kernel) ⟨Nat.le_of_ble_eq_true rfl, Nat.le_of_ble_eq_true rfl⟩) BW.bl (va_recv hK hP (ci := 1) (q0 := 0) rfl rfl) (BW.at hP hK hE hS) rfl hl.1 rfl (Nat.le_of_ble_eq_true rfl) dX1_digest_236 ⟨Nat.zero_le _, Nat.zero_le _⟩ hS (fun _ h => h) (fun H locs hP hS _ _ => ?_)
        obtain ⟨he0, hHe, hP⟩ := hP
        have hP : va_P D vwCl (w1 ci cz q (nI 0) F P g he0 (sCHe g P i)) H := hP
        refine lv_i2l hx hb dX1_digest_239 rfl ?_
        refine lv_ladd hx hb dX1_digest_240 ?_
        refine lv_lstore_n (lv' := [(1, .long (((((((((((((fo (fun d k => sDP g F P d k) (fo (fun d f => sDF g P d f) (sDig0 g F P) F) i) * (31 : Int64)) + ((nI 0).toInt64)) * (31 : Int64)) + ((g 4 i).toInt64)) * (31 : Int64)) + ((g 5 i).toInt64)) * (31 : Int64)) + ((sAll g F i).toInt64)) * (31 : Int64)) + ((nI (sChi g P i)).toInt64)) * (31 : Int64)) + ((nI (sCHe g P i)).toInt64))), (0, .ref (q 0)), (3, .int (nI i))]) hx hb dX1_digest_241 rfl hl (by decide) rfl (fun ls hl => ?_)
        refine lv_iinc (v := nI (i + 1)) (lv' := [(3, .int (nI (i + 1))), (1, .long (((((((((((((fo (fun d k => sDP g F P d k) (fo (fun d f => sDF g P d f) (sDig0 g F P) F) i) * (31 : Int64)) + ((nI 0).toInt64)) * (31 : Int64)) + ((g 4 i).toInt64)) * (31 : Int64)) + ((g 5 i).toInt64)) * (31 : Int64)) + ((sAll g F i).toInt64)) * (31 : Int64)) + ((nI (sChi g P i)).toInt64)) * (31 : Int64)) + ((nI (sCHe g P i)).toInt64))), (0, .ref (q 0))]) hx hb dX1_digest_242 hl (k := 2) rfl (nI_inc _ 1) (by decide) rfl (fun ls hl => ?_)
        refine lv_goto (tgt := 151) hx hb dX1_digest_245 (by decide) ?_
        have e1_ : ((((((((((((fo (fun d k => sDP g F P d k) (fo (fun d f => sDF g P d f) (sDig0 g F P) F) i) * (31 : Int64)) + ((nI 0).toInt64)) * (31 : Int64)) + ((g 4 i).toInt64)) * (31 : Int64)) + ((g 5 i).toInt64)) * (31 : Int64)) + ((sAll g F i).toInt64)) * (31 : Int64)) + ((nI (sChi g P i)).toInt64)) * (31 : Int64)) + ((nI (sCHe g P i)).toInt64) = fo (fun d k => sDP g F P d k) (fo (fun d f => sDF g P d f) (sDig0 g F P) F) (i + 1) := by simp [fo, sDP, mx, lv, n1l, n0l, h2, h6, h7, h8]
        rw [e1_] at hl
        exact ih151 (trivial) _ _ _ (⟨_, _, hP⟩) hS (lv_sub hl [2, 1, 0] rfl)
  · intro i h10 h9 ih55 ls hl
    have hl : lv_has ls 6 [(0, .ref (q 0)), (1, .long (fo (fun d f => sDF g P d f) (sDig0 g F P) i)), (3, .int (nI i))] := hl
    refine lv_iload_n hx hb dX1_digest_55 rfl (lv_at hl 2 rfl) ?_
    refine lv_aload_n hx hb dX1_digest_56 rfl (lv_at hl 0 rfl) ?_
    refine r_get Fx hin hK hP 1 rfl 1 (by decide) (by decide +kernel) rfl rfl dX1_digest_57 ?_
    refine n_icmp_ge (tgt := 149) hx hb (by omega) (by omega) dX1_digest_60 (by decide) (fun h11 => by omega) (fun h11 => ?_)
    refine lv_lload_n hx hb dX1_digest_63 rfl (lv_at hl 1 rfl) ?_
    refine lv_ldc2 hx hb Fx.2.2.2.1 (Fx.2.2.2.2 (.constantLong RX1 144 (31)) (by decide +kernel)) dX1_digest_64 ?_
    refine lv_lmul hx hb dX1_digest_67 ?_
    refine lv_aload_n hx hb dX1_digest_68 rfl (lv_at hl 0 rfl) ?_
    refine r_get Fx hin hK hP 1 rfl 2 (by decide) (by decide +kernel) rfl rfl dX1_digest_69 ?_
    refine lv_iload_n hx hb dX1_digest_72 rfl (lv_at hl 2 rfl) ?_
    refine r_iald Fx hK hP 1 0 rfl rfl (i := i) (by omega) (by decide) dX1_digest_73 ?_
    refine lv_i2l hx hb dX1_digest_74 rfl ?_
    refine lv_ladd hx hb dX1_digest_75 ?_
    refine lv_ldc2 hx hb Fx.2.2.2.1 (Fx.2.2.2.2 (.constantLong RX1 144 (31)) (by decide +kernel)) dX1_digest_76 ?_
    refine lv_lmul hx hb dX1_digest_79 ?_
    refine lv_aload_n hx hb dX1_digest_80 rfl (lv_at hl 0 rfl) ?_
    refine r_get Fx hin hK hP 1 rfl 3 (by decide) (by decide +kernel) rfl rfl dX1_digest_81 ?_
    refine lv_iload_n hx hb dX1_digest_84 rfl (lv_at hl 2 rfl) ?_
    refine r_iald Fx hK hP 2 0 rfl rfl (i := i) (by omega) (by decide) dX1_digest_85 ?_
    refine lv_i2l hx hb dX1_digest_86 rfl ?_
    refine lv_ladd hx hb dX1_digest_87 ?_
    refine lv_lstore_n (lv' := [(1, .long (((((fo (fun d f => sDF g P d f) (sDig0 g F P) i) * (31 : Int64)) + ((g 0 i).toInt64)) * (31 : Int64)) + ((g 1 i).toInt64))), (0, .ref (q 0)), (3, .int (nI i))]) hx hb dX1_digest_88 rfl hl (by decide) rfl (fun ls hl => ?_)
    refine lv_iconst (v := nI 0) hx hb dX1_digest_89 (by decide) ?_
    refine lv_istore (lv' := [(4, .int (nI 0)), (1, .long (((((fo (fun d f => sDF g P d f) (sDig0 g F P) i) * (31 : Int64)) + ((g 0 i).toInt64)) * (31 : Int64)) + ((g 1 i).toInt64))), (0, .ref (q 0)), (3, .int (nI i))]) hx hb dX1_digest_90 hl (by decide) rfl (fun ls hl => ?_)
    refine rloop (nL := 6) (N := 4) (fun _ => True) (fun i' => [(0, .ref (q 0)), (1, .long (fo (fun d w => sDW g P i d w) (mx (mx (fo (fun d f => sDF g P d f) (sDig0 g F P) i) (g 0 i).toInt64) (g 1 i).toInt64) i')), (3, .int (nI i)), (4, .int (nI i'))]) (trivial) (lv_sub hl [2, 1, 3, 0] rfl) ?_ ?_
    · intro h12 ls hl
      have hl : lv_has ls 6 [(0, .ref (q 0)), (1, .long (fo (fun d w => sDW g P i d w) (mx (mx (fo (fun d f => sDF g P d f) (sDig0 g F P) i) (g 0 i).toInt64) (g 1 i).toInt64) 4)), (3, .int (nI i)), (4, .int (nI 4))] := hl
      refine lv_iload hx hb dX1_digest_92 (lv_at hl 3 rfl) ?_
      refine lv_iconst (v := nI 4) hx hb dX1_digest_94 (by decide) ?_
      refine n_icmp_ge (tgt := 143) hx hb (by omega) (by omega) dX1_digest_95 (by decide) (fun h13 => ?_) (fun h13 => by omega)
      refine lv_iinc (v := nI (i + 1)) (lv' := [(3, .int (nI (i + 1))), (0, .ref (q 0)), (1, .long (fo (fun d w => sDW g P i d w) (mx (mx (fo (fun d f => sDF g P d f) (sDig0 g F P) i) (g 0 i).toInt64) (g 1 i).toInt64) 4)), (4, .int (nI 4))]) hx hb dX1_digest_143 hl (k := 2) rfl (nI_inc _ 1) (by decide) rfl (fun ls hl => ?_)
      refine lv_goto (tgt := 55) hx hb dX1_digest_146 (by decide) ?_
      exact ih55 (trivial) _ (lv_sub hl [1, 2, 0] rfl)
    · intro i' h15 h14 ih92 ls hl
      have hl : lv_has ls 6 [(0, .ref (q 0)), (1, .long (fo (fun d w => sDW g P i d w) (mx (mx (fo (fun d f => sDF g P d f) (sDig0 g F P) i) (g 0 i).toInt64) (g 1 i).toInt64) i')), (3, .int (nI i)), (4, .int (nI i'))] := hl
      refine lv_iload hx hb dX1_digest_92 (lv_at hl 3 rfl) ?_
      refine lv_iconst (v := nI 4) hx hb dX1_digest_94 (by decide) ?_
      refine n_icmp_ge (tgt := 143) hx hb (by omega) (by omega) dX1_digest_95 (by decide) (fun h16 => by omega) (fun h16 => ?_)
      refine lv_iconst (v := nI 0) hx hb dX1_digest_98 (by decide) ?_
      refine lv_istore (lv' := [(5, .int (nI 0)), (0, .ref (q 0)), (1, .long (fo (fun d w => sDW g P i d w) (mx (mx (fo (fun d f => sDF g P d f) (sDig0 g F P) i) (g 0 i).toInt64) (g 1 i).toInt64) i')), (3, .int (nI i)), (4, .int (nI i'))]) hx hb dX1_digest_99 hl (by decide) rfl (fun ls hl => ?_)
      refine rloop (nL := 6) (N := P) (fun _ => True) (fun i'' => [(0, .ref (q 0)), (1, .long (fo (fun d z => mx d (own g i i' z).toInt64) (fo (fun d w => sDW g P i d w) (mx (mx (fo (fun d f => sDF g P d f) (sDig0 g F P) i) (g 0 i).toInt64) (g 1 i).toInt64) i') i'')), (3, .int (nI i)), (4, .int (nI i')), (5, .int (nI i''))]) (trivial) (lv_sub hl [1, 2, 3, 4, 0] rfl) ?_ ?_
      · intro h17 ls hl
        have hl : lv_has ls 6 [(0, .ref (q 0)), (1, .long (fo (fun d z => mx d (own g i i' z).toInt64) (fo (fun d w => sDW g P i d w) (mx (mx (fo (fun d f => sDF g P d f) (sDig0 g F P) i) (g 0 i).toInt64) (g 1 i).toInt64) i') P)), (3, .int (nI i)), (4, .int (nI i')), (5, .int (nI P))] := hl
        refine lv_iload hx hb dX1_digest_101 (lv_at hl 4 rfl) ?_
        refine lv_aload_n hx hb dX1_digest_103 rfl (lv_at hl 0 rfl) ?_
        refine r_get Fx hin hK hP 1 rfl 5 (by decide) (by decide +kernel) rfl rfl dX1_digest_104 ?_
        refine n_icmp_ge (tgt := 137) hx hb (by omega) (by omega) dX1_digest_107 (by decide) (fun h18 => ?_) (fun h18 => by omega)
        refine lv_iinc (v := nI (i' + 1)) (lv' := [(4, .int (nI (i' + 1))), (0, .ref (q 0)), (1, .long (fo (fun d z => mx d (own g i i' z).toInt64) (fo (fun d w => sDW g P i d w) (mx (mx (fo (fun d f => sDF g P d f) (sDig0 g F P) i) (g 0 i).toInt64) (g 1 i).toInt64) i') P)), (3, .int (nI i)), (5, .int (nI P))]) hx hb dX1_digest_137 hl (k := 3) rfl (nI_inc _ 1) (by decide) rfl (fun ls hl => ?_)
        refine lv_goto (tgt := 92) hx hb dX1_digest_140 (by decide) ?_
        exact ih92 (trivial) _ (lv_sub hl [1, 2, 3, 0] rfl)
      · intro i'' h20 h19 ih101 ls hl
        have hl : lv_has ls 6 [(0, .ref (q 0)), (1, .long (fo (fun d z => mx d (own g i i' z).toInt64) (fo (fun d w => sDW g P i d w) (mx (mx (fo (fun d f => sDF g P d f) (sDig0 g F P) i) (g 0 i).toInt64) (g 1 i).toInt64) i') i'')), (3, .int (nI i)), (4, .int (nI i')), (5, .int (nI i''))] := hl
        refine lv_iload hx hb dX1_digest_101 (lv_at hl 4 rfl) ?_
        refine lv_aload_n hx hb dX1_digest_103 rfl (lv_at hl 0 rfl) ?_
        refine r_get Fx hin hK hP 1 rfl 5 (by decide) (by decide +kernel) rfl rfl dX1_digest_104 ?_
        refine n_icmp_ge (tgt := 137) hx hb (by omega) (by omega) dX1_digest_107 (by decide) (fun h21 => by omega) (fun h21 => ?_)
        refine lv_lload_n hx hb dX1_digest_110 rfl (lv_at hl 1 rfl) ?_
        refine lv_ldc2 hx hb Fx.2.2.2.1 (Fx.2.2.2.2 (.constantLong RX1 144 (31)) (by decide +kernel)) dX1_digest_111 ?_
        refine lv_lmul hx hb dX1_digest_114 ?_
        refine lv_aload_n hx hb dX1_digest_115 rfl (lv_at hl 0 rfl) ?_
        refine r_get Fx hin hK hP 1 rfl 4 (by decide) (by decide +kernel) rfl rfl dX1_digest_116 ?_
        refine lv_iload_n hx hb dX1_digest_119 rfl (lv_at hl 2 rfl) ?_
        refine lv_iload hx hb dX1_digest_120 (lv_at hl 3 rfl) ?_
        refine lv_iload hx hb dX1_digest_122 (lv_at hl 4 rfl) ?_
        refine r_callRS (rest := [.ref (q 3), .long ((fo (fun d z => mx d (own g i i' z).toInt64) (fo (fun d w => sDW g P i d w) (mx (mx (fo (fun d f => sDF g P d f) (sDig0 g F P) i) (g 0 i).toInt64) (g 1 i).toInt64) i') i'') * (31 : Int64))]) Fx (m_X1_at l (D := D) (ci := ci) (cz := cz) (cj := cj) (q := q) (F := F) (P := P) (g := g) (th := nI 0) (he := he) (hn := hn) hF hP12 i i' i'' ) (va_cwS 3 Fx.2.2.2.2 gX1_digest_X1_at rfl rfl rfl (by decide +kernel) ⟨Nat.le_of_ble_eq_true rfl, Nat.le_of_ble_eq_true rfl⟩) BW.bl (BW.at hP hK hE hS) rfl hl.1 rfl (Nat.le_of_ble_eq_true rfl) dX1_digest_124 ⟨Nat.zero_le _, Nat.zero_le _⟩ ?_
        refine r_iald Fx hK hP 3 0 rfl rfl (i := sl i i' i'') (sl_lt (by omega) (by omega) (by omega)) (by decide) dX1_digest_127 ?_
        refine r_as (own g i i' i'') rfl ?_
        refine lv_i2l hx hb dX1_digest_128 rfl ?_
        refine lv_ladd hx hb dX1_digest_129 ?_
        refine lv_lstore_n (lv' := [(1, .long (((fo (fun d z => mx d (own g i i' z).toInt64) (fo (fun d w => sDW g P i d w) (mx (mx (fo (fun d f => sDF g P d f) (sDig0 g F P) i) (g 0 i).toInt64) (g 1 i).toInt64) i') i'') * (31 : Int64)) + ((own g i i' i'').toInt64))), (0, .ref (q 0)), (3, .int (nI i)), (4, .int (nI i')), (5, .int (nI i''))]) hx hb dX1_digest_130 rfl hl (by decide) rfl (fun ls hl => ?_)
        refine lv_iinc (v := nI (i'' + 1)) (lv' := [(5, .int (nI (i'' + 1))), (1, .long (((fo (fun d z => mx d (own g i i' z).toInt64) (fo (fun d w => sDW g P i d w) (mx (mx (fo (fun d f => sDF g P d f) (sDig0 g F P) i) (g 0 i).toInt64) (g 1 i).toInt64) i') i'') * (31 : Int64)) + ((own g i i' i'').toInt64))), (0, .ref (q 0)), (3, .int (nI i)), (4, .int (nI i'))]) hx hb dX1_digest_131 hl (k := 4) rfl (nI_inc _ 1) (by decide) rfl (fun ls hl => ?_)
        refine lv_goto (tgt := 101) hx hb dX1_digest_134 (by decide) ?_
        exact ih101 (trivial) _ (lv_sub hl [2, 1, 3, 4, 0] rfl)
set_option maxHeartbeats 4000000 in
set_option maxRecDepth 100000 in
theorem m_X1_meanCoins (l : Launch) {D : va_G} {ci cz cj : ClassId} {q : Nat → Nat} {F P : Nat} {g : Nat → Nat → Int32} {th : Int32} {he : Nat → Int32} {hn : Nat} (hq : DQ q 9) (hF : F ≤ 6) (hP12 : P ≤ 12) (ha0 : Iv F P g) : MetD lw_cs l yX1_meanCoins wsX1_meanCoins ({ frames := 1, cells := 0, slots := 0, locals := 22 } : Room) (va_Pc [.ref (q 0)] (B1 D ci cz cj q th F P g he hn)) (DQd (mC g P) (fun H => ∃ (he : Nat → Int32) (hn : Nat), va_P D vwCl (w1 ci cz q (nI 0) F P g he hn) H) (aw q 9)) 0 0 (aw q 9) := by
  refine MetD.ofD (cc := cX1_meanCoins) (maxL := 3) (ret := (some .double)) (by decide) rfl (Nat.le_of_ble_eq_true rfl) ?_
  intro pg en s m bl mt cd ls Fx hr hlocks hB hd0 hl
  obtain ⟨hP, hK, hE⟩ := hB
  have hl : lv_has ls 3 [(0, .ref (q 0))] := hl
  have Fx : CallFix pg m cd cX1_meanCoins 3 (s.setDrawn s.drawn) _ wsX1_meanCoins RX1 := Fx
  have hK : va_K D vwCl (tyL ci cz cj) (s.setDrawn s.drawn) := hK
  have hE := hE.dr s.drawn
  have hx := Fx.1
  have hb := Fx.2.1
  have hin : ∀ w ∈ wsX10, w ∈ wsX1_meanCoins := by decide +kernel
  have hS : va_S (aw q 9) s.heap s.heap [] := va_S.rf
  have hP : va_P D vwCl (w1 ci cz q th F P g he hn) s.heap := hP
  refine lv_aload_n hx hb dX1_meanCoins_0 rfl (lv_at hl 0 rfl) ?_
  refine lv_iconst (v := nI 0) hx hb dX1_meanCoins_1 (by decide) ?_
  refine r_put Fx hin tyX1 tyX1_ok nmX1 hK hP (d1 hq) hS 1 rfl 0 (by decide) (by decide +kernel) rfl (by decide +kernel) rfl (Nat.le_of_ble_eq_true rfl) dX1_meanCoins_2 (fun H locs hP hS => ?_)
  have hP : va_P D vwCl (w1 ci cz q (nI 0) F P g he hn) H := hP
  refine lv_iconst (v := nI 0) hx hb dX1_meanCoins_5 (by decide) ?_
  refine lv_istore_n (lv' := [(1, .int (nI 0)), (0, .ref (q 0))]) hx hb dX1_meanCoins_6 rfl hl (by decide) rfl (fun ls hl => ?_)
  refine lv_iconst (v := nI 0) hx hb dX1_meanCoins_7 (by decide) ?_
  refine lv_istore_n (lv' := [(2, .int (nI 0)), (1, .int (nI 0)), (0, .ref (q 0))]) hx hb dX1_meanCoins_8 rfl hl (by decide) rfl (fun ls hl => ?_)
  refine rloop (nL := 3) (N := P) (fun _ => True) (fun i => [(0, .ref (q 0)), (1, .int (sm (fun z => g 4 z) i)), (2, .int (nI i))]) (trivial) (lv_sub hl [2, 1, 0] rfl) ?_ ?_
  · intro h1 ls hl
    have hl : lv_has ls 3 [(0, .ref (q 0)), (1, .int (sm (fun z => g 4 z) P)), (2, .int (nI P))] := hl
    refine lv_iload_n hx hb dX1_meanCoins_9 rfl (lv_at hl 2 rfl) ?_
    refine lv_aload_n hx hb dX1_meanCoins_10 rfl (lv_at hl 0 rfl) ?_
    refine r_get Fx hin hK hP 1 rfl 5 (by decide) (by decide +kernel) rfl rfl dX1_meanCoins_11 ?_
    refine n_icmp_ge (tgt := 32) hx hb (by omega) (by omega) dX1_meanCoins_14 (by decide) (fun h2 => ?_) (fun h2 => by omega)
    refine lv_aload_n hx hb dX1_meanCoins_32 rfl (lv_at hl 0 rfl) ?_
    refine r_callR (rest := []) Fx (m_X1_alive l (D := D) (ci := ci) (cz := cz) (cj := cj) (q := q) (F := F) (P := P) (g := g) (th := nI 0) (he := he) (hn := hn) hF hP12  ) (cwV 0 Fx.2.2.2.2 gX1_meanCoins_X1_alive rfl rfl rfl (by decide +kernel) ⟨Nat.le_of_ble_eq_true rfl, Nat.le_of_ble_eq_true rfl⟩) BW.bl (va_recv hK hP (ci := 1) (q0 := 0) rfl rfl) (BW.at hP hK hE hS) rfl hl.1 rfl (Nat.le_of_ble_eq_true rfl) dX1_meanCoins_33 ⟨Nat.zero_le _, Nat.zero_le _⟩ ?_
    have hcc : sLiv g P ≤ 12 := Nat.le_trans (cn_le _ _) hP12
    refine n_if_ne (tgt := 43) hx hb (by omega) dX1_meanCoins_36 (by decide) (fun h3 => ?_) (fun h3 => ?_)
    · refine lv_iload_n hx hb dX1_meanCoins_43 rfl (lv_at hl 1 rfl) ?_
      refine lv_i2d hx hb dX1_meanCoins_44 ?_
      refine lv_aload_n hx hb dX1_meanCoins_45 rfl (lv_at hl 0 rfl) ?_
      refine r_callR (rest := [.double (FP.i2d (sm (fun z => g 4 z) P))]) Fx (m_X1_alive l (D := D) (ci := ci) (cz := cz) (cj := cj) (q := q) (F := F) (P := P) (g := g) (th := nI 0) (he := he) (hn := hn) hF hP12  ) (cwV 0 Fx.2.2.2.2 gX1_meanCoins_X1_alive rfl rfl rfl (by decide +kernel) ⟨Nat.le_of_ble_eq_true rfl, Nat.le_of_ble_eq_true rfl⟩) BW.bl (va_recv hK hP (ci := 1) (q0 := 0) rfl rfl) (BW.at hP hK hE hS) rfl hl.1 rfl (Nat.le_of_ble_eq_true rfl) dX1_meanCoins_46 ⟨Nat.zero_le _, Nat.zero_le _⟩ ?_
      refine lv_i2d hx hb dX1_meanCoins_49 ?_
      refine lv_ddiv_any hd0 lw_bits hx hb dX1_meanCoins_50 (fun r d1 hal hd1 => ?_)
      exact d_dret hd1 hx hb hr hlocks hS (⟨_, _, hP⟩) (by rw [mC, if_neg h3, csm_sm (iv_dead ha0)]; exact hal) dX1_meanCoins_51
    · refine lv_dconst0 hx hb dX1_meanCoins_39 ?_
      refine lv_goto (tgt := 51) hx hb dX1_meanCoins_40 (by decide) ?_
      exact d_dret hd0 hx hb hr hlocks hS (⟨_, _, hP⟩) (by rw [mC, if_pos h3]; exact alike64_refl _) dX1_meanCoins_51
  · intro i h5 h4 ih9 ls hl
    have hl : lv_has ls 3 [(0, .ref (q 0)), (1, .int (sm (fun z => g 4 z) i)), (2, .int (nI i))] := hl
    refine lv_iload_n hx hb dX1_meanCoins_9 rfl (lv_at hl 2 rfl) ?_
    refine lv_aload_n hx hb dX1_meanCoins_10 rfl (lv_at hl 0 rfl) ?_
    refine r_get Fx hin hK hP 1 rfl 5 (by decide) (by decide +kernel) rfl rfl dX1_meanCoins_11 ?_
    refine n_icmp_ge (tgt := 32) hx hb (by omega) (by omega) dX1_meanCoins_14 (by decide) (fun h6 => by omega) (fun h6 => ?_)
    refine lv_iload_n hx hb dX1_meanCoins_17 rfl (lv_at hl 1 rfl) ?_
    refine lv_aload_n hx hb dX1_meanCoins_18 rfl (lv_at hl 0 rfl) ?_
    refine r_get Fx hin hK hP 1 rfl 6 (by decide) (by decide +kernel) rfl rfl dX1_meanCoins_19 ?_
    refine lv_iload_n hx hb dX1_meanCoins_22 rfl (lv_at hl 2 rfl) ?_
    refine r_iald Fx hK hP 5 0 rfl rfl (i := i) (by omega) (by decide) dX1_meanCoins_23 ?_
    refine lv_iadd hx hb dX1_meanCoins_24 ?_
    refine lv_istore_n (lv' := [(1, .int ((sm (fun z => g 4 z) i) + (g 4 i))), (0, .ref (q 0)), (2, .int (nI i))]) hx hb dX1_meanCoins_25 rfl hl (by decide) rfl (fun ls hl => ?_)
    refine lv_iinc (v := nI (i + 1)) (lv' := [(2, .int (nI (i + 1))), (1, .int ((sm (fun z => g 4 z) i) + (g 4 i))), (0, .ref (q 0))]) hx hb dX1_meanCoins_26 hl (k := 2) rfl (nI_inc _ 1) (by decide) rfl (fun ls hl => ?_)
    refine lv_goto (tgt := 9) hx hb dX1_meanCoins_29 (by decide) ?_
    exact ih9 (trivial) _ (lv_sub hl [2, 1, 0] rfl)
set_option maxHeartbeats 4000000 in
set_option maxRecDepth 100000 in
theorem m_X1_die (l : Launch) {D : va_G} {ci cz cj : ClassId} {q : Nat → Nat} {F P : Nat} {g : Nat → Nat → Int32} {th : Int32} {he : Nat → Int32} {hn : Nat} (hq : DQ q 9) (hF : F ≤ 6) (hP12 : P ≤ 12) (a : Int32) (ha0 : Iv F P g) : Met l yX1_die wsX1_die ({ frames := 2, cells := 0, slots := 0, locals := 43 } : Room) (va_Pc [.ref (q 0), .int a] (B1 D ci cz cj q th F P g he hn)) (WQ (some (.int (rz (k_die P g a) (nI (sCHe g P (ix a)))))) (fun H => ∃ (he : Nat → Int32) (hn : Nat), va_P D vwCl (w1 ci cz q (nI (k_die P g a)) (sF (k_die P g a) F F) (sF (k_die P g a) P P) (sF (k_die P g a) (gDie g F P (ix a)) g) he hn) H) (aw q 9)) 0 0 (aw q 9) := by
  refine Met.ofWr (cc := cX1_die) (maxL := 5) (ret := (some .int)) (by decide) rfl (Nat.le_of_ble_eq_true rfl) ?_
  intro pg en s m bl mt cd ls Fx hr hlocks hB hl
  obtain ⟨hP, hK, hE⟩ := hB
  have hl : lv_has ls 5 [(0, .ref (q 0)), (1, .int a)] := hl
  have Fx : CallFix pg m cd cX1_die 5 s _ wsX1_die RX1 := Fx
  have hx := Fx.1
  have hb := Fx.2.1
  have hin : ∀ w ∈ wsX10, w ∈ wsX1_die := by decide +kernel
  have hS : va_S (aw q 9) s.heap s.heap [] := va_S.rf
  have hP : va_P D vwCl (w1 ci cz q th F P g he hn) s.heap := hP
  refine lv_aload_n hx hb dX1_die_0 rfl (lv_at hl 0 rfl) ?_
  refine lv_iconst (v := nI 0) hx hb dX1_die_1 (by decide) ?_
  refine r_put Fx hin tyX1 tyX1_ok nmX1 hK hP (d1 hq) hS 1 rfl 0 (by decide) (by decide +kernel) rfl (by decide +kernel) rfl (Nat.le_of_ble_eq_true rfl) dX1_die_2 (fun H locs hP hS => ?_)
  have hP : va_P D vwCl (w1 ci cz q (nI 0) F P g he hn) H := hP
  refine lv_aload_n hx hb dX1_die_5 rfl (lv_at hl 0 rfl) ?_
  refine lv_iload_n hx hb dX1_die_6 rfl (lv_at hl 1 rfl) ?_
  refine r_callR (rest := []) Fx (m_X1_isPerson l (D := D) (ci := ci) (cz := cz) (cj := cj) (q := q) (F := F) (P := P) (g := g) (th := nI 0) (he := he) (hn := hn) hF hP12 a ) (cwV 1 Fx.2.2.2.2 gX1_die_X1_isPerson rfl rfl rfl (by decide +kernel) ⟨Nat.le_of_ble_eq_true rfl, Nat.le_of_ble_eq_true rfl⟩) BW.bl (va_recv hK hP (ci := 1) (q0 := 0) rfl rfl) (BW.at hP hK hE hS) rfl hl.1 rfl (Nat.le_of_ble_eq_true rfl) dX1_die_7 ⟨Nat.zero_le _, Nat.zero_le _⟩ ?_
  refine b_if_ne (tgt := 19) hx hb dX1_die_10 (by decide) (fun h1 => ?_) (fun h1 => ?_)
  · have h1 := of_decide_eq_true h1
    obtain ⟨ja, h2, rfl⟩ := inR_of h1 (by omega)
    have h3 : ix (nI ja) = ja := ix_nI (by omega)
    refine lv_aload_n hx hb dX1_die_19 rfl (lv_at hl 0 rfl) ?_
    refine r_get Fx hin hK hP 1 rfl 9 (by decide) (by decide +kernel) rfl rfl dX1_die_20 ?_
    refine lv_iload_n hx hb dX1_die_23 rfl (lv_at hl 1 rfl) ?_
    refine r_zald Fx hK hP 4 1 rfl rfl (i := ja) (by omega) (by decide) dX1_die_24 ?_
    refine lv_if_eq (tgt := 34) hx hb dX1_die_25 (by decide) (fun h4 => ?_) (fun h4 => ?_)
    · refine lv_aload_n hx hb dX1_die_34 rfl (lv_at hl 0 rfl) ?_
      refine lv_iload_n hx hb dX1_die_35 rfl (lv_at hl 1 rfl) ?_
      refine r_callW (rest := []) Fx (m_X1_lookForHeirs l (D := D) (ci := ci) (cz := cz) (cj := cj) (q := q) (F := F) (P := P) (g := g) (th := nI 0) (he := he) (hn := hn) hq hF hP12 ja ha0 (by omega)) (cwV 1 Fx.2.2.2.2 gX1_die_X1_lookForHeirs rfl rfl rfl (by decide +kernel) ⟨Nat.le_of_ble_eq_true rfl, Nat.le_of_ble_eq_true rfl⟩) BW.bl (va_recv hK hP (ci := 1) (q0 := 0) rfl rfl) (BW.at hP hK hE hS) rfl hl.1 rfl (Nat.le_of_ble_eq_true rfl) dX1_die_36 ⟨Nat.zero_le _, Nat.zero_le _⟩ hS (fun _ h => h) (fun H locs hP hS _ _ => ?_)
      obtain ⟨he0, hHe, hP⟩ := hP
      have hP : va_P D vwCl (w1 ci cz q (nI 0) F P g he0 (sCHe g P ja)) H := hP
      have hcc : sCHe g P ja ≤ 12 := Nat.le_trans (cn_le _ _) hP12
      refine lv_iconst (v := nI 0) hx hb dX1_die_39 (by decide) ?_
      refine lv_istore_n (lv' := [(2, .int (nI 0)), (0, .ref (q 0)), (1, .int (nI ja))]) hx hb dX1_die_40 rfl hl (by decide) rfl (fun ls hl => ?_)
      refine wloop (nL := 5) (N := F * 4) (fun _ => True) (fun i => [(0, .ref (q 0)), (1, .int (nI ja)), (2, .int (nI i))]) (fun i H => va_P D vwCl (w1 ci cz q (nI 0) F P (gOu g ja (sCHe g P ja) he0 i) he0 (sCHe g P ja)) H) (trivial) (hP) hS (lv_sub hl [1, 2, 0] rfl) ?_ ?_
      · intro h5 H locs ls hP hS hl
        have hl : lv_has ls 5 [(0, .ref (q 0)), (1, .int (nI ja)), (2, .int (nI (F * 4)))] := hl
        have hP : va_P D vwCl (w1 ci cz q (nI 0) F P (gOu g ja (sCHe g P ja) he0 (F * 4)) he0 (sCHe g P ja)) H := hP
        refine lv_iload_n hx hb dX1_die_41 rfl (lv_at hl 2 rfl) ?_
        refine lv_aload_n hx hb dX1_die_42 rfl (lv_at hl 0 rfl) ?_
        refine r_get Fx hin hK hP 1 rfl 1 (by decide) (by decide +kernel) rfl rfl dX1_die_43 ?_
        refine lv_iconst (v := nI 4) hx hb dX1_die_46 (by decide) ?_
        refine r_imul_n hx hb dX1_die_47 ?_
        refine n_icmp_ge (tgt := 126) hx hb (by omega) (by omega) dX1_die_48 (by decide) (fun h6 => ?_) (fun h6 => by omega)
        refine lv_iconst (v := nI 0) hx hb dX1_die_126 (by decide) ?_
        refine lv_istore_n (lv' := [(2, .int (nI 0)), (0, .ref (q 0)), (1, .int (nI ja))]) hx hb dX1_die_127 rfl hl (by decide) rfl (fun ls hl => ?_)
        refine wloop (nL := 5) (N := sCHe g P ja) (fun _ => True) (fun i => [(0, .ref (q 0)), (1, .int (nI ja)), (2, .int (nI i))]) (fun i H => va_P D vwCl (w1 ci cz q (nI 0) F P (gCo (gOu g ja (sCHe g P ja) he0 (F * 4)) ja (sCHe g P ja) he0 i) he0 (sCHe g P ja)) H) (trivial) (hP) hS (lv_sub hl [1, 2, 0] rfl) ?_ ?_
        · intro h7 H locs ls hP hS hl
          have hl : lv_has ls 5 [(0, .ref (q 0)), (1, .int (nI ja)), (2, .int (nI (sCHe g P ja)))] := hl
          have hP : va_P D vwCl (w1 ci cz q (nI 0) F P (gCo (gOu g ja (sCHe g P ja) he0 (F * 4)) ja (sCHe g P ja) he0 (sCHe g P ja)) he0 (sCHe g P ja)) H := hP
          refine lv_iload_n hx hb dX1_die_128 rfl (lv_at hl 2 rfl) ?_
          refine lv_aload_n hx hb dX1_die_129 rfl (lv_at hl 0 rfl) ?_
          refine r_get Fx hin hK hP 1 rfl 12 (by decide) (by decide +kernel) rfl rfl dX1_die_130 ?_
          refine n_icmp_ge (tgt := 163) hx hb (by omega) (by omega) dX1_die_133 (by decide) (fun h8 => ?_) (fun h8 => by omega)
          refine lv_aload_n hx hb dX1_die_163 rfl (lv_at hl 0 rfl) ?_
          refine r_get Fx hin hK hP 1 rfl 12 (by decide) (by decide +kernel) rfl rfl dX1_die_164 ?_
          refine n_if_ne (tgt := 185) hx hb (by omega) dX1_die_167 (by decide) (fun h9 => ?_) (fun h9 => ?_)
          · refine lv_aload_n hx hb dX1_die_185 rfl (lv_at hl 0 rfl) ?_
            refine r_get Fx hin hK hP 1 rfl 6 (by decide) (by decide +kernel) rfl rfl dX1_die_186 ?_
            refine lv_iload_n hx hb dX1_die_189 rfl (lv_at hl 1 rfl) ?_
            refine lv_iconst (v := nI 0) hx hb dX1_die_190 (by decide) ?_
            refine r_iast Fx hK hP (d1 hq) hS 5 0 rfl rfl (i := ja) (by omega) (by decide) dX1_die_191 (fun H locs hP hS => ?_)
            have hP : va_P D vwCl (w1 ci cz q (nI 0) F P (va_up (gCo (gOu g ja (sCHe g P ja) he0 (F * 4)) ja (sCHe g P ja) he0 (sCHe g P ja)) 4 (upd ((gCo (gOu g ja (sCHe g P ja) he0 (F * 4)) ja (sCHe g P ja) he0 (sCHe g P ja)) 4) ja (nI 0))) he0 (sCHe g P ja)) H := hP
            refine lv_aload_n hx hb dX1_die_192 rfl (lv_at hl 0 rfl) ?_
            refine r_get Fx hin hK hP 1 rfl 9 (by decide) (by decide +kernel) rfl rfl dX1_die_193 ?_
            refine lv_iload_n hx hb dX1_die_196 rfl (lv_at hl 1 rfl) ?_
            refine lv_iconst (v := nI 1) hx hb dX1_die_197 (by decide) ?_
            refine r_zast Fx hK hP (d1 hq) hS 4 1 rfl rfl (i := ja) (by omega) (by decide) rfl dX1_die_198 (fun H locs hP hS => ?_)
            have hP : va_P D vwCl (w1 ci cz q (nI 0) F P (va_up (va_up (gCo (gOu g ja (sCHe g P ja) he0 (F * 4)) ja (sCHe g P ja) he0 (sCHe g P ja)) 4 (upd ((gCo (gOu g ja (sCHe g P ja) he0 (F * 4)) ja (sCHe g P ja) he0 (sCHe g P ja)) 4) ja (nI 0))) 3 (upd ((va_up (gCo (gOu g ja (sCHe g P ja) he0 (F * 4)) ja (sCHe g P ja) he0 (sCHe g P ja)) 4 (upd ((gCo (gOu g ja (sCHe g P ja) he0 (F * 4)) ja (sCHe g P ja) he0 (sCHe g P ja)) 4) ja (nI 0))) 3) ja (nI 1))) he0 (sCHe g P ja)) H := hP
            refine lv_aload_n hx hb dX1_die_199 rfl (lv_at hl 0 rfl) ?_
            refine r_get Fx hin hK hP 1 rfl 12 (by decide) (by decide +kernel) rfl rfl dX1_die_200 ?_
            exact w_iret hx hb hr hlocks hS (⟨_, _, w1_0 (by simp [k_die, lv, inR, inB, Int32.not_lt, Int32.not_le, h1, h2, h3, h4, h6, h8, h9]) (by have e9 := (die_1 (F := F) (k := ja) hP12 (by omega) hHe _ rfl).2 h9; simp only [h3]; rw [← e9]; exact hP)⟩) (rz_0 (by simp [k_die, lv, inR, inB, Int32.not_lt, Int32.not_le, h1, h2, h3, h4, h6, h8, h9]) (by simp [k_die, lv, h1, h2, h3, h4, h6, h8, h9])) dX1_die_203
          · refine lv_aload_n hx hb dX1_die_170 rfl (lv_at hl 0 rfl) ?_
            refine lv_dup hx hb dX1_die_171 rfl ?_
            refine r_get Fx hin hK hP 1 rfl 10 (by decide) (by decide +kernel) rfl rfl dX1_die_172 ?_
            refine lv_aload_n hx hb dX1_die_175 rfl (lv_at hl 0 rfl) ?_
            refine r_get Fx hin hK hP 1 rfl 6 (by decide) (by decide +kernel) rfl rfl dX1_die_176 ?_
            refine lv_iload_n hx hb dX1_die_179 rfl (lv_at hl 1 rfl) ?_
            refine r_iald Fx hK hP 5 0 rfl rfl (i := ja) (by omega) (by decide) dX1_die_180 ?_
            refine lv_iadd hx hb dX1_die_181 ?_
            refine r_put Fx hin tyX1 tyX1_ok nmX1 hK hP (d1 hq) hS 1 rfl 10 (by decide) (by decide +kernel) rfl (by decide +kernel) rfl (Nat.le_of_ble_eq_true rfl) dX1_die_182 (fun H locs hP hS => ?_)
            have hP : va_P D vwCl (w1 ci cz q (nI 0) F P (gCro (gCo (gOu g ja (sCHe g P ja) he0 (F * 4)) ja (sCHe g P ja) he0 (sCHe g P ja)) (gCo (gOu g ja (sCHe g P ja) he0 (F * 4)) ja (sCHe g P ja) he0 (sCHe g P ja) 4 ja)) he0 (sCHe g P ja)) H := hP
            refine lv_aload_n hx hb dX1_die_185 rfl (lv_at hl 0 rfl) ?_
            refine r_get Fx hin hK hP 1 rfl 6 (by decide) (by decide +kernel) rfl rfl dX1_die_186 ?_
            refine lv_iload_n hx hb dX1_die_189 rfl (lv_at hl 1 rfl) ?_
            refine lv_iconst (v := nI 0) hx hb dX1_die_190 (by decide) ?_
            refine r_iast Fx hK hP (d1 hq) hS 5 0 rfl rfl (i := ja) (by omega) (by decide) dX1_die_191 (fun H locs hP hS => ?_)
            have hP : va_P D vwCl (w1 ci cz q (nI 0) F P (va_up (gCro (gCo (gOu g ja (sCHe g P ja) he0 (F * 4)) ja (sCHe g P ja) he0 (sCHe g P ja)) (gCo (gOu g ja (sCHe g P ja) he0 (F * 4)) ja (sCHe g P ja) he0 (sCHe g P ja) 4 ja)) 4 (upd ((gCro (gCo (gOu g ja (sCHe g P ja) he0 (F * 4)) ja (sCHe g P ja) he0 (sCHe g P ja)) (gCo (gOu g ja (sCHe g P ja) he0 (F * 4)) ja (sCHe g P ja) he0 (sCHe g P ja) 4 ja)) 4) ja (nI 0))) he0 (sCHe g P ja)) H := hP
            refine lv_aload_n hx hb dX1_die_192 rfl (lv_at hl 0 rfl) ?_
            refine r_get Fx hin hK hP 1 rfl 9 (by decide) (by decide +kernel) rfl rfl dX1_die_193 ?_
            refine lv_iload_n hx hb dX1_die_196 rfl (lv_at hl 1 rfl) ?_
            refine lv_iconst (v := nI 1) hx hb dX1_die_197 (by decide) ?_
            refine r_zast Fx hK hP (d1 hq) hS 4 1 rfl rfl (i := ja) (by omega) (by decide) rfl dX1_die_198 (fun H locs hP hS => ?_)
            have hP : va_P D vwCl (w1 ci cz q (nI 0) F P (va_up (va_up (gCro (gCo (gOu g ja (sCHe g P ja) he0 (F * 4)) ja (sCHe g P ja) he0 (sCHe g P ja)) (gCo (gOu g ja (sCHe g P ja) he0 (F * 4)) ja (sCHe g P ja) he0 (sCHe g P ja) 4 ja)) 4 (upd ((gCro (gCo (gOu g ja (sCHe g P ja) he0 (F * 4)) ja (sCHe g P ja) he0 (sCHe g P ja)) (gCo (gOu g ja (sCHe g P ja) he0 (F * 4)) ja (sCHe g P ja) he0 (sCHe g P ja) 4 ja)) 4) ja (nI 0))) 3 (upd ((va_up (gCro (gCo (gOu g ja (sCHe g P ja) he0 (F * 4)) ja (sCHe g P ja) he0 (sCHe g P ja)) (gCo (gOu g ja (sCHe g P ja) he0 (F * 4)) ja (sCHe g P ja) he0 (sCHe g P ja) 4 ja)) 4 (upd ((gCro (gCo (gOu g ja (sCHe g P ja) he0 (F * 4)) ja (sCHe g P ja) he0 (sCHe g P ja)) (gCo (gOu g ja (sCHe g P ja) he0 (F * 4)) ja (sCHe g P ja) he0 (sCHe g P ja) 4 ja)) 4) ja (nI 0))) 3) ja (nI 1))) he0 (sCHe g P ja)) H := hP
            refine lv_aload_n hx hb dX1_die_199 rfl (lv_at hl 0 rfl) ?_
            refine r_get Fx hin hK hP 1 rfl 12 (by decide) (by decide +kernel) rfl rfl dX1_die_200 ?_
            exact w_iret hx hb hr hlocks hS (⟨_, _, w1_0 (by simp [k_die, lv, inR, inB, Int32.not_lt, Int32.not_le, h1, h2, h3, h4, h6, h8, h9]) (by have e9 := (die_1 (F := F) (k := ja) hP12 (by omega) hHe _ rfl).1 h9; simp only [h3]; rw [← e9]; exact hP)⟩) (rz_0 (by simp [k_die, lv, inR, inB, Int32.not_lt, Int32.not_le, h1, h2, h3, h4, h6, h8, h9]) (by simp [k_die, lv, h1, h2, h3, h4, h6, h8, h9])) dX1_die_203
        · intro i h11 h10 ih128 H locs ls hP hS hl
          have hl : lv_has ls 5 [(0, .ref (q 0)), (1, .int (nI ja)), (2, .int (nI i))] := hl
          have hP : va_P D vwCl (w1 ci cz q (nI 0) F P (gCo (gOu g ja (sCHe g P ja) he0 (F * 4)) ja (sCHe g P ja) he0 i) he0 (sCHe g P ja)) H := hP
          refine lv_iload_n hx hb dX1_die_128 rfl (lv_at hl 2 rfl) ?_
          refine lv_aload_n hx hb dX1_die_129 rfl (lv_at hl 0 rfl) ?_
          refine r_get Fx hin hK hP 1 rfl 12 (by decide) (by decide +kernel) rfl rfl dX1_die_130 ?_
          refine n_icmp_ge (tgt := 163) hx hb (by omega) (by omega) dX1_die_133 (by decide) (fun h12 => by omega) (fun h12 => ?_)
          obtain ⟨hix, heq⟩ := he_ix hP12 hHe (show i < sCHe g P ja by assumption)
          refine lv_aload_n hx hb dX1_die_136 rfl (lv_at hl 0 rfl) ?_
          refine lv_aload_n hx hb dX1_die_137 rfl (lv_at hl 0 rfl) ?_
          refine r_get Fx hin hK hP 1 rfl 11 (by decide) (by decide +kernel) rfl rfl dX1_die_138 ?_
          refine lv_iload_n hx hb dX1_die_141 rfl (lv_at hl 2 rfl) ?_
          refine r_iald Fx hK hP 8 0 rfl rfl (i := i) (by omega) (by decide) dX1_die_142 ?_
          refine r_as (nI (ix (he0 i))) heq ?_
          refine lv_aload_n hx hb dX1_die_143 rfl (lv_at hl 0 rfl) ?_
          refine lv_aload_n hx hb dX1_die_144 rfl (lv_at hl 0 rfl) ?_
          refine r_get Fx hin hK hP 1 rfl 6 (by decide) (by decide +kernel) rfl rfl dX1_die_145 ?_
          refine lv_iload_n hx hb dX1_die_148 rfl (lv_at hl 1 rfl) ?_
          refine r_iald Fx hK hP 5 0 rfl rfl (i := ja) (by omega) (by decide) dX1_die_149 ?_
          refine lv_iload_n hx hb dX1_die_150 rfl (lv_at hl 2 rfl) ?_
          refine r_callR (rest := [.int (nI (ix (he0 i))), .ref (q 0)]) Fx (m_X1_partOf l (D := D) (ci := ci) (cz := cz) (cj := cj) (q := q) (F := F) (P := P) (g := gCo (gOu g ja (sCHe g P ja) he0 (F * 4)) ja (sCHe g P ja) he0 i) (th := nI 0) (he := he0) (hn := sCHe g P ja) hF hP12 ((gCo (gOu g ja (sCHe g P ja) he0 (F * 4)) ja (sCHe g P ja) he0 i) 4 ja) i (by omega) (by omega) (by omega)) (cwV 2 Fx.2.2.2.2 gX1_die_X1_partOf rfl rfl rfl (by decide +kernel) ⟨Nat.le_of_ble_eq_true rfl, Nat.le_of_ble_eq_true rfl⟩) BW.bl (va_recv hK hP (ci := 1) (q0 := 0) rfl rfl) (BW.at hP hK hE hS) rfl hl.1 rfl (Nat.le_of_ble_eq_true rfl) dX1_die_151 ⟨Nat.zero_le _, Nat.zero_le _⟩ ?_
          refine r_callW (rest := []) Fx (m_X1_get l (D := D) (ci := ci) (cz := cz) (cj := cj) (q := q) (F := F) (P := P) (g := gCo (gOu g ja (sCHe g P ja) he0 (F * 4)) ja (sCHe g P ja) he0 i) (th := nI 0) (he := he0) (hn := sCHe g P ja) hq hF hP12 (ix (he0 i)) (sPar ((gCo (gOu g ja (sCHe g P ja) he0 (F * 4)) ja (sCHe g P ja) he0 i) 4 ja) (sCHe g P ja) i) (by omega)) (cwV 2 Fx.2.2.2.2 gX1_die_X1_get rfl rfl rfl (by decide +kernel) ⟨Nat.le_of_ble_eq_true rfl, Nat.le_of_ble_eq_true rfl⟩) BW.bl (va_recv hK hP (ci := 1) (q0 := 0) rfl rfl) (BW.at hP hK hE hS) rfl hl.1 rfl (Nat.le_of_ble_eq_true rfl) dX1_die_154 ⟨Nat.zero_le _, Nat.zero_le _⟩ hS (fun _ h => h) (fun H locs hP hS _ _ => ?_)
          have hP : va_P D vwCl (w1 ci cz q (nI 0) F P (gGet (gCo (gOu g ja (sCHe g P ja) he0 (F * 4)) ja (sCHe g P ja) he0 i) (ix (he0 i)) (sPar ((gCo (gOu g ja (sCHe g P ja) he0 (F * 4)) ja (sCHe g P ja) he0 i) 4 ja) (sCHe g P ja) i)) he0 (sCHe g P ja)) H := hP
          refine lv_iinc (v := nI (i + 1)) (lv' := [(2, .int (nI (i + 1))), (0, .ref (q 0)), (1, .int (nI ja))]) hx hb dX1_die_157 hl (k := 2) rfl (nI_inc _ 1) (by decide) rfl (fun ls hl => ?_)
          refine lv_goto (tgt := 128) hx hb dX1_die_160 (by decide) ?_
          exact ih128 (trivial) _ _ _ (hP) hS (lv_sub hl [1, 2, 0] rfl)
      · intro i h14 h13 ih41 H locs ls hP hS hl
        have hl : lv_has ls 5 [(0, .ref (q 0)), (1, .int (nI ja)), (2, .int (nI i))] := hl
        have hP : va_P D vwCl (w1 ci cz q (nI 0) F P (gOu g ja (sCHe g P ja) he0 i) he0 (sCHe g P ja)) H := hP
        refine lv_iload_n hx hb dX1_die_41 rfl (lv_at hl 2 rfl) ?_
        refine lv_aload_n hx hb dX1_die_42 rfl (lv_at hl 0 rfl) ?_
        refine r_get Fx hin hK hP 1 rfl 1 (by decide) (by decide +kernel) rfl rfl dX1_die_43 ?_
        refine lv_iconst (v := nI 4) hx hb dX1_die_46 (by decide) ?_
        refine r_imul_n hx hb dX1_die_47 ?_
        refine n_icmp_ge (tgt := 126) hx hb (by omega) (by omega) dX1_die_48 (by decide) (fun h15 => by omega) (fun h15 => ?_)
        refine lv_aload_n hx hb dX1_die_51 rfl (lv_at hl 0 rfl) ?_
        refine r_get Fx hin hK hP 1 rfl 4 (by decide) (by decide +kernel) rfl rfl dX1_die_52 ?_
        refine lv_bipush (v := nI 12) hx hb dX1_die_55 (by decide) ?_
        refine lv_iload_n hx hb dX1_die_57 rfl (lv_at hl 2 rfl) ?_
        refine r_imul_n hx hb dX1_die_58 ?_
        refine lv_iload_n hx hb dX1_die_59 rfl (lv_at hl 1 rfl) ?_
        refine r_iadd_n hx hb dX1_die_60 ?_
        refine r_iald Fx hK hP 3 0 rfl rfl (i := (12 * i) + ja) (by omega) (by decide) dX1_die_61 ?_
        refine lv_istore_n (lv' := [(3, .int ((gOu g ja (sCHe g P ja) he0 i) 2 ((12 * i) + ja))), (0, .ref (q 0)), (1, .int (nI ja)), (2, .int (nI i))]) hx hb dX1_die_62 rfl hl (by decide) rfl (fun ls hl => ?_)
        refine lv_aload_n hx hb dX1_die_63 rfl (lv_at hl 1 rfl) ?_
        refine r_get Fx hin hK hP 1 rfl 4 (by decide) (by decide +kernel) rfl rfl dX1_die_64 ?_
        refine lv_bipush (v := nI 12) hx hb dX1_die_67 (by decide) ?_
        refine lv_iload_n hx hb dX1_die_69 rfl (lv_at hl 3 rfl) ?_
        refine r_imul_n hx hb dX1_die_70 ?_
        refine lv_iload_n hx hb dX1_die_71 rfl (lv_at hl 2 rfl) ?_
        refine r_iadd_n hx hb dX1_die_72 ?_
        refine lv_iconst (v := nI 0) hx hb dX1_die_73 (by decide) ?_
        refine r_iast Fx hK hP (d1 hq) hS 3 0 rfl rfl (i := (12 * i) + ja) (by omega) (by decide) dX1_die_74 (fun H locs hP hS => ?_)
        have hP : va_P D vwCl (w1 ci cz q (nI 0) F P (va_up (gOu g ja (sCHe g P ja) he0 i) 2 (upd ((gOu g ja (sCHe g P ja) he0 i) 2) ((12 * i) + ja) (nI 0))) he0 (sCHe g P ja)) H := hP
        refine lv_iconst (v := nI 0) hx hb dX1_die_75 (by decide) ?_
        refine lv_istore (lv' := [(4, .int (nI 0)), (3, .int ((gOu g ja (sCHe g P ja) he0 i) 2 ((12 * i) + ja))), (0, .ref (q 0)), (1, .int (nI ja)), (2, .int (nI i))]) hx hb dX1_die_76 hl (by decide) rfl (fun ls hl => ?_)
        refine wloop (nL := 5) (N := sCHe g P ja) (fun _ => True) (fun i' => [(0, .ref (q 0)), (1, .int (nI ja)), (2, .int (nI i)), (3, .int ((gOu g ja (sCHe g P ja) he0 i) 2 ((12 * i) + ja))), (4, .int (nI i'))]) (fun i' H => va_P D vwCl (w1 ci cz q (nI 0) F P (gIn (va_up (gOu g ja (sCHe g P ja) he0 i) 2 (upd (gOu g ja (sCHe g P ja) he0 i 2) (12 * i + ja) (nI 0))) i (gOu g ja (sCHe g P ja) he0 i 2 (12 * i + ja)) he0 (sCHe g P ja) i') he0 (sCHe g P ja)) H) (trivial) (hP) hS (lv_sub hl [2, 3, 4, 1, 0] rfl) ?_ ?_
        · intro h16 H locs ls hP hS hl
          have hl : lv_has ls 5 [(0, .ref (q 0)), (1, .int (nI ja)), (2, .int (nI i)), (3, .int ((gOu g ja (sCHe g P ja) he0 i) 2 ((12 * i) + ja))), (4, .int (nI (sCHe g P ja)))] := hl
          have hP : va_P D vwCl (w1 ci cz q (nI 0) F P (gIn (va_up (gOu g ja (sCHe g P ja) he0 i) 2 (upd (gOu g ja (sCHe g P ja) he0 i 2) (12 * i + ja) (nI 0))) i (gOu g ja (sCHe g P ja) he0 i 2 (12 * i + ja)) he0 (sCHe g P ja) (sCHe g P ja)) he0 (sCHe g P ja)) H := hP
          refine lv_iload hx hb dX1_die_78 (lv_at hl 4 rfl) ?_
          refine lv_aload_n hx hb dX1_die_80 rfl (lv_at hl 0 rfl) ?_
          refine r_get Fx hin hK hP 1 rfl 12 (by decide) (by decide +kernel) rfl rfl dX1_die_81 ?_
          refine n_icmp_ge (tgt := 120) hx hb (by omega) (by omega) dX1_die_84 (by decide) (fun h17 => ?_) (fun h17 => by omega)
          refine lv_iinc (v := nI (i + 1)) (lv' := [(2, .int (nI (i + 1))), (0, .ref (q 0)), (1, .int (nI ja)), (3, .int ((gOu g ja (sCHe g P ja) he0 i) 2 ((12 * i) + ja))), (4, .int (nI (sCHe g P ja)))]) hx hb dX1_die_120 hl (k := 2) rfl (nI_inc _ 1) (by decide) rfl (fun ls hl => ?_)
          refine lv_goto (tgt := 41) hx hb dX1_die_123 (by decide) ?_
          exact ih41 (trivial) _ _ _ (hP) hS (lv_sub hl [1, 2, 0] rfl)
        · intro i' h19 h18 ih78 H locs ls hP hS hl
          have hl : lv_has ls 5 [(0, .ref (q 0)), (1, .int (nI ja)), (2, .int (nI i)), (3, .int ((gOu g ja (sCHe g P ja) he0 i) 2 ((12 * i) + ja))), (4, .int (nI i'))] := hl
          have hP : va_P D vwCl (w1 ci cz q (nI 0) F P (gIn (va_up (gOu g ja (sCHe g P ja) he0 i) 2 (upd (gOu g ja (sCHe g P ja) he0 i 2) (12 * i + ja) (nI 0))) i (gOu g ja (sCHe g P ja) he0 i 2 (12 * i + ja)) he0 (sCHe g P ja) i') he0 (sCHe g P ja)) H := hP
          refine lv_iload hx hb dX1_die_78 (lv_at hl 4 rfl) ?_
          refine lv_aload_n hx hb dX1_die_80 rfl (lv_at hl 0 rfl) ?_
          refine r_get Fx hin hK hP 1 rfl 12 (by decide) (by decide +kernel) rfl rfl dX1_die_81 ?_
          refine n_icmp_ge (tgt := 120) hx hb (by omega) (by omega) dX1_die_84 (by decide) (fun h20 => by omega) (fun h20 => ?_)
          obtain ⟨hix, heq⟩ := he_ix hP12 hHe (show i' < sCHe g P ja by assumption)
          refine lv_aload_n hx hb dX1_die_87 rfl (lv_at hl 0 rfl) ?_
          refine r_get Fx hin hK hP 1 rfl 4 (by decide) (by decide +kernel) rfl rfl dX1_die_88 ?_
          refine lv_bipush (v := nI 12) hx hb dX1_die_91 (by decide) ?_
          refine lv_iload_n hx hb dX1_die_93 rfl (lv_at hl 2 rfl) ?_
          refine r_imul_n hx hb dX1_die_94 ?_
          refine lv_aload_n hx hb dX1_die_95 rfl (lv_at hl 0 rfl) ?_
          refine r_get Fx hin hK hP 1 rfl 11 (by decide) (by decide +kernel) rfl rfl dX1_die_96 ?_
          refine lv_iload hx hb dX1_die_99 (lv_at hl 4 rfl) ?_
          refine r_iald Fx hK hP 8 0 rfl rfl (i := i') (by omega) (by decide) dX1_die_101 ?_
          refine r_as (nI (ix (he0 i'))) heq ?_
          refine r_iadd_n hx hb dX1_die_102 ?_
          refine lv_dup2_11 hx hb dX1_die_103 rfl rfl ?_
          refine r_iald Fx hK hP 3 0 rfl rfl (i := (12 * i) + (ix (he0 i'))) (by omega) (by decide) dX1_die_104 ?_
          refine lv_aload_n hx hb dX1_die_105 rfl (lv_at hl 0 rfl) ?_
          refine lv_iload_n hx hb dX1_die_106 rfl (lv_at hl 3 rfl) ?_
          refine lv_iload hx hb dX1_die_107 (lv_at hl 4 rfl) ?_
          refine r_callR (rest := [.int ((gIn (va_up (gOu g ja (sCHe g P ja) he0 i) 2 (upd (gOu g ja (sCHe g P ja) he0 i 2) (12 * i + ja) (nI 0))) i (gOu g ja (sCHe g P ja) he0 i 2 (12 * i + ja)) he0 (sCHe g P ja) i') 2 ((12 * i) + (ix (he0 i')))), .int (nI ((12 * i) + (ix (he0 i')))), .ref (q 3)]) Fx (m_X1_partOf l (D := D) (ci := ci) (cz := cz) (cj := cj) (q := q) (F := F) (P := P) (g := gIn (va_up (gOu g ja (sCHe g P ja) he0 i) 2 (upd (gOu g ja (sCHe g P ja) he0 i 2) (12 * i + ja) (nI 0))) i (gOu g ja (sCHe g P ja) he0 i 2 (12 * i + ja)) he0 (sCHe g P ja) i') (th := nI 0) (he := he0) (hn := sCHe g P ja) hF hP12 ((gOu g ja (sCHe g P ja) he0 i) 2 ((12 * i) + ja)) i' (by omega) (by omega) (by omega)) (cwV 2 Fx.2.2.2.2 gX1_die_X1_partOf rfl rfl rfl (by decide +kernel) ⟨Nat.le_of_ble_eq_true rfl, Nat.le_of_ble_eq_true rfl⟩) BW.bl (va_recv hK hP (ci := 1) (q0 := 0) rfl rfl) (BW.at hP hK hE hS) rfl hl.1 rfl (Nat.le_of_ble_eq_true rfl) dX1_die_109 ⟨Nat.zero_le _, Nat.zero_le _⟩ ?_
          refine lv_iadd hx hb dX1_die_112 ?_
          refine r_iast Fx hK hP (d1 hq) hS 3 0 rfl rfl (i := (12 * i) + (ix (he0 i'))) (by omega) (by decide) dX1_die_113 (fun H locs hP hS => ?_)
          have hP : va_P D vwCl (w1 ci cz q (nI 0) F P (va_up (gIn (va_up (gOu g ja (sCHe g P ja) he0 i) 2 (upd (gOu g ja (sCHe g P ja) he0 i 2) (12 * i + ja) (nI 0))) i (gOu g ja (sCHe g P ja) he0 i 2 (12 * i + ja)) he0 (sCHe g P ja) i') 2 (upd ((gIn (va_up (gOu g ja (sCHe g P ja) he0 i) 2 (upd (gOu g ja (sCHe g P ja) he0 i 2) (12 * i + ja) (nI 0))) i (gOu g ja (sCHe g P ja) he0 i 2 (12 * i + ja)) he0 (sCHe g P ja) i') 2) ((12 * i) + (ix (he0 i'))) (((gIn (va_up (gOu g ja (sCHe g P ja) he0 i) 2 (upd (gOu g ja (sCHe g P ja) he0 i 2) (12 * i + ja) (nI 0))) i (gOu g ja (sCHe g P ja) he0 i 2 (12 * i + ja)) he0 (sCHe g P ja) i') 2 ((12 * i) + (ix (he0 i')))) + (sPar ((gOu g ja (sCHe g P ja) he0 i) 2 ((12 * i) + ja)) (sCHe g P ja) i')))) he0 (sCHe g P ja)) H := hP
          refine lv_iinc (v := nI (i' + 1)) (lv' := [(4, .int (nI (i' + 1))), (0, .ref (q 0)), (1, .int (nI ja)), (2, .int (nI i)), (3, .int ((gOu g ja (sCHe g P ja) he0 i) 2 ((12 * i) + ja)))]) hx hb dX1_die_114 hl (k := 4) rfl (nI_inc _ 1) (by decide) rfl (fun ls hl => ?_)
          refine lv_goto (tgt := 78) hx hb dX1_die_117 (by decide) ?_
          exact ih78 (trivial) _ _ _ (hP) hS (lv_sub hl [1, 2, 3, 4, 0] rfl)
    · refine lv_aload_n hx hb dX1_die_28 rfl (lv_at hl 0 rfl) ?_
      refine lv_iconst (v := nI 2) hx hb dX1_die_29 (by decide) ?_
      refine r_callW (rest := []) Fx (m_X1_no l (D := D) (ci := ci) (cz := cz) (cj := cj) (q := q) (F := F) (P := P) (g := g) (th := nI 0) (he := he) (hn := hn) hq hF hP12 (nI 2) ) (cwV 1 Fx.2.2.2.2 gX1_die_X1_no rfl rfl rfl (by decide +kernel) ⟨Nat.le_of_ble_eq_true rfl, Nat.le_of_ble_eq_true rfl⟩) BW.bl (va_recv hK hP (ci := 1) (q0 := 0) rfl rfl) (BW.at hP hK hE hS) rfl hl.1 rfl (Nat.le_of_ble_eq_true rfl) dX1_die_30 ⟨Nat.zero_le _, Nat.zero_le _⟩ hS (fun _ h => h) (fun H locs hP hS _ _ => ?_)
      have hP : va_P D vwCl (w1 ci cz q (nI 2) F P g he hn) H := hP
      exact w_iret hx hb hr hlocks hS (⟨_, _, w1_n 1 (by simp [k_die, lv, inR, inB, Int32.not_lt, Int32.not_le, h1, h2, h3, h4]) hP⟩) (rz_n 1 (by simp [k_die, lv, inR, inB, Int32.not_lt, Int32.not_le, h1, h2, h3, h4])) dX1_die_33
  · have h1 := of_decide_eq_false h1
    refine lv_aload_n hx hb dX1_die_13 rfl (lv_at hl 0 rfl) ?_
    refine lv_iconst (v := nI 1) hx hb dX1_die_14 (by decide) ?_
    refine r_callW (rest := []) Fx (m_X1_no l (D := D) (ci := ci) (cz := cz) (cj := cj) (q := q) (F := F) (P := P) (g := g) (th := nI 0) (he := he) (hn := hn) hq hF hP12 (nI 1) ) (cwV 1 Fx.2.2.2.2 gX1_die_X1_no rfl rfl rfl (by decide +kernel) ⟨Nat.le_of_ble_eq_true rfl, Nat.le_of_ble_eq_true rfl⟩) BW.bl (va_recv hK hP (ci := 1) (q0 := 0) rfl rfl) (BW.at hP hK hE hS) rfl hl.1 rfl (Nat.le_of_ble_eq_true rfl) dX1_die_15 ⟨Nat.zero_le _, Nat.zero_le _⟩ hS (fun _ h => h) (fun H locs hP hS _ _ => ?_)
    have hP : va_P D vwCl (w1 ci cz q (nI 1) F P g he hn) H := hP
    exact w_iret hx hb hr hlocks hS (⟨_, _, w1_n 0 (by simp [k_die, lv, inR, inB, Int32.not_lt, Int32.not_le, h1]) hP⟩) (rz_n 0 (by simp [k_die, lv, inR, inB, Int32.not_lt, Int32.not_le, h1])) dX1_die_18
