/-! FerryRightsModel, I -/
set_option maxHeartbeats 4000000 in
set_option maxRecDepth 100000 in
theorem m_X1_thrown (l : Launch) {D : va_G} {ci cz cj : ClassId} {q : Nat → Nat} {F P : Nat} {g : Nat → Nat → Int32} {th : Int32} {he : Nat → Int32} {hn : Nat} (hF : F ≤ 6) (hP12 : P ≤ 12) : Met l yX1_thrown wsX1_thrown ({ frames := 0, cells := 0, slots := 0, locals := 0 } : Room) (va_Pc [.ref (q 0)] (B1 D ci cz cj q th F P g he hn)) (RQ (some (.int th))) 0 0 none_ := by
  refine Met.ofR (cc := cX1_thrown) (maxL := 1) (ret := (some .int)) (by decide) rfl (Nat.le_of_ble_eq_true rfl) ?_
  intro pg en s m bl mt cd ls Fx hr hlocks hB hl
  obtain ⟨hP, hK, hE⟩ := hB
  have hl : lv_has ls 1 [(0, .ref (q 0))] := hl
  have Fx : CallFix pg m cd cX1_thrown 1 s _ wsX1_thrown RX1 := Fx
  have hx := Fx.1
  have hb := Fx.2.1
  have hin : ∀ w ∈ wsX10, w ∈ wsX1_thrown := by decide +kernel
  have hS : va_S (aw q 9) s.heap s.heap [] := va_S.rf
  have hP : va_P D vwCl (w1 ci cz q th F P g he hn) s.heap := hP
  refine lv_aload_n hx hb dX1_thrown_0 rfl (lv_at hl 0 rfl) ?_
  refine r_get Fx hin hK hP 1 rfl 0 (by decide) (by decide +kernel) rfl rfl dX1_thrown_1 ?_
  exact r_iret hx hb hr hlocks (rfl) dX1_thrown_4
set_option maxHeartbeats 4000000 in
set_option maxRecDepth 100000 in
theorem m_X1_no (l : Launch) {D : va_G} {ci cz cj : ClassId} {q : Nat → Nat} {F P : Nat} {g : Nat → Nat → Int32} {th : Int32} {he : Nat → Int32} {hn : Nat} (hq : DQ q 9) (hF : F ≤ 6) (hP12 : P ≤ 12) (x : Int32) : Met l yX1_no wsX1_no ({ frames := 0, cells := 0, slots := 0, locals := 0 } : Room) (va_Pc [.ref (q 0), .int x] (B1 D ci cz cj q th F P g he hn)) (WQ (some (.int (nI 0))) (fun H => va_P D vwCl (w1 ci cz q x F P g he hn) H) (aw q 9)) 0 0 (aw q 9) := by
  refine Met.ofWr (cc := cX1_no) (maxL := 2) (ret := (some .int)) (by decide) rfl (Nat.le_of_ble_eq_true rfl) ?_
  intro pg en s m bl mt cd ls Fx hr hlocks hB hl
  obtain ⟨hP, hK, hE⟩ := hB
  have hl : lv_has ls 2 [(0, .ref (q 0)), (1, .int x)] := hl
  have Fx : CallFix pg m cd cX1_no 2 s _ wsX1_no RX1 := Fx
  have hx := Fx.1
  have hb := Fx.2.1
  have hin : ∀ w ∈ wsX10, w ∈ wsX1_no := by decide +kernel
  have hS : va_S (aw q 9) s.heap s.heap [] := va_S.rf
  have hP : va_P D vwCl (w1 ci cz q th F P g he hn) s.heap := hP
  refine lv_aload_n hx hb dX1_no_0 rfl (lv_at hl 0 rfl) ?_
  refine lv_iload_n hx hb dX1_no_1 rfl (lv_at hl 1 rfl) ?_
  refine r_put Fx hin tyX1 tyX1_ok nmX1 hK hP (d1 hq) hS 1 rfl 0 (by decide) (by decide +kernel) rfl (by decide +kernel) rfl (Nat.le_of_ble_eq_true rfl) dX1_no_2 (fun H locs hP hS => ?_)
  have hP : va_P D vwCl (w1 ci cz q x F P g he hn) H := hP
  refine lv_iconst (v := nI 0) hx hb dX1_no_5 (by decide) ?_
  exact w_iret hx hb hr hlocks hS (hP) (rfl) dX1_no_6
set_option maxHeartbeats 4000000 in
set_option maxRecDepth 100000 in
theorem m_X1_isNot (l : Launch) {D : va_G} {ci cz cj : ClassId} {q : Nat → Nat} {F P : Nat} {g : Nat → Nat → Int32} {th : Int32} {he : Nat → Int32} {hn : Nat} (hq : DQ q 9) (hF : F ≤ 6) (hP12 : P ≤ 12) (x : Int32) : Met l yX1_isNot wsX1_isNot ({ frames := 0, cells := 0, slots := 0, locals := 0 } : Room) (va_Pc [.ref (q 0), .int x] (B1 D ci cz cj q th F P g he hn)) (WQ (some (.int (bI false))) (fun H => va_P D vwCl (w1 ci cz q x F P g he hn) H) (aw q 9)) 0 0 (aw q 9) := by
  refine Met.ofWr (cc := cX1_isNot) (maxL := 2) (ret := (some .boolean)) (by decide) rfl (Nat.le_of_ble_eq_true rfl) ?_
  intro pg en s m bl mt cd ls Fx hr hlocks hB hl
  obtain ⟨hP, hK, hE⟩ := hB
  have hl : lv_has ls 2 [(0, .ref (q 0)), (1, .int x)] := hl
  have Fx : CallFix pg m cd cX1_isNot 2 s _ wsX1_isNot RX1 := Fx
  have hx := Fx.1
  have hb := Fx.2.1
  have hin : ∀ w ∈ wsX10, w ∈ wsX1_isNot := by decide +kernel
  have hS : va_S (aw q 9) s.heap s.heap [] := va_S.rf
  have hP : va_P D vwCl (w1 ci cz q th F P g he hn) s.heap := hP
  refine lv_aload_n hx hb dX1_isNot_0 rfl (lv_at hl 0 rfl) ?_
  refine lv_iload_n hx hb dX1_isNot_1 rfl (lv_at hl 1 rfl) ?_
  refine r_put Fx hin tyX1 tyX1_ok nmX1 hK hP (d1 hq) hS 1 rfl 0 (by decide) (by decide +kernel) rfl (by decide +kernel) rfl (Nat.le_of_ble_eq_true rfl) dX1_isNot_2 (fun H locs hP hS => ?_)
  have hP : va_P D vwCl (w1 ci cz q x F P g he hn) H := hP
  refine lv_iconst (v := nI 0) hx hb dX1_isNot_5 (by decide) ?_
  exact w_zret hx hb hr hlocks hS (hP) (rfl) dX1_isNot_6
set_option maxHeartbeats 4000000 in
set_option maxRecDepth 100000 in
theorem m_X1_isIn (l : Launch) {D : va_G} {ci cz cj : ClassId} {q : Nat → Nat} {F P : Nat} {g : Nat → Nat → Int32} {th : Int32} {he : Nat → Int32} {hn : Nat} (hF : F ≤ 6) (hP12 : P ≤ 12) (x : Int32) (lo : Int32) (hi : Int32) : Met l yX1_isIn wsX1_isIn ({ frames := 0, cells := 0, slots := 0, locals := 0 } : Room) (va_Pc [.int x, .int lo, .int hi] (B1 D ci cz cj q th F P g he hn)) (RQ (some (.int (bI (decide (lo ≤ x ∧ x ≤ hi)))))) 0 0 none_ := by
  refine Met.ofR (cc := cX1_isIn) (maxL := 3) (ret := (some .boolean)) (by decide) rfl (Nat.le_of_ble_eq_true rfl) ?_
  intro pg en s m bl mt cd ls Fx hr hlocks hB hl
  obtain ⟨hP, hK, hE⟩ := hB
  have hl : lv_has ls 3 [(0, .int x), (1, .int lo), (2, .int hi)] := hl
  have Fx : CallFix pg m cd cX1_isIn 3 s _ wsX1_isIn RX1 := Fx
  have hx := Fx.1
  have hb := Fx.2.1
  have hS : va_S (aw q 9) s.heap s.heap [] := va_S.rf
  have hP : va_P D vwCl (w1 ci cz q th F P g he hn) s.heap := hP
  refine lv_iload_n hx hb dX1_isIn_0 rfl (lv_at hl 0 rfl) ?_
  refine lv_iload_n hx hb dX1_isIn_1 rfl (lv_at hl 1 rfl) ?_
  refine lv_icmp_lt (tgt := 14) hx hb dX1_isIn_2 (by decide) (fun h1 => ?_) (fun h1 => ?_)
  · refine lv_iconst (v := nI 0) hx hb dX1_isIn_14 (by decide) ?_
    exact r_zret hx hb hr hlocks (by simp [bI, Int32.not_lt, Int32.not_le, h1, Int32.not_le.mpr h1]) dX1_isIn_15
  · have h1 := Int32.not_lt.mp h1
    refine lv_iload_n hx hb dX1_isIn_5 rfl (lv_at hl 0 rfl) ?_
    refine lv_iload_n hx hb dX1_isIn_6 rfl (lv_at hl 2 rfl) ?_
    refine lv_icmp_gt (tgt := 14) hx hb dX1_isIn_7 (by decide) (fun h2 => ?_) (fun h2 => ?_)
    · refine lv_iconst (v := nI 0) hx hb dX1_isIn_14 (by decide) ?_
      exact r_zret hx hb hr hlocks (by simp [bI, Int32.not_lt, Int32.not_le, h1, Int32.not_lt.mpr h1, h2, Int32.not_le.mpr h2]) dX1_isIn_15
    · have h2 := Int32.not_lt.mp h2
      refine lv_iconst (v := nI 1) hx hb dX1_isIn_10 (by decide) ?_
      refine lv_goto (tgt := 15) hx hb dX1_isIn_11 (by decide) ?_
      exact r_zret hx hb hr hlocks (by simp [bI, Int32.not_lt, Int32.not_le, h1, Int32.not_lt.mpr h1, h2, Int32.not_lt.mpr h2]) dX1_isIn_15
set_option maxHeartbeats 4000000 in
set_option maxRecDepth 100000 in
theorem m_X1_isFerry (l : Launch) {D : va_G} {ci cz cj : ClassId} {q : Nat → Nat} {F P : Nat} {g : Nat → Nat → Int32} {th : Int32} {he : Nat → Int32} {hn : Nat} (hF : F ≤ 6) (hP12 : P ≤ 12) (a : Int32) : Met l yX1_isFerry wsX1_isFerry ({ frames := 1, cells := 0, slots := 0, locals := 22 } : Room) (va_Pc [.ref (q 0), .int a] (B1 D ci cz cj q th F P g he hn)) (RQ (some (.int (bI (decide (inR a F)))))) 0 0 none_ := by
  refine Met.ofR (cc := cX1_isFerry) (maxL := 2) (ret := (some .boolean)) (by decide) rfl (Nat.le_of_ble_eq_true rfl) ?_
  intro pg en s m bl mt cd ls Fx hr hlocks hB hl
  obtain ⟨hP, hK, hE⟩ := hB
  have hl : lv_has ls 2 [(0, .ref (q 0)), (1, .int a)] := hl
  have Fx : CallFix pg m cd cX1_isFerry 2 s _ wsX1_isFerry RX1 := Fx
  have hx := Fx.1
  have hb := Fx.2.1
  have hin : ∀ w ∈ wsX10, w ∈ wsX1_isFerry := by decide +kernel
  have hS : va_S (aw q 9) s.heap s.heap [] := va_S.rf
  have hP : va_P D vwCl (w1 ci cz q th F P g he hn) s.heap := hP
  refine lv_iload_n hx hb dX1_isFerry_0 rfl (lv_at hl 1 rfl) ?_
  refine lv_iconst (v := nI 0) hx hb dX1_isFerry_1 (by decide) ?_
  refine lv_aload_n hx hb dX1_isFerry_2 rfl (lv_at hl 0 rfl) ?_
  refine r_get Fx hin hK hP 1 rfl 1 (by decide) (by decide +kernel) rfl rfl dX1_isFerry_3 ?_
  refine lv_iconst (v := nI 1) hx hb dX1_isFerry_6 (by decide) ?_
  refine lv_isub hx hb dX1_isFerry_7 ?_
  refine r_callRS (rest := []) Fx (m_X1_isIn l (D := D) (ci := ci) (cz := cz) (cj := cj) (q := q) (F := F) (P := P) (g := g) (th := th) (he := he) (hn := hn) hF hP12 a (nI 0) ((nI F) - (nI 1)) ) (va_cwS 3 Fx.2.2.2.2 gX1_isFerry_X1_isIn rfl rfl rfl (by decide +kernel) ⟨Nat.le_of_ble_eq_true rfl, Nat.le_of_ble_eq_true rfl⟩) BW.bl (BW.at hP hK hE hS) rfl hl.1 rfl (Nat.le_of_ble_eq_true rfl) dX1_isFerry_8 ⟨Nat.zero_le _, Nat.zero_le _⟩ ?_
  rw [isI_R (by omega)]
  exact r_zret hx hb hr hlocks (rfl) dX1_isFerry_11
set_option maxHeartbeats 4000000 in
set_option maxRecDepth 100000 in
theorem m_X1_isPerson (l : Launch) {D : va_G} {ci cz cj : ClassId} {q : Nat → Nat} {F P : Nat} {g : Nat → Nat → Int32} {th : Int32} {he : Nat → Int32} {hn : Nat} (hF : F ≤ 6) (hP12 : P ≤ 12) (a : Int32) : Met l yX1_isPerson wsX1_isPerson ({ frames := 1, cells := 0, slots := 0, locals := 22 } : Room) (va_Pc [.ref (q 0), .int a] (B1 D ci cz cj q th F P g he hn)) (RQ (some (.int (bI (decide (inR a P)))))) 0 0 none_ := by
  refine Met.ofR (cc := cX1_isPerson) (maxL := 2) (ret := (some .boolean)) (by decide) rfl (Nat.le_of_ble_eq_true rfl) ?_
  intro pg en s m bl mt cd ls Fx hr hlocks hB hl
  obtain ⟨hP, hK, hE⟩ := hB
  have hl : lv_has ls 2 [(0, .ref (q 0)), (1, .int a)] := hl
  have Fx : CallFix pg m cd cX1_isPerson 2 s _ wsX1_isPerson RX1 := Fx
  have hx := Fx.1
  have hb := Fx.2.1
  have hin : ∀ w ∈ wsX10, w ∈ wsX1_isPerson := by decide +kernel
  have hS : va_S (aw q 9) s.heap s.heap [] := va_S.rf
  have hP : va_P D vwCl (w1 ci cz q th F P g he hn) s.heap := hP
  refine lv_iload_n hx hb dX1_isPerson_0 rfl (lv_at hl 1 rfl) ?_
  refine lv_iconst (v := nI 0) hx hb dX1_isPerson_1 (by decide) ?_
  refine lv_aload_n hx hb dX1_isPerson_2 rfl (lv_at hl 0 rfl) ?_
  refine r_get Fx hin hK hP 1 rfl 5 (by decide) (by decide +kernel) rfl rfl dX1_isPerson_3 ?_
  refine lv_iconst (v := nI 1) hx hb dX1_isPerson_6 (by decide) ?_
  refine lv_isub hx hb dX1_isPerson_7 ?_
  refine r_callRS (rest := []) Fx (m_X1_isIn l (D := D) (ci := ci) (cz := cz) (cj := cj) (q := q) (F := F) (P := P) (g := g) (th := th) (he := he) (hn := hn) hF hP12 a (nI 0) ((nI P) - (nI 1)) ) (va_cwS 3 Fx.2.2.2.2 gX1_isPerson_X1_isIn rfl rfl rfl (by decide +kernel) ⟨Nat.le_of_ble_eq_true rfl, Nat.le_of_ble_eq_true rfl⟩) BW.bl (BW.at hP hK hE hS) rfl hl.1 rfl (Nat.le_of_ble_eq_true rfl) dX1_isPerson_8 ⟨Nat.zero_le _, Nat.zero_le _⟩ ?_
  rw [isI_R (by omega)]
  exact r_zret hx hb hr hlocks (rfl) dX1_isPerson_11
set_option maxHeartbeats 4000000 in
set_option maxRecDepth 100000 in
theorem m_X1_isWatch (l : Launch) {D : va_G} {ci cz cj : ClassId} {q : Nat → Nat} {F P : Nat} {g : Nat → Nat → Int32} {th : Int32} {he : Nat → Int32} {hn : Nat} (hF : F ≤ 6) (hP12 : P ≤ 12) (f : Int32) (w : Int32) : Met l yX1_isWatch wsX1_isWatch ({ frames := 2, cells := 0, slots := 0, locals := 43 } : Room) (va_Pc [.ref (q 0), .int f, .int w] (B1 D ci cz cj q th F P g he hn)) (RQ (some (.int (bI (decide (inR f F ∧ inR w 4)))))) 0 0 none_ := by
  refine Met.ofR (cc := cX1_isWatch) (maxL := 3) (ret := (some .boolean)) (by decide) rfl (Nat.le_of_ble_eq_true rfl) ?_
  intro pg en s m bl mt cd ls Fx hr hlocks hB hl
  obtain ⟨hP, hK, hE⟩ := hB
  have hl : lv_has ls 3 [(0, .ref (q 0)), (1, .int f), (2, .int w)] := hl
  have Fx : CallFix pg m cd cX1_isWatch 3 s _ wsX1_isWatch RX1 := Fx
  have hx := Fx.1
  have hb := Fx.2.1
  have hS : va_S (aw q 9) s.heap s.heap [] := va_S.rf
  have hP : va_P D vwCl (w1 ci cz q th F P g he hn) s.heap := hP
  refine lv_aload_n hx hb dX1_isWatch_0 rfl (lv_at hl 0 rfl) ?_
  refine lv_iload_n hx hb dX1_isWatch_1 rfl (lv_at hl 1 rfl) ?_
  refine r_callR (rest := []) Fx (m_X1_isFerry l (D := D) (ci := ci) (cz := cz) (cj := cj) (q := q) (F := F) (P := P) (g := g) (th := th) (he := he) (hn := hn) hF hP12 f ) (cwV 1 Fx.2.2.2.2 gX1_isWatch_X1_isFerry rfl rfl rfl (by decide +kernel) ⟨Nat.le_of_ble_eq_true rfl, Nat.le_of_ble_eq_true rfl⟩) BW.bl (va_recv hK hP (ci := 1) (q0 := 0) rfl rfl) (BW.at hP hK hE hS) rfl hl.1 rfl (Nat.le_of_ble_eq_true rfl) dX1_isWatch_2 ⟨Nat.zero_le _, Nat.zero_le _⟩ ?_
  refine b_if_eq (tgt := 21) hx hb dX1_isWatch_5 (by decide) (fun h1 => ?_) (fun h1 => ?_)
  · have h1 := of_decide_eq_false h1
    refine lv_iconst (v := nI 0) hx hb dX1_isWatch_21 (by decide) ?_
    exact r_zret hx hb hr hlocks (by simp [bI, inR, h1]) dX1_isWatch_22
  · have h1 := of_decide_eq_true h1
    refine lv_iload_n hx hb dX1_isWatch_8 rfl (lv_at hl 2 rfl) ?_
    refine lv_iconst (v := nI 0) hx hb dX1_isWatch_9 (by decide) ?_
    refine lv_iconst (v := nI 3) hx hb dX1_isWatch_10 (by decide) ?_
    refine r_callRS (rest := []) Fx (m_X1_isIn l (D := D) (ci := ci) (cz := cz) (cj := cj) (q := q) (F := F) (P := P) (g := g) (th := th) (he := he) (hn := hn) hF hP12 w (nI 0) (nI 3) ) (va_cwS 3 Fx.2.2.2.2 gX1_isWatch_X1_isIn rfl rfl rfl (by decide +kernel) ⟨Nat.le_of_ble_eq_true rfl, Nat.le_of_ble_eq_true rfl⟩) BW.bl (BW.at hP hK hE hS) rfl hl.1 rfl (Nat.le_of_ble_eq_true rfl) dX1_isWatch_11 ⟨Nat.zero_le _, Nat.zero_le _⟩ ?_
    rw [isI_3]
    refine b_if_eq (tgt := 21) hx hb dX1_isWatch_14 (by decide) (fun h2 => ?_) (fun h2 => ?_)
    · have h2 := of_decide_eq_false h2
      refine lv_iconst (v := nI 0) hx hb dX1_isWatch_21 (by decide) ?_
      exact r_zret hx hb hr hlocks (by simp [bI, inR, h1, h2]) dX1_isWatch_22
    · have h2 := of_decide_eq_true h2
      refine lv_iconst (v := nI 1) hx hb dX1_isWatch_17 (by decide) ?_
      refine lv_goto (tgt := 22) hx hb dX1_isWatch_18 (by decide) ?_
      exact r_zret hx hb hr hlocks (by simp [bI, inR, h1, h2]) dX1_isWatch_22
set_option maxHeartbeats 4000000 in
set_option maxRecDepth 100000 in
theorem m_X1_at (l : Launch) {D : va_G} {ci cz cj : ClassId} {q : Nat → Nat} {F P : Nat} {g : Nat → Nat → Int32} {th : Int32} {he : Nat → Int32} {hn : Nat} (hF : F ≤ 6) (hP12 : P ≤ 12) (f : Nat) (w : Nat) (k : Nat) : Met l yX1_at wsX1_at ({ frames := 0, cells := 0, slots := 0, locals := 0 } : Room) (va_Pc [.int (nI f), .int (nI w), .int (nI k)] (B1 D ci cz cj q th F P g he hn)) (RQ (some (.int (nI (sl f w k))))) 0 0 none_ := by
  refine Met.ofR (cc := cX1_at) (maxL := 3) (ret := (some .int)) (by decide) rfl (Nat.le_of_ble_eq_true rfl) ?_
  intro pg en s m bl mt cd ls Fx hr hlocks hB hl
  obtain ⟨hP, hK, hE⟩ := hB
  have hl : lv_has ls 3 [(0, .int (nI f)), (1, .int (nI w)), (2, .int (nI k))] := hl
  have Fx : CallFix pg m cd cX1_at 3 s _ wsX1_at RX1 := Fx
  have hx := Fx.1
  have hb := Fx.2.1
  have hS : va_S (aw q 9) s.heap s.heap [] := va_S.rf
  have hP : va_P D vwCl (w1 ci cz q th F P g he hn) s.heap := hP
  refine lv_bipush (v := nI 12) hx hb dX1_at_0 (by decide) ?_
  refine lv_iconst (v := nI 4) hx hb dX1_at_2 (by decide) ?_
  refine lv_iload_n hx hb dX1_at_3 rfl (lv_at hl 0 rfl) ?_
  refine r_imul_n hx hb dX1_at_4 ?_
  refine lv_iload_n hx hb dX1_at_5 rfl (lv_at hl 1 rfl) ?_
  refine r_iadd_n hx hb dX1_at_6 ?_
  refine r_imul_n hx hb dX1_at_7 ?_
  refine lv_iload_n hx hb dX1_at_8 rfl (lv_at hl 2 rfl) ?_
  refine r_iadd_n hx hb dX1_at_9 ?_
  exact r_iret hx hb hr hlocks (congrArg nI (by unfold sl; omega)) dX1_at_10
set_option maxHeartbeats 4000000 in
set_option maxRecDepth 100000 in
theorem m_X1_crown (l : Launch) {D : va_G} {ci cz cj : ClassId} {q : Nat → Nat} {F P : Nat} {g : Nat → Nat → Int32} {th : Int32} {he : Nat → Int32} {hn : Nat} (hF : F ≤ 6) (hP12 : P ≤ 12) (f : Nat) (w : Nat) (ha0 : f < 6) (ha1 : w < 4) : Met l yX1_crown wsX1_crown ({ frames := 1, cells := 0, slots := 0, locals := 22 } : Room) (va_Pc [.ref (q 0), .int (nI f), .int (nI w)] (B1 D ci cz cj q th F P g he hn)) (RQ (some (.int (sCro g P f w)))) 0 0 none_ := by
  refine Met.ofR (cc := cX1_crown) (maxL := 5) (ret := (some .int)) (by decide) rfl (Nat.le_of_ble_eq_true rfl) ?_
  intro pg en s m bl mt cd ls Fx hr hlocks hB hl
  obtain ⟨hP, hK, hE⟩ := hB
  have hl : lv_has ls 5 [(0, .ref (q 0)), (1, .int (nI f)), (2, .int (nI w))] := hl
  have Fx : CallFix pg m cd cX1_crown 5 s _ wsX1_crown RX1 := Fx
  have hx := Fx.1
  have hb := Fx.2.1
  have hin : ∀ w ∈ wsX10, w ∈ wsX1_crown := by decide +kernel
  have hS : va_S (aw q 9) s.heap s.heap [] := va_S.rf
  have hP : va_P D vwCl (w1 ci cz q th F P g he hn) s.heap := hP
  refine lv_bipush (v := nI 64) hx hb dX1_crown_0 (by decide) ?_
  refine lv_istore_n (lv' := [(3, .int (nI 64)), (0, .ref (q 0)), (1, .int (nI f)), (2, .int (nI w))]) hx hb dX1_crown_2 rfl hl (by decide) rfl (fun ls hl => ?_)
  refine lv_iconst (v := nI 0) hx hb dX1_crown_3 (by decide) ?_
  refine lv_istore (lv' := [(4, .int (nI 0)), (3, .int (nI 64)), (0, .ref (q 0)), (1, .int (nI f)), (2, .int (nI w))]) hx hb dX1_crown_4 hl (by decide) rfl (fun ls hl => ?_)
  refine rloop (nL := 5) (N := P) (fun _ => True) (fun i => [(0, .ref (q 0)), (1, .int (nI f)), (2, .int (nI w)), (3, .int (sd (nI 64) (fun z => own g f w z) i)), (4, .int (nI i))]) (trivial) (lv_sub hl [2, 3, 4, 1, 0] rfl) ?_ ?_
  · intro h1 ls hl
    have hl : lv_has ls 5 [(0, .ref (q 0)), (1, .int (nI f)), (2, .int (nI w)), (3, .int (sd (nI 64) (fun z => own g f w z) P)), (4, .int (nI P))] := hl
    refine lv_iload hx hb dX1_crown_6 (lv_at hl 4 rfl) ?_
    refine lv_aload_n hx hb dX1_crown_8 rfl (lv_at hl 0 rfl) ?_
    refine r_get Fx hin hK hP 1 rfl 5 (by decide) (by decide +kernel) rfl rfl dX1_crown_9 ?_
    refine n_icmp_ge (tgt := 36) hx hb (by omega) (by omega) dX1_crown_12 (by decide) (fun h2 => ?_) (fun h2 => by omega)
    refine lv_iload_n hx hb dX1_crown_36 rfl (lv_at hl 3 rfl) ?_
    exact r_iret hx hb hr hlocks (rfl) dX1_crown_37
  · intro i h4 h3 ih6 ls hl
    have hl : lv_has ls 5 [(0, .ref (q 0)), (1, .int (nI f)), (2, .int (nI w)), (3, .int (sd (nI 64) (fun z => own g f w z) i)), (4, .int (nI i))] := hl
    refine lv_iload hx hb dX1_crown_6 (lv_at hl 4 rfl) ?_
    refine lv_aload_n hx hb dX1_crown_8 rfl (lv_at hl 0 rfl) ?_
    refine r_get Fx hin hK hP 1 rfl 5 (by decide) (by decide +kernel) rfl rfl dX1_crown_9 ?_
    refine n_icmp_ge (tgt := 36) hx hb (by omega) (by omega) dX1_crown_12 (by decide) (fun h5 => by omega) (fun h5 => ?_)
    refine lv_iload_n hx hb dX1_crown_15 rfl (lv_at hl 3 rfl) ?_
    refine lv_aload_n hx hb dX1_crown_16 rfl (lv_at hl 0 rfl) ?_
    refine r_get Fx hin hK hP 1 rfl 4 (by decide) (by decide +kernel) rfl rfl dX1_crown_17 ?_
    refine lv_iload_n hx hb dX1_crown_20 rfl (lv_at hl 1 rfl) ?_
    refine lv_iload_n hx hb dX1_crown_21 rfl (lv_at hl 2 rfl) ?_
    refine lv_iload hx hb dX1_crown_22 (lv_at hl 4 rfl) ?_
    refine r_callRS (rest := [.ref (q 3), .int (sd (nI 64) (fun z => own g f w z) i)]) Fx (m_X1_at l (D := D) (ci := ci) (cz := cz) (cj := cj) (q := q) (F := F) (P := P) (g := g) (th := th) (he := he) (hn := hn) hF hP12 f w i ) (va_cwS 3 Fx.2.2.2.2 gX1_crown_X1_at rfl rfl rfl (by decide +kernel) ⟨Nat.le_of_ble_eq_true rfl, Nat.le_of_ble_eq_true rfl⟩) BW.bl (BW.at hP hK hE hS) rfl hl.1 rfl (Nat.le_of_ble_eq_true rfl) dX1_crown_24 ⟨Nat.zero_le _, Nat.zero_le _⟩ ?_
    refine r_iald Fx hK hP 3 0 rfl rfl (i := sl f w i) (sl_lt (by omega) (by omega) (by omega)) (by decide) dX1_crown_27 ?_
    refine r_as (own g f w i) rfl ?_
    refine lv_isub hx hb dX1_crown_28 ?_
    refine lv_istore_n (lv' := [(3, .int ((sd (nI 64) (fun z => own g f w z) i) - (own g f w i))), (0, .ref (q 0)), (1, .int (nI f)), (2, .int (nI w)), (4, .int (nI i))]) hx hb dX1_crown_29 rfl hl (by decide) rfl (fun ls hl => ?_)
    refine lv_iinc (v := nI (i + 1)) (lv' := [(4, .int (nI (i + 1))), (3, .int ((sd (nI 64) (fun z => own g f w z) i) - (own g f w i))), (0, .ref (q 0)), (1, .int (nI f)), (2, .int (nI w))]) hx hb dX1_crown_30 hl (k := 4) rfl (nI_inc _ 1) (by decide) rfl (fun ls hl => ?_)
    refine lv_goto (tgt := 6) hx hb dX1_crown_33 (by decide) ?_
    exact ih6 (trivial) _ (lv_sub hl [2, 3, 4, 1, 0] rfl)
set_option maxHeartbeats 4000000 in
set_option maxRecDepth 100000 in
theorem m_X1_worth (l : Launch) {D : va_G} {ci cz cj : ClassId} {q : Nat → Nat} {F P : Nat} {g : Nat → Nat → Int32} {th : Int32} {he : Nat → Int32} {hn : Nat} (hF : F ≤ 6) (hP12 : P ≤ 12) (f : Nat) (w : Nat) (ha0 : f < 6) (ha1 : w < 4) : Met l yX1_worth wsX1_worth ({ frames := 0, cells := 0, slots := 0, locals := 0 } : Room) (va_Pc [.ref (q 0), .int (nI f), .int (nI w)] (B1 D ci cz cj q th F P g he hn)) (RQ (some (.int (sWor g f w)))) 0 0 none_ := by
  refine Met.ofR (cc := cX1_worth) (maxL := 3) (ret := (some .int)) (by decide) rfl (Nat.le_of_ble_eq_true rfl) ?_
  intro pg en s m bl mt cd ls Fx hr hlocks hB hl
  obtain ⟨hP, hK, hE⟩ := hB
  have hl : lv_has ls 3 [(0, .ref (q 0)), (1, .int (nI f)), (2, .int (nI w))] := hl
  have Fx : CallFix pg m cd cX1_worth 3 s _ wsX1_worth RX1 := Fx
  have hx := Fx.1
  have hb := Fx.2.1
  have hin : ∀ w ∈ wsX10, w ∈ wsX1_worth := by decide +kernel
  have hS : va_S (aw q 9) s.heap s.heap [] := va_S.rf
  have hP : va_P D vwCl (w1 ci cz q th F P g he hn) s.heap := hP
  refine lv_aload_n hx hb dX1_worth_0 rfl (lv_at hl 0 rfl) ?_
  refine r_get Fx hin hK hP 1 rfl 2 (by decide) (by decide +kernel) rfl rfl dX1_worth_1 ?_
  refine lv_iload_n hx hb dX1_worth_4 rfl (lv_at hl 1 rfl) ?_
  refine r_iald Fx hK hP 1 0 rfl rfl (i := f) (by omega) (by decide) dX1_worth_5 ?_
  obtain ⟨tr, hZ, hT⟩ := hE.2.2.2.2
  refine va_gets hx hb hZ hS Fx.2.2.2.1 (Fx.2.2.2.2 (.fieldLink RX1 57 "FerryRightsModel" "TRAFFIC" "[I") (by decide +kernel)) (fun _ h => h) dX1_worth_6 ?_
  refine lv_iload_n hx hb dX1_worth_9 rfl (lv_at hl 2 rfl) ?_
  refine r_tr Fx hT hS (i := w) (by omega) dX1_worth_10 ?_
  refine lv_imul hx hb dX1_worth_11 ?_
  refine lv_iconst (v := nI 1) hx hb dX1_worth_12 (by decide) ?_
  refine lv_iadd hx hb dX1_worth_13 ?_
  exact r_iret hx hb hr hlocks (rfl) dX1_worth_14
set_option maxHeartbeats 4000000 in
set_option maxRecDepth 100000 in
theorem m_X1_get (l : Launch) {D : va_G} {ci cz cj : ClassId} {q : Nat → Nat} {F P : Nat} {g : Nat → Nat → Int32} {th : Int32} {he : Nat → Int32} {hn : Nat} (hq : DQ q 9) (hF : F ≤ 6) (hP12 : P ≤ 12) (k : Nat) (x : Int32) (ha0 : k < 12) : Met l yX1_get wsX1_get ({ frames := 1, cells := 0, slots := 0, locals := 17 } : Room) (va_Pc [.ref (q 0), .int (nI k), .int x] (B1 D ci cz cj q th F P g he hn)) (WQ none (fun H => va_P D vwCl (w1 ci cz q th F P (gGet g k x) he hn) H) (aw q 9)) 0 0 (aw q 9) := by
  refine Met.ofWr (cc := cX1_get) (maxL := 3) (ret := none) (by decide) rfl (Nat.le_of_ble_eq_true rfl) ?_
  intro pg en s m bl mt cd ls Fx hr hlocks hB hl
  obtain ⟨hP, hK, hE⟩ := hB
  have hl : lv_has ls 3 [(0, .ref (q 0)), (1, .int (nI k)), (2, .int x)] := hl
  have Fx : CallFix pg m cd cX1_get 3 s _ wsX1_get RX1 := Fx
  have hx := Fx.1
  have hb := Fx.2.1
  have hin : ∀ w ∈ wsX10, w ∈ wsX1_get := by decide +kernel
  have hS : va_S (aw q 9) s.heap s.heap [] := va_S.rf
  have hP : va_P D vwCl (w1 ci cz q th F P g he hn) s.heap := hP
  refine lv_aload_n hx hb dX1_get_0 rfl (lv_at hl 0 rfl) ?_
  refine r_get Fx hin hK hP 1 rfl 6 (by decide) (by decide +kernel) rfl rfl dX1_get_1 ?_
  refine lv_iload_n hx hb dX1_get_4 rfl (lv_at hl 1 rfl) ?_
  refine lv_sipush (v := nI 9999) hx hb dX1_get_5 (by decide) ?_
  refine lv_aload_n hx hb dX1_get_8 rfl (lv_at hl 0 rfl) ?_
  refine r_get Fx hin hK hP 1 rfl 6 (by decide) (by decide +kernel) rfl rfl dX1_get_9 ?_
  refine lv_iload_n hx hb dX1_get_12 rfl (lv_at hl 1 rfl) ?_
  refine r_iald Fx hK hP 5 0 rfl rfl (i := k) (by omega) (by decide) dX1_get_13 ?_
  refine lv_iload_n hx hb dX1_get_14 rfl (lv_at hl 2 rfl) ?_
  refine lv_iadd hx hb dX1_get_15 ?_
  refine va_mmin hx hb (Fx.2.2.1.trans hl.1.symm) Fx.2.2.2.1 (Fx.2.2.2.2 (.methodLink RX1 60 Lib.Math.min.name) (by decide +kernel)) (Fx.2.2.2.2 (.static Lib.Math.min.name) (by decide +kernel)) (Fx.2.2.2.2 (.initialized "java/lang/Math") (by decide +kernel)) (Fx.2.2.2.2 (.code Lib.Math.min.name Lib.Math.min.code 2 (some .int)) (by decide +kernel)) (Nat.le_of_ble_eq_true rfl) (Nat.le_of_ble_eq_true rfl) (Nat.zero_le _) (Nat.zero_le _) dX1_get_16 ?_
  refine r_iast Fx hK hP (d1 hq) hS 5 0 rfl rfl (i := k) (by omega) (by decide) dX1_get_19 (fun H locs hP hS => ?_)
  have hP : va_P D vwCl (w1 ci cz q th F P (va_up g 4 (upd (g 4) k (mn (g 4 k + x)))) he hn) H := hP
  exact w_vret hx hb hr hlocks hS (hP) dX1_get_20
set_option maxHeartbeats 4000000 in
set_option maxRecDepth 100000 in
theorem m_X1_person (l : Launch) {D : va_G} {ci cz cj : ClassId} {q : Nat → Nat} {F P : Nat} {g : Nat → Nat → Int32} {th : Int32} {he : Nat → Int32} {hn : Nat} (hq : DQ q 9) (hF : F ≤ 6) (hP12 : P ≤ 12) (x : Int32) (ha0 : P < 12) : Met l yX1_person wsX1_person ({ frames := 0, cells := 0, slots := 0, locals := 0 } : Room) (va_Pc [.ref (q 0), .int x] (B1 D ci cz cj q th F P g he hn)) (WQ (some (.int (nI P))) (fun H => va_P D vwCl (w1 ci cz q th F (P + 1) (gPar g P x) he hn) H) (aw q 9)) 0 0 (aw q 9) := by
  refine Met.ofWr (cc := cX1_person) (maxL := 2) (ret := (some .int)) (by decide) rfl (Nat.le_of_ble_eq_true rfl) ?_
  intro pg en s m bl mt cd ls Fx hr hlocks hB hl
  obtain ⟨hP, hK, hE⟩ := hB
  have hl : lv_has ls 2 [(0, .ref (q 0)), (1, .int x)] := hl
  have Fx : CallFix pg m cd cX1_person 2 s _ wsX1_person RX1 := Fx
  have hx := Fx.1
  have hb := Fx.2.1
  have hin : ∀ w ∈ wsX10, w ∈ wsX1_person := by decide +kernel
  have hS : va_S (aw q 9) s.heap s.heap [] := va_S.rf
  have hP : va_P D vwCl (w1 ci cz q th F P g he hn) s.heap := hP
  refine lv_aload_n hx hb dX1_person_0 rfl (lv_at hl 0 rfl) ?_
  refine r_get Fx hin hK hP 1 rfl 8 (by decide) (by decide +kernel) rfl rfl dX1_person_1 ?_
  refine lv_aload_n hx hb dX1_person_4 rfl (lv_at hl 0 rfl) ?_
  refine r_get Fx hin hK hP 1 rfl 5 (by decide) (by decide +kernel) rfl rfl dX1_person_5 ?_
  refine lv_iload_n hx hb dX1_person_8 rfl (lv_at hl 1 rfl) ?_
  refine r_iast Fx hK hP (d1 hq) hS 7 0 rfl rfl (i := P) (by omega) (by decide) dX1_person_9 (fun H locs hP hS => ?_)
  have hP : va_P D vwCl (w1 ci cz q th F P (va_up g 6 (upd (g 6) P x)) he hn) H := hP
  refine lv_aload_n hx hb dX1_person_10 rfl (lv_at hl 0 rfl) ?_
  refine lv_dup hx hb dX1_person_11 rfl ?_
  refine r_get Fx hin hK hP 1 rfl 5 (by decide) (by decide +kernel) rfl rfl dX1_person_12 ?_
  refine lv_iconst (v := nI 1) hx hb dX1_person_15 (by decide) ?_
  refine r_iadd_n hx hb dX1_person_16 ?_
  refine r_put Fx hin tyX1 tyX1_ok nmX1 hK hP (d1 hq) hS 1 rfl 5 (by decide) (by decide +kernel) rfl (by decide +kernel) rfl (Nat.le_of_ble_eq_true rfl) dX1_person_17 (fun H locs hP hS => ?_)
  have hP : va_P D vwCl (w1 ci cz q th F (P + 1) (va_up g 6 (upd (g 6) P x)) he hn) H := hP
  refine lv_aload_n hx hb dX1_person_20 rfl (lv_at hl 0 rfl) ?_
  refine r_get Fx hin hK hP 1 rfl 5 (by decide) (by decide +kernel) rfl rfl dX1_person_21 ?_
  refine lv_iconst (v := nI 1) hx hb dX1_person_24 (by decide) ?_
  refine r_isub_n hx hb (by omega) dX1_person_25 ?_
  exact w_iret hx hb hr hlocks hS (hP) (congrArg nI (by omega)) dX1_person_26
set_option maxHeartbeats 4000000 in
set_option maxRecDepth 100000 in
theorem m_X1_priceOf (l : Launch) {D : va_G} {ci cz cj : ClassId} {q : Nat → Nat} {F P : Nat} {g : Nat → Nat → Int32} {th : Int32} {he : Nat → Int32} {hn : Nat} (hF : F ≤ 6) (hP12 : P ≤ 12) (k : Nat) (f : Nat) (w : Nat) (ha0 : k < 12) (ha1 : f < 6) (ha2 : w < 4) : Met l yX1_priceOf wsX1_priceOf ({ frames := 1, cells := 0, slots := 0, locals := 22 } : Room) (va_Pc [.ref (q 0), .int (nI k), .int (nI f), .int (nI w)] (B1 D ci cz cj q th F P g he hn)) (RQ (some (.int (sPri g f w k)))) 0 0 none_ := by
  refine Met.ofR (cc := cX1_priceOf) (maxL := 4) (ret := (some .int)) (by decide) rfl (Nat.le_of_ble_eq_true rfl) ?_
  intro pg en s m bl mt cd ls Fx hr hlocks hB hl
  obtain ⟨hP, hK, hE⟩ := hB
  have hl : lv_has ls 4 [(0, .ref (q 0)), (1, .int (nI k)), (2, .int (nI f)), (3, .int (nI w))] := hl
  have Fx : CallFix pg m cd cX1_priceOf 4 s _ wsX1_priceOf RX1 := Fx
  have hx := Fx.1
  have hb := Fx.2.1
  have hin : ∀ w ∈ wsX10, w ∈ wsX1_priceOf := by decide +kernel
  have hS : va_S (aw q 9) s.heap s.heap [] := va_S.rf
  have hP : va_P D vwCl (w1 ci cz q th F P g he hn) s.heap := hP
  refine lv_aload_n hx hb dX1_priceOf_0 rfl (lv_at hl 0 rfl) ?_
  refine r_get Fx hin hK hP 1 rfl 4 (by decide) (by decide +kernel) rfl rfl dX1_priceOf_1 ?_
  refine lv_iload_n hx hb dX1_priceOf_4 rfl (lv_at hl 2 rfl) ?_
  refine lv_iload_n hx hb dX1_priceOf_5 rfl (lv_at hl 3 rfl) ?_
  refine lv_iload_n hx hb dX1_priceOf_6 rfl (lv_at hl 1 rfl) ?_
  refine r_callRS (rest := [.ref (q 3)]) Fx (m_X1_at l (D := D) (ci := ci) (cz := cz) (cj := cj) (q := q) (F := F) (P := P) (g := g) (th := th) (he := he) (hn := hn) hF hP12 f w k ) (va_cwS 3 Fx.2.2.2.2 gX1_priceOf_X1_at rfl rfl rfl (by decide +kernel) ⟨Nat.le_of_ble_eq_true rfl, Nat.le_of_ble_eq_true rfl⟩) BW.bl (BW.at hP hK hE hS) rfl hl.1 rfl (Nat.le_of_ble_eq_true rfl) dX1_priceOf_7 ⟨Nat.zero_le _, Nat.zero_le _⟩ ?_
  refine r_iald Fx hK hP 3 0 rfl rfl (i := sl f w k) (sl_lt (by omega) (by omega) (by omega)) (by decide) dX1_priceOf_10 ?_
  refine r_as (own g f w k) rfl ?_
  refine lv_aload_n hx hb dX1_priceOf_11 rfl (lv_at hl 0 rfl) ?_
  refine lv_iload_n hx hb dX1_priceOf_12 rfl (lv_at hl 2 rfl) ?_
  refine lv_iload_n hx hb dX1_priceOf_13 rfl (lv_at hl 3 rfl) ?_
  refine r_callR (rest := [.int (own g f w k)]) Fx (m_X1_worth l (D := D) (ci := ci) (cz := cz) (cj := cj) (q := q) (F := F) (P := P) (g := g) (th := th) (he := he) (hn := hn) hF hP12 f w (by omega) (by omega)) (cwV 2 Fx.2.2.2.2 gX1_priceOf_X1_worth rfl rfl rfl (by decide +kernel) ⟨Nat.le_of_ble_eq_true rfl, Nat.le_of_ble_eq_true rfl⟩) BW.bl (va_recv hK hP (ci := 1) (q0 := 0) rfl rfl) (BW.at hP hK hE hS) rfl hl.1 rfl (Nat.le_of_ble_eq_true rfl) dX1_priceOf_14 ⟨Nat.zero_le _, Nat.zero_le _⟩ ?_
  refine lv_imul hx hb dX1_priceOf_17 ?_
  exact r_iret hx hb hr hlocks (rfl) dX1_priceOf_18
set_option maxHeartbeats 4000000 in
set_option maxRecDepth 100000 in
theorem m_X1_isOtherAhead (l : Launch) {D : va_G} {ci cz cj : ClassId} {q : Nat → Nat} {F P : Nat} {g : Nat → Nat → Int32} {th : Int32} {he : Nat → Int32} {hn : Nat} (hF : F ≤ 6) (hP12 : P ≤ 12) (k : Nat) (f : Nat) (w : Nat) (x : Int32) (ha0 : k < P) (ha1 : f < 6) (ha2 : w < 4) : Met l yX1_isOtherAhead wsX1_isOtherAhead ({ frames := 1, cells := 0, slots := 0, locals := 22 } : Room) (va_Pc [.ref (q 0), .int (nI k), .int (nI f), .int (nI w), .int x] (B1 D ci cz cj q th F P g he hn)) (RQ (some (.int (bI (sOth g P k f w x))))) 0 0 none_ := by
  refine Met.ofR (cc := cX1_isOtherAhead) (maxL := 6) (ret := (some .boolean)) (by decide) rfl (Nat.le_of_ble_eq_true rfl) ?_
  intro pg en s m bl mt cd ls Fx hr hlocks hB hl
  obtain ⟨hP, hK, hE⟩ := hB
  have hl : lv_has ls 6 [(0, .ref (q 0)), (1, .int (nI k)), (2, .int (nI f)), (3, .int (nI w)), (4, .int x)] := hl
  have Fx : CallFix pg m cd cX1_isOtherAhead 6 s _ wsX1_isOtherAhead RX1 := Fx
  have hx := Fx.1
  have hb := Fx.2.1
  have hin : ∀ w ∈ wsX10, w ∈ wsX1_isOtherAhead := by decide +kernel
  have hS : va_S (aw q 9) s.heap s.heap [] := va_S.rf
  have hP : va_P D vwCl (w1 ci cz q th F P g he hn) s.heap := hP
  refine lv_iconst (v := nI 0) hx hb dX1_isOtherAhead_0 (by decide) ?_
  refine lv_istore (lv' := [(5, .int (nI 0)), (0, .ref (q 0)), (1, .int (nI k)), (2, .int (nI f)), (3, .int (nI w)), (4, .int x)]) hx hb dX1_isOtherAhead_1 hl (by decide) rfl (fun ls hl => ?_)
  refine rloop (nL := 6) (N := P) (fun i => ∀ z, z < i → (fun z => decide (z ≠ k) && (decide (0 < own g f w z) && decide (x ≤ g 4 z))) z = false) (fun i => [(0, .ref (q 0)), (1, .int (nI k)), (2, .int (nI f)), (3, .int (nI w)), (4, .int x), (5, .int (nI i))]) (all_0) (lv_sub hl [1, 2, 3, 4, 5, 0] rfl) ?_ ?_
  · intro h1 ls hl
    have hl : lv_has ls 6 [(0, .ref (q 0)), (1, .int (nI k)), (2, .int (nI f)), (3, .int (nI w)), (4, .int x), (5, .int (nI P))] := hl
    refine lv_iload hx hb dX1_isOtherAhead_3 (lv_at hl 5 rfl) ?_
    refine lv_aload_n hx hb dX1_isOtherAhead_5 rfl (lv_at hl 0 rfl) ?_
    refine r_get Fx hin hK hP 1 rfl 5 (by decide) (by decide +kernel) rfl rfl dX1_isOtherAhead_6 ?_
    refine n_icmp_ge (tgt := 53) hx hb (by omega) (by omega) dX1_isOtherAhead_9 (by decide) (fun h2 => ?_) (fun h2 => by omega)
    refine lv_iconst (v := nI 0) hx hb dX1_isOtherAhead_53 (by decide) ?_
    exact r_zret hx hb hr hlocks (by rw [sOth, an_none h1]; rfl) dX1_isOtherAhead_54
  · intro i h4 h3 ih3 ls hl
    have hl : lv_has ls 6 [(0, .ref (q 0)), (1, .int (nI k)), (2, .int (nI f)), (3, .int (nI w)), (4, .int x), (5, .int (nI i))] := hl
    refine lv_iload hx hb dX1_isOtherAhead_3 (lv_at hl 5 rfl) ?_
    refine lv_aload_n hx hb dX1_isOtherAhead_5 rfl (lv_at hl 0 rfl) ?_
    refine r_get Fx hin hK hP 1 rfl 5 (by decide) (by decide +kernel) rfl rfl dX1_isOtherAhead_6 ?_
    refine n_icmp_ge (tgt := 53) hx hb (by omega) (by omega) dX1_isOtherAhead_9 (by decide) (fun h5 => by omega) (fun h5 => ?_)
    refine lv_iload hx hb dX1_isOtherAhead_12 (lv_at hl 5 rfl) ?_
    refine lv_iload_n hx hb dX1_isOtherAhead_14 rfl (lv_at hl 1 rfl) ?_
    refine n_icmp_eq (tgt := 47) hx hb (by omega) (by omega) dX1_isOtherAhead_15 (by decide) (fun h6 => ?_) (fun h6 => ?_)
    · refine lv_iinc (v := nI (i + 1)) (lv' := [(5, .int (nI (i + 1))), (0, .ref (q 0)), (1, .int (nI k)), (2, .int (nI f)), (3, .int (nI w)), (4, .int x)]) hx hb dX1_isOtherAhead_47 hl (k := 5) rfl (nI_inc _ 1) (by decide) rfl (fun ls hl => ?_)
      refine lv_goto (tgt := 3) hx hb dX1_isOtherAhead_50 (by decide) ?_
      exact ih3 (all_s h3 (by simp [Int32.not_lt, Int32.not_le, h3, h4, h5, h6])) _ (lv_sub hl [1, 2, 3, 4, 5, 0] rfl)
    · refine lv_aload_n hx hb dX1_isOtherAhead_18 rfl (lv_at hl 0 rfl) ?_
      refine r_get Fx hin hK hP 1 rfl 4 (by decide) (by decide +kernel) rfl rfl dX1_isOtherAhead_19 ?_
      refine lv_iload_n hx hb dX1_isOtherAhead_22 rfl (lv_at hl 2 rfl) ?_
      refine lv_iload_n hx hb dX1_isOtherAhead_23 rfl (lv_at hl 3 rfl) ?_
      refine lv_iload hx hb dX1_isOtherAhead_24 (lv_at hl 5 rfl) ?_
      refine r_callRS (rest := [.ref (q 3)]) Fx (m_X1_at l (D := D) (ci := ci) (cz := cz) (cj := cj) (q := q) (F := F) (P := P) (g := g) (th := th) (he := he) (hn := hn) hF hP12 f w i ) (va_cwS 3 Fx.2.2.2.2 gX1_isOtherAhead_X1_at rfl rfl rfl (by decide +kernel) ⟨Nat.le_of_ble_eq_true rfl, Nat.le_of_ble_eq_true rfl⟩) BW.bl (BW.at hP hK hE hS) rfl hl.1 rfl (Nat.le_of_ble_eq_true rfl) dX1_isOtherAhead_26 ⟨Nat.zero_le _, Nat.zero_le _⟩ ?_
      refine r_iald Fx hK hP 3 0 rfl rfl (i := sl f w i) (sl_lt (by omega) (by omega) (by omega)) (by decide) dX1_isOtherAhead_29 ?_
      refine r_as (own g f w i) rfl ?_
      refine lv_if_le (tgt := 47) hx hb dX1_isOtherAhead_30 (by decide) (fun h7 => ?_) (fun h7 => ?_)
      · refine lv_iinc (v := nI (i + 1)) (lv' := [(5, .int (nI (i + 1))), (0, .ref (q 0)), (1, .int (nI k)), (2, .int (nI f)), (3, .int (nI w)), (4, .int x)]) hx hb dX1_isOtherAhead_47 hl (k := 5) rfl (nI_inc _ 1) (by decide) rfl (fun ls hl => ?_)
        refine lv_goto (tgt := 3) hx hb dX1_isOtherAhead_50 (by decide) ?_
        exact ih3 (all_s h3 (by simp [Int32.not_lt, Int32.not_le, h3, h4, h5, h6, h7, Int32.not_lt.mpr h7])) _ (lv_sub hl [1, 2, 3, 4, 5, 0] rfl)
      · have h7 := Int32.not_le.mp h7
        refine lv_aload_n hx hb dX1_isOtherAhead_33 rfl (lv_at hl 0 rfl) ?_
        refine r_get Fx hin hK hP 1 rfl 6 (by decide) (by decide +kernel) rfl rfl dX1_isOtherAhead_34 ?_
        refine lv_iload hx hb dX1_isOtherAhead_37 (lv_at hl 5 rfl) ?_
        refine r_iald Fx hK hP 5 0 rfl rfl (i := i) (by omega) (by decide) dX1_isOtherAhead_39 ?_
        refine lv_iload hx hb dX1_isOtherAhead_40 (lv_at hl 4 rfl) ?_
        refine lv_icmp_lt (tgt := 47) hx hb dX1_isOtherAhead_42 (by decide) (fun h8 => ?_) (fun h8 => ?_)
        · refine lv_iinc (v := nI (i + 1)) (lv' := [(5, .int (nI (i + 1))), (0, .ref (q 0)), (1, .int (nI k)), (2, .int (nI f)), (3, .int (nI w)), (4, .int x)]) hx hb dX1_isOtherAhead_47 hl (k := 5) rfl (nI_inc _ 1) (by decide) rfl (fun ls hl => ?_)
          refine lv_goto (tgt := 3) hx hb dX1_isOtherAhead_50 (by decide) ?_
          exact ih3 (all_s h3 (by simp [Int32.not_lt, Int32.not_le, h3, h4, h5, h6, h7, Int32.not_le.mpr h7, h8, Int32.not_le.mpr h8])) _ (lv_sub hl [1, 2, 3, 4, 5, 0] rfl)
        · have h8 := Int32.not_lt.mp h8
          refine lv_iconst (v := nI 1) hx hb dX1_isOtherAhead_45 (by decide) ?_
          exact r_zret hx hb hr hlocks (by rw [sOth, an_some (k := i) (by simp [Int32.not_lt, Int32.not_le, h3, h4, h5, h6, h7, Int32.not_le.mpr h7, h8, Int32.not_lt.mpr h8]) h4]; rfl) dX1_isOtherAhead_46
set_option maxHeartbeats 4000000 in
set_option maxRecDepth 100000 in
theorem m_X1_buys (l : Launch) {D : va_G} {ci cz cj : ClassId} {q : Nat → Nat} {F P : Nat} {g : Nat → Nat → Int32} {th : Int32} {he : Nat → Int32} {hn : Nat} (hF : F ≤ 6) (hP12 : P ≤ 12) (b : Nat) (k : Nat) (f : Nat) (w : Nat) (ha0 : Iv F P g) (ha1 : b < P) (ha2 : k < P) (ha3 : f < F) (ha4 : w < 4) : Met l yX1_buys wsX1_buys ({ frames := 2, cells := 0, slots := 0, locals := 47 } : Room) (va_Pc [.ref (q 0), .int (nI b), .int (nI k), .int (nI f), .int (nI w)] (B1 D ci cz cj q th F P g he hn)) (RQ (some (.int (bI (sMay g P b k f w))))) 0 0 none_ := by
  refine Met.ofR (cc := cX1_buys) (maxL := 6) (ret := (some .boolean)) (by decide) rfl (Nat.le_of_ble_eq_true rfl) ?_
  intro pg en s m bl mt cd ls Fx hr hlocks hB hl
  obtain ⟨hP, hK, hE⟩ := hB
  have hl : lv_has ls 6 [(0, .ref (q 0)), (1, .int (nI b)), (2, .int (nI k)), (3, .int (nI f)), (4, .int (nI w))] := hl
  have Fx : CallFix pg m cd cX1_buys 6 s _ wsX1_buys RX1 := Fx
  have hx := Fx.1
  have hb := Fx.2.1
  have hin : ∀ w ∈ wsX10, w ∈ wsX1_buys := by decide +kernel
  have hS : va_S (aw q 9) s.heap s.heap [] := va_S.rf
  have hP : va_P D vwCl (w1 ci cz q th F P g he hn) s.heap := hP
  refine lv_aload_n hx hb dX1_buys_0 rfl (lv_at hl 0 rfl) ?_
  refine lv_iload_n hx hb dX1_buys_1 rfl (lv_at hl 2 rfl) ?_
  refine lv_iload_n hx hb dX1_buys_2 rfl (lv_at hl 3 rfl) ?_
  refine lv_iload hx hb dX1_buys_3 (lv_at hl 4 rfl) ?_
  refine r_callR (rest := []) Fx (m_X1_priceOf l (D := D) (ci := ci) (cz := cz) (cj := cj) (q := q) (F := F) (P := P) (g := g) (th := th) (he := he) (hn := hn) hF hP12 k f w (by omega) (by omega) (by omega)) (cwV 3 Fx.2.2.2.2 gX1_buys_X1_priceOf rfl rfl rfl (by decide +kernel) ⟨Nat.le_of_ble_eq_true rfl, Nat.le_of_ble_eq_true rfl⟩) BW.bl (va_recv hK hP (ci := 1) (q0 := 0) rfl rfl) (BW.at hP hK hE hS) rfl hl.1 rfl (Nat.le_of_ble_eq_true rfl) dX1_buys_5 ⟨Nat.zero_le _, Nat.zero_le _⟩ ?_
  refine lv_istore (lv' := [(5, .int (sPri g f w k)), (0, .ref (q 0)), (1, .int (nI b)), (2, .int (nI k)), (3, .int (nI f)), (4, .int (nI w))]) hx hb dX1_buys_8 hl (by decide) rfl (fun ls hl => ?_)
  have hp0 := iv_pri0 ha0 (f := f) (w := w) (k := k) (by omega) (by omega) (by omega)
  refine lv_iload hx hb dX1_buys_10 (lv_at hl 0 rfl) ?_
  refine lv_if_eq (tgt := 40) hx hb dX1_buys_12 (by decide) (fun h1 => ?_) (fun h1 => ?_)
  · have h1 := hp0.mp h1
    refine lv_iconst (v := nI 0) hx hb dX1_buys_40 (by decide) ?_
    exact r_zret hx hb hr hlocks (by simp [sMay, bI, lv, Int32.not_lt, Int32.not_le, h1]) dX1_buys_41
  · have h1 : ¬ own g f w k = 0 := fun e => h1 (hp0.mpr e)
    refine lv_iload_n hx hb dX1_buys_15 rfl (lv_at hl 2 rfl) ?_
    refine lv_iload_n hx hb dX1_buys_16 rfl (lv_at hl 3 rfl) ?_
    refine n_icmp_eq (tgt := 40) hx hb (by omega) (by omega) dX1_buys_17 (by decide) (fun h2 => ?_) (fun h2 => ?_)
    · refine lv_iconst (v := nI 0) hx hb dX1_buys_40 (by decide) ?_
      exact r_zret hx hb hr hlocks (by simp [sMay, bI, lv, Int32.not_lt, Int32.not_le, h1, h2]) dX1_buys_41
    · refine lv_aload_n hx hb dX1_buys_20 rfl (lv_at hl 1 rfl) ?_
      refine r_get Fx hin hK hP 1 rfl 9 (by decide) (by decide +kernel) rfl rfl dX1_buys_21 ?_
      refine lv_iload_n hx hb dX1_buys_24 rfl (lv_at hl 2 rfl) ?_
      refine r_zald Fx hK hP 4 1 rfl rfl (i := b) (by omega) (by decide) dX1_buys_25 ?_
      refine lv_if_ne (tgt := 40) hx hb dX1_buys_26 (by decide) (fun h3 => ?_) (fun h3 => ?_)
      · refine lv_iconst (v := nI 0) hx hb dX1_buys_40 (by decide) ?_
        exact r_zret hx hb hr hlocks (by simp [sMay, bI, lv, Int32.not_lt, Int32.not_le, h1, h2, h3]) dX1_buys_41
      · refine lv_aload_n hx hb dX1_buys_29 rfl (lv_at hl 1 rfl) ?_
        refine r_get Fx hin hK hP 1 rfl 6 (by decide) (by decide +kernel) rfl rfl dX1_buys_30 ?_
        refine lv_iload_n hx hb dX1_buys_33 rfl (lv_at hl 2 rfl) ?_
        refine r_iald Fx hK hP 5 0 rfl rfl (i := b) (by omega) (by decide) dX1_buys_34 ?_
        refine lv_iload hx hb dX1_buys_35 (lv_at hl 0 rfl) ?_
        refine lv_icmp_ge (tgt := 42) hx hb dX1_buys_37 (by decide) (fun h4 => ?_) (fun h4 => ?_)
        · refine lv_aload_n hx hb dX1_buys_42 rfl (lv_at hl 1 rfl) ?_
          refine r_get Fx hin hK hP 1 rfl 4 (by decide) (by decide +kernel) rfl rfl dX1_buys_43 ?_
          refine lv_iload_n hx hb dX1_buys_46 rfl (lv_at hl 4 rfl) ?_
          refine lv_iload hx hb dX1_buys_47 (lv_at hl 5 rfl) ?_
          refine lv_iload_n hx hb dX1_buys_49 rfl (lv_at hl 2 rfl) ?_
          refine r_callRS (rest := [.ref (q 3)]) Fx (m_X1_at l (D := D) (ci := ci) (cz := cz) (cj := cj) (q := q) (F := F) (P := P) (g := g) (th := th) (he := he) (hn := hn) hF hP12 f w b ) (va_cwS 3 Fx.2.2.2.2 gX1_buys_X1_at rfl rfl rfl (by decide +kernel) ⟨Nat.le_of_ble_eq_true rfl, Nat.le_of_ble_eq_true rfl⟩) BW.bl (BW.at hP hK hE hS) rfl hl.1 rfl (Nat.le_of_ble_eq_true rfl) dX1_buys_50 ⟨Nat.zero_le _, Nat.zero_le _⟩ ?_
          refine r_iald Fx hK hP 3 0 rfl rfl (i := sl f w b) (sl_lt (by omega) (by omega) (by omega)) (by decide) dX1_buys_53 ?_
          refine r_as (own g f w b) rfl ?_
          refine lv_if_gt (tgt := 70) hx hb dX1_buys_54 (by decide) (fun h5 => ?_) (fun h5 => ?_)
          · refine lv_iconst (v := nI 1) hx hb dX1_buys_70 (by decide) ?_
            refine lv_goto (tgt := 75) hx hb dX1_buys_71 (by decide) ?_
            exact r_zret hx hb hr hlocks (by simp [sMay, bI, lv, Int32.not_lt, Int32.not_le, h1, h2, h3, h4, Int32.not_lt.mpr h4, h5, Int32.not_le.mpr h5]) dX1_buys_75
          · have h5 := Int32.not_lt.mp h5
            refine lv_aload_n hx hb dX1_buys_57 rfl (lv_at hl 1 rfl) ?_
            refine lv_iload_n hx hb dX1_buys_58 rfl (lv_at hl 3 rfl) ?_
            refine lv_iload_n hx hb dX1_buys_59 rfl (lv_at hl 4 rfl) ?_
            refine lv_iload hx hb dX1_buys_60 (lv_at hl 5 rfl) ?_
            refine lv_iload hx hb dX1_buys_62 (lv_at hl 0 rfl) ?_
            refine r_callR (rest := []) Fx (m_X1_isOtherAhead l (D := D) (ci := ci) (cz := cz) (cj := cj) (q := q) (F := F) (P := P) (g := g) (th := th) (he := he) (hn := hn) hF hP12 k f w (sPri g f w k) (by omega) (by omega) (by omega)) (cwV 4 Fx.2.2.2.2 gX1_buys_X1_isOtherAhead rfl rfl rfl (by decide +kernel) ⟨Nat.le_of_ble_eq_true rfl, Nat.le_of_ble_eq_true rfl⟩) BW.bl (va_recv hK hP (ci := 1) (q0 := 0) rfl rfl) (BW.at hP hK hE hS) rfl hl.1 rfl (Nat.le_of_ble_eq_true rfl) dX1_buys_64 ⟨Nat.zero_le _, Nat.zero_le _⟩ ?_
            refine b_if_ne (tgt := 74) hx hb dX1_buys_67 (by decide) (fun h6 => ?_) (fun h6 => ?_)
            · refine lv_iconst (v := nI 0) hx hb dX1_buys_74 (by decide) ?_
              exact r_zret hx hb hr hlocks (by simp [sMay, bI, lv, Int32.not_lt, Int32.not_le, h1, h2, h3, h4, Int32.not_lt.mpr h4, h5, Int32.not_lt.mpr h5, h6]) dX1_buys_75
            · refine lv_iconst (v := nI 1) hx hb dX1_buys_70 (by decide) ?_
              refine lv_goto (tgt := 75) hx hb dX1_buys_71 (by decide) ?_
              exact r_zret hx hb hr hlocks (by simp [sMay, bI, lv, Int32.not_lt, Int32.not_le, h1, h2, h3, h4, Int32.not_lt.mpr h4, h5, Int32.not_lt.mpr h5, h6]) dX1_buys_75
        · have h4 := Int32.not_le.mp h4
          refine lv_iconst (v := nI 0) hx hb dX1_buys_40 (by decide) ?_
          exact r_zret hx hb hr hlocks (by simp [sMay, bI, lv, Int32.not_lt, Int32.not_le, h1, h2, h3, h4, Int32.not_le.mpr h4]) dX1_buys_41
set_option maxHeartbeats 4000000 in
set_option maxRecDepth 100000 in
theorem m_X1_inFerry (l : Launch) {D : va_G} {ci cz cj : ClassId} {q : Nat → Nat} {F P : Nat} {g : Nat → Nat → Int32} {th : Int32} {he : Nat → Int32} {hn : Nat} (hF : F ≤ 6) (hP12 : P ≤ 12) (f : Nat) (k : Nat) (ha0 : f < 6) (ha1 : k < 12) : Met l yX1_inFerry wsX1_inFerry ({ frames := 1, cells := 0, slots := 0, locals := 22 } : Room) (va_Pc [.ref (q 0), .int (nI f), .int (nI k)] (B1 D ci cz cj q th F P g he hn)) (RQ (some (.int (sFer g f k)))) 0 0 none_ := by
  refine Met.ofR (cc := cX1_inFerry) (maxL := 5) (ret := (some .int)) (by decide) rfl (Nat.le_of_ble_eq_true rfl) ?_
  intro pg en s m bl mt cd ls Fx hr hlocks hB hl
  obtain ⟨hP, hK, hE⟩ := hB
  have hl : lv_has ls 5 [(0, .ref (q 0)), (1, .int (nI f)), (2, .int (nI k))] := hl
  have Fx : CallFix pg m cd cX1_inFerry 5 s _ wsX1_inFerry RX1 := Fx
  have hx := Fx.1
  have hb := Fx.2.1
  have hin : ∀ w ∈ wsX10, w ∈ wsX1_inFerry := by decide +kernel
  have hS : va_S (aw q 9) s.heap s.heap [] := va_S.rf
  have hP : va_P D vwCl (w1 ci cz q th F P g he hn) s.heap := hP
  refine lv_iconst (v := nI 0) hx hb dX1_inFerry_0 (by decide) ?_
  refine lv_istore_n (lv' := [(3, .int (nI 0)), (0, .ref (q 0)), (1, .int (nI f)), (2, .int (nI k))]) hx hb dX1_inFerry_1 rfl hl (by decide) rfl (fun ls hl => ?_)
  refine lv_iconst (v := nI 0) hx hb dX1_inFerry_2 (by decide) ?_
  refine lv_istore (lv' := [(4, .int (nI 0)), (3, .int (nI 0)), (0, .ref (q 0)), (1, .int (nI f)), (2, .int (nI k))]) hx hb dX1_inFerry_3 hl (by decide) rfl (fun ls hl => ?_)
  refine rloop (nL := 5) (N := 4) (fun _ => True) (fun i => [(0, .ref (q 0)), (1, .int (nI f)), (2, .int (nI k)), (3, .int (sm (fun z => own g f z k) i)), (4, .int (nI i))]) (trivial) (lv_sub hl [2, 3, 4, 1, 0] rfl) ?_ ?_
  · intro h1 ls hl
    have hl : lv_has ls 5 [(0, .ref (q 0)), (1, .int (nI f)), (2, .int (nI k)), (3, .int (sm (fun z => own g f z k) 4)), (4, .int (nI 4))] := hl
    refine lv_iload hx hb dX1_inFerry_5 (lv_at hl 4 rfl) ?_
    refine lv_iconst (v := nI 4) hx hb dX1_inFerry_7 (by decide) ?_
    refine n_icmp_ge (tgt := 32) hx hb (by omega) (by omega) dX1_inFerry_8 (by decide) (fun h2 => ?_) (fun h2 => by omega)
    refine lv_iload_n hx hb dX1_inFerry_32 rfl (lv_at hl 3 rfl) ?_
    exact r_iret hx hb hr hlocks (rfl) dX1_inFerry_33
  · intro i h4 h3 ih5 ls hl
    have hl : lv_has ls 5 [(0, .ref (q 0)), (1, .int (nI f)), (2, .int (nI k)), (3, .int (sm (fun z => own g f z k) i)), (4, .int (nI i))] := hl
    refine lv_iload hx hb dX1_inFerry_5 (lv_at hl 4 rfl) ?_
    refine lv_iconst (v := nI 4) hx hb dX1_inFerry_7 (by decide) ?_
    refine n_icmp_ge (tgt := 32) hx hb (by omega) (by omega) dX1_inFerry_8 (by decide) (fun h5 => by omega) (fun h5 => ?_)
    refine lv_iload_n hx hb dX1_inFerry_11 rfl (lv_at hl 3 rfl) ?_
    refine lv_aload_n hx hb dX1_inFerry_12 rfl (lv_at hl 0 rfl) ?_
    refine r_get Fx hin hK hP 1 rfl 4 (by decide) (by decide +kernel) rfl rfl dX1_inFerry_13 ?_
    refine lv_iload_n hx hb dX1_inFerry_16 rfl (lv_at hl 1 rfl) ?_
    refine lv_iload hx hb dX1_inFerry_17 (lv_at hl 4 rfl) ?_
    refine lv_iload_n hx hb dX1_inFerry_19 rfl (lv_at hl 2 rfl) ?_
    refine r_callRS (rest := [.ref (q 3), .int (sm (fun z => own g f z k) i)]) Fx (m_X1_at l (D := D) (ci := ci) (cz := cz) (cj := cj) (q := q) (F := F) (P := P) (g := g) (th := th) (he := he) (hn := hn) hF hP12 f i k ) (va_cwS 3 Fx.2.2.2.2 gX1_inFerry_X1_at rfl rfl rfl (by decide +kernel) ⟨Nat.le_of_ble_eq_true rfl, Nat.le_of_ble_eq_true rfl⟩) BW.bl (BW.at hP hK hE hS) rfl hl.1 rfl (Nat.le_of_ble_eq_true rfl) dX1_inFerry_20 ⟨Nat.zero_le _, Nat.zero_le _⟩ ?_
    refine r_iald Fx hK hP 3 0 rfl rfl (i := sl f i k) (sl_lt (by omega) (by omega) (by omega)) (by decide) dX1_inFerry_23 ?_
    refine r_as (own g f i k) rfl ?_
    refine lv_iadd hx hb dX1_inFerry_24 ?_
    refine lv_istore_n (lv' := [(3, .int ((sm (fun z => own g f z k) i) + (own g f i k))), (0, .ref (q 0)), (1, .int (nI f)), (2, .int (nI k)), (4, .int (nI i))]) hx hb dX1_inFerry_25 rfl hl (by decide) rfl (fun ls hl => ?_)
    refine lv_iinc (v := nI (i + 1)) (lv' := [(4, .int (nI (i + 1))), (3, .int ((sm (fun z => own g f z k) i) + (own g f i k))), (0, .ref (q 0)), (1, .int (nI f)), (2, .int (nI k))]) hx hb dX1_inFerry_26 hl (k := 4) rfl (nI_inc _ 1) (by decide) rfl (fun ls hl => ?_)
    refine lv_goto (tgt := 5) hx hb dX1_inFerry_29 (by decide) ?_
    exact ih5 (trivial) _ (lv_sub hl [2, 3, 4, 1, 0] rfl)
set_option maxHeartbeats 4000000 in
set_option maxRecDepth 100000 in
theorem m_X1_masterOf (l : Launch) {D : va_G} {ci cz cj : ClassId} {q : Nat → Nat} {F P : Nat} {g : Nat → Nat → Int32} {th : Int32} {he : Nat → Int32} {hn : Nat} (hF : F ≤ 6) (hP12 : P ≤ 12) (f : Nat) (ha0 : Iv F P g) (ha1 : f < 6) : Met l yX1_masterOf wsX1_masterOf ({ frames := 2, cells := 0, slots := 0, locals := 46 } : Room) (va_Pc [.ref (q 0), .int (nI f)] (B1 D ci cz cj q th F P g he hn)) (RQ (some (.int (sMas g P f)))) 0 0 none_ := by
  refine Met.ofR (cc := cX1_masterOf) (maxL := 3) (ret := (some .int)) (by decide) rfl (Nat.le_of_ble_eq_true rfl) ?_
  intro pg en s m bl mt cd ls Fx hr hlocks hB hl
  obtain ⟨hP, hK, hE⟩ := hB
  have hl : lv_has ls 3 [(0, .ref (q 0)), (1, .int (nI f))] := hl
  have Fx : CallFix pg m cd cX1_masterOf 3 s _ wsX1_masterOf RX1 := Fx
  have hx := Fx.1
  have hb := Fx.2.1
  have hin : ∀ w ∈ wsX10, w ∈ wsX1_masterOf := by decide +kernel
  have hS : va_S (aw q 9) s.heap s.heap [] := va_S.rf
  have hP : va_P D vwCl (w1 ci cz q th F P g he hn) s.heap := hP
  refine lv_iconst (v := nI 0) hx hb dX1_masterOf_0 (by decide) ?_
  refine lv_istore_n (lv' := [(2, .int (nI 0)), (0, .ref (q 0)), (1, .int (nI f))]) hx hb dX1_masterOf_1 rfl hl (by decide) rfl (fun ls hl => ?_)
  refine rloop (nL := 3) (N := P) (fun i => ∀ z, z < i → (fun z => decide (nI 128 < sFer g f z)) z = false) (fun i => [(0, .ref (q 0)), (1, .int (nI f)), (2, .int (nI i))]) (all_0) (lv_sub hl [1, 2, 0] rfl) ?_ ?_
  · intro h1 ls hl
    have hl : lv_has ls 3 [(0, .ref (q 0)), (1, .int (nI f)), (2, .int (nI P))] := hl
    refine lv_iload_n hx hb dX1_masterOf_2 rfl (lv_at hl 2 rfl) ?_
    refine lv_aload_n hx hb dX1_masterOf_3 rfl (lv_at hl 0 rfl) ?_
    refine r_get Fx hin hK hP 1 rfl 5 (by decide) (by decide +kernel) rfl rfl dX1_masterOf_4 ?_
    refine n_icmp_ge (tgt := 32) hx hb (by omega) (by omega) dX1_masterOf_7 (by decide) (fun h2 => ?_) (fun h2 => by omega)
    refine lv_iconst (v := -1) hx hb dX1_masterOf_32 (by decide) ?_
    exact r_iret hx hb hr hlocks ((ff_none h1).symm) dX1_masterOf_33
  · intro i h4 h3 ih2 ls hl
    have hl : lv_has ls 3 [(0, .ref (q 0)), (1, .int (nI f)), (2, .int (nI i))] := hl
    refine lv_iload_n hx hb dX1_masterOf_2 rfl (lv_at hl 2 rfl) ?_
    refine lv_aload_n hx hb dX1_masterOf_3 rfl (lv_at hl 0 rfl) ?_
    refine r_get Fx hin hK hP 1 rfl 5 (by decide) (by decide +kernel) rfl rfl dX1_masterOf_4 ?_
    refine n_icmp_ge (tgt := 32) hx hb (by omega) (by omega) dX1_masterOf_7 (by decide) (fun h5 => by omega) (fun h5 => ?_)
    refine lv_iconst (v := nI 2) hx hb dX1_masterOf_10 (by decide) ?_
    refine lv_aload_n hx hb dX1_masterOf_11 rfl (lv_at hl 0 rfl) ?_
    refine lv_iload_n hx hb dX1_masterOf_12 rfl (lv_at hl 1 rfl) ?_
    refine lv_iload_n hx hb dX1_masterOf_13 rfl (lv_at hl 2 rfl) ?_
    refine r_callR (rest := [.int (nI 2)]) Fx (m_X1_inFerry l (D := D) (ci := ci) (cz := cz) (cj := cj) (q := q) (F := F) (P := P) (g := g) (th := th) (he := he) (hn := hn) hF hP12 f i (by omega) (by omega)) (cwV 2 Fx.2.2.2.2 gX1_masterOf_X1_inFerry rfl rfl rfl (by decide +kernel) ⟨Nat.le_of_ble_eq_true rfl, Nat.le_of_ble_eq_true rfl⟩) BW.bl (va_recv hK hP (ci := 1) (q0 := 0) rfl rfl) (BW.at hP hK hE hS) rfl hl.1 rfl (Nat.le_of_ble_eq_true rfl) dX1_masterOf_14 ⟨Nat.zero_le _, Nat.zero_le _⟩ ?_
    refine lv_imul hx hb dX1_masterOf_17 ?_
    have hm := iv_mas ha0 (f := f) (k := i) (by omega) (by omega)
    refine lv_sipush (v := nI 256) hx hb dX1_masterOf_18 (by decide) ?_
    refine lv_icmp_le (tgt := 26) hx hb dX1_masterOf_21 (by decide) (fun h6 => ?_) (fun h6 => ?_)
    · have h6 : ¬ nI 128 < sFer g f i := fun e => Int32.not_lt.mpr h6 (hm.mpr e)
      refine lv_iinc (v := nI (i + 1)) (lv' := [(2, .int (nI (i + 1))), (0, .ref (q 0)), (1, .int (nI f))]) hx hb dX1_masterOf_26 hl (k := 2) rfl (nI_inc _ 1) (by decide) rfl (fun ls hl => ?_)
      refine lv_goto (tgt := 2) hx hb dX1_masterOf_29 (by decide) ?_
      exact ih2 (all_s h3 (by simp [Int32.not_lt, Int32.not_le, h3, h4, h5, h6])) _ (lv_sub hl [1, 2, 0] rfl)
    · have h6 := Int32.not_le.mp h6
      have h6 := hm.mp h6
      refine lv_iload_n hx hb dX1_masterOf_24 rfl (lv_at hl 2 rfl) ?_
      exact r_iret hx hb hr hlocks ((ff_some h3 (by simp [h3, h4, h5, h6]) h4).symm) dX1_masterOf_25
set_option maxHeartbeats 4000000 in
set_option maxRecDepth 100000 in
theorem m_X1_part (l : Launch) {D : va_G} {ci cz cj : ClassId} {q : Nat → Nat} {F P : Nat} {g : Nat → Nat → Int32} {th : Int32} {he : Nat → Int32} {hn : Nat} (hF : F ≤ 6) (hP12 : P ≤ 12) (f : Nat) (h : Nat) (k : Nat) (x : Int32) (ha0 : f < 6) (ha1 : h < 24) (ha2 : k < 12) : Met l yX1_part wsX1_part ({ frames := 1, cells := 0, slots := 0, locals := 22 } : Room) (va_Pc [.ref (q 0), .int (nI f), .int (nI h), .int (nI k), .int x] (B1 D ci cz cj q th F P g he hn)) (RQ (some (.int (sFar g f (h / 6) k x)))) 0 0 none_ := by
  refine Met.ofR (cc := cX1_part) (maxL := 5) (ret := (some .int)) (by decide) rfl (Nat.le_of_ble_eq_true rfl) ?_
  intro pg en s m bl mt cd ls Fx hr hlocks hB hl
  obtain ⟨hP, hK, hE⟩ := hB
  have hl : lv_has ls 5 [(0, .ref (q 0)), (1, .int (nI f)), (2, .int (nI h)), (3, .int (nI k)), (4, .int x)] := hl
  have Fx : CallFix pg m cd cX1_part 5 s _ wsX1_part RX1 := Fx
  have hx := Fx.1
  have hb := Fx.2.1
  have hin : ∀ w ∈ wsX10, w ∈ wsX1_part := by decide +kernel
  have hS : va_S (aw q 9) s.heap s.heap [] := va_S.rf
  have hP : va_P D vwCl (w1 ci cz q th F P g he hn) s.heap := hP
  refine lv_iload hx hb dX1_part_0 (lv_at hl 4 rfl) ?_
  refine lv_aload_n hx hb dX1_part_2 rfl (lv_at hl 0 rfl) ?_
  refine r_get Fx hin hK hP 1 rfl 2 (by decide) (by decide +kernel) rfl rfl dX1_part_3 ?_
  refine lv_iload_n hx hb dX1_part_6 rfl (lv_at hl 1 rfl) ?_
  refine r_iald Fx hK hP 1 0 rfl rfl (i := f) (by omega) (by decide) dX1_part_7 ?_
  refine lv_imul hx hb dX1_part_8 ?_
  refine lv_aload_n hx hb dX1_part_9 rfl (lv_at hl 0 rfl) ?_
  refine r_get Fx hin hK hP 1 rfl 4 (by decide) (by decide +kernel) rfl rfl dX1_part_10 ?_
  refine lv_iload_n hx hb dX1_part_13 rfl (lv_at hl 1 rfl) ?_
  refine lv_iload_n hx hb dX1_part_14 rfl (lv_at hl 2 rfl) ?_
  refine lv_bipush (v := nI 6) hx hb dX1_part_15 (by decide) ?_
  refine r_idiv_n hx hb (by omega) (by omega) (by omega) dX1_part_17 ?_
  refine lv_iload_n hx hb dX1_part_18 rfl (lv_at hl 3 rfl) ?_
  refine r_callRS (rest := [.ref (q 3), .int (x * (g 0 f))]) Fx (m_X1_at l (D := D) (ci := ci) (cz := cz) (cj := cj) (q := q) (F := F) (P := P) (g := g) (th := th) (he := he) (hn := hn) hF hP12 f (h / 6) k ) (va_cwS 3 Fx.2.2.2.2 gX1_part_X1_at rfl rfl rfl (by decide +kernel) ⟨Nat.le_of_ble_eq_true rfl, Nat.le_of_ble_eq_true rfl⟩) BW.bl (BW.at hP hK hE hS) rfl hl.1 rfl (Nat.le_of_ble_eq_true rfl) dX1_part_19 ⟨Nat.zero_le _, Nat.zero_le _⟩ ?_
  refine r_iald Fx hK hP 3 0 rfl rfl (i := sl f (h / 6) k) (sl_lt (by omega) (by omega) (by omega)) (by decide) dX1_part_22 ?_
  refine r_as (own g f (h / 6) k) rfl ?_
  refine lv_imul hx hb dX1_part_23 ?_
  refine lv_bipush (v := nI 64) hx hb dX1_part_24 (by decide) ?_
  refine lv_idiv hx hb dX1_part_26 (by decide) ?_
  exact r_iret hx hb hr hlocks (by rw [sFar, Int32.mul_comm (g 0 f) x]) dX1_part_27
set_option maxHeartbeats 4000000 in
set_option maxRecDepth 100000 in
theorem m_X1_alive (l : Launch) {D : va_G} {ci cz cj : ClassId} {q : Nat → Nat} {F P : Nat} {g : Nat → Nat → Int32} {th : Int32} {he : Nat → Int32} {hn : Nat} (hF : F ≤ 6) (hP12 : P ≤ 12) : Met l yX1_alive wsX1_alive ({ frames := 0, cells := 0, slots := 0, locals := 0 } : Room) (va_Pc [.ref (q 0)] (B1 D ci cz cj q th F P g he hn)) (RQ (some (.int (nI (sLiv g P))))) 0 0 none_ := by
  refine Met.ofR (cc := cX1_alive) (maxL := 3) (ret := (some .int)) (by decide) rfl (Nat.le_of_ble_eq_true rfl) ?_
  intro pg en s m bl mt cd ls Fx hr hlocks hB hl
  obtain ⟨hP, hK, hE⟩ := hB
  have hl : lv_has ls 3 [(0, .ref (q 0))] := hl
  have Fx : CallFix pg m cd cX1_alive 3 s _ wsX1_alive RX1 := Fx
  have hx := Fx.1
  have hb := Fx.2.1
  have hin : ∀ w ∈ wsX10, w ∈ wsX1_alive := by decide +kernel
  have hS : va_S (aw q 9) s.heap s.heap [] := va_S.rf
  have hP : va_P D vwCl (w1 ci cz q th F P g he hn) s.heap := hP
  refine lv_iconst (v := nI 0) hx hb dX1_alive_0 (by decide) ?_
  refine lv_istore_n (lv' := [(1, .int (nI 0)), (0, .ref (q 0))]) hx hb dX1_alive_1 rfl hl (by decide) rfl (fun ls hl => ?_)
  refine lv_iconst (v := nI 0) hx hb dX1_alive_2 (by decide) ?_
  refine lv_istore_n (lv' := [(2, .int (nI 0)), (1, .int (nI 0)), (0, .ref (q 0))]) hx hb dX1_alive_3 rfl hl (by decide) rfl (fun ls hl => ?_)
  refine rloop (nL := 3) (N := P) (fun _ => True) (fun i => [(0, .ref (q 0)), (1, .int (nI (cn (fun z => lv g z) i))), (2, .int (nI i))]) (trivial) (lv_sub hl [2, 1, 0] rfl) ?_ ?_
  · intro h1 ls hl
    have hl : lv_has ls 3 [(0, .ref (q 0)), (1, .int (nI (cn (fun z => lv g z) P))), (2, .int (nI P))] := hl
    refine lv_iload_n hx hb dX1_alive_4 rfl (lv_at hl 2 rfl) ?_
    refine lv_aload_n hx hb dX1_alive_5 rfl (lv_at hl 0 rfl) ?_
    refine r_get Fx hin hK hP 1 rfl 5 (by decide) (by decide +kernel) rfl rfl dX1_alive_6 ?_
    refine n_icmp_ge (tgt := 35) hx hb (by omega) (by omega) dX1_alive_9 (by decide) (fun h2 => ?_) (fun h2 => by omega)
    refine lv_iload_n hx hb dX1_alive_35 rfl (lv_at hl 1 rfl) ?_
    exact r_iret hx hb hr hlocks (rfl) dX1_alive_36
  · intro i h4 h3 ih4 ls hl
    have hl : lv_has ls 3 [(0, .ref (q 0)), (1, .int (nI (cn (fun z => lv g z) i))), (2, .int (nI i))] := hl
    refine lv_iload_n hx hb dX1_alive_4 rfl (lv_at hl 2 rfl) ?_
    refine lv_aload_n hx hb dX1_alive_5 rfl (lv_at hl 0 rfl) ?_
    refine r_get Fx hin hK hP 1 rfl 5 (by decide) (by decide +kernel) rfl rfl dX1_alive_6 ?_
    refine n_icmp_ge (tgt := 35) hx hb (by omega) (by omega) dX1_alive_9 (by decide) (fun h5 => by omega) (fun h5 => ?_)
    refine lv_iload_n hx hb dX1_alive_12 rfl (lv_at hl 1 rfl) ?_
    refine lv_aload_n hx hb dX1_alive_13 rfl (lv_at hl 0 rfl) ?_
    refine r_get Fx hin hK hP 1 rfl 9 (by decide) (by decide +kernel) rfl rfl dX1_alive_14 ?_
    refine lv_iload_n hx hb dX1_alive_17 rfl (lv_at hl 2 rfl) ?_
    refine r_zald Fx hK hP 4 1 rfl rfl (i := i) (by omega) (by decide) dX1_alive_18 ?_
    refine lv_if_eq (tgt := 26) hx hb dX1_alive_19 (by decide) (fun h6 => ?_) (fun h6 => ?_)
    · refine lv_iconst (v := nI 1) hx hb dX1_alive_26 (by decide) ?_
      refine r_iadd_n hx hb dX1_alive_27 ?_
      refine lv_istore_n (lv' := [(1, .int (nI ((cn (fun z => lv g z) i) + 1))), (0, .ref (q 0)), (2, .int (nI i))]) hx hb dX1_alive_28 rfl hl (by decide) rfl (fun ls hl => ?_)
      refine lv_iinc (v := nI (i + 1)) (lv' := [(2, .int (nI (i + 1))), (1, .int (nI ((cn (fun z => lv g z) i) + 1))), (0, .ref (q 0))]) hx hb dX1_alive_29 hl (k := 2) rfl (nI_inc _ 1) (by decide) rfl (fun ls hl => ?_)
      refine lv_goto (tgt := 4) hx hb dX1_alive_32 (by decide) ?_
      have e1_ : nI ((cn (fun z => lv g z) i) + 1) = nI (cn (fun z => lv g z) (i + 1)) := by simp [cn, lv, h4, h5, h6]
      rw [e1_] at hl
      exact ih4 (trivial) _ (lv_sub hl [2, 1, 0] rfl)
    · refine lv_iconst (v := nI 0) hx hb dX1_alive_22 (by decide) ?_
      refine lv_goto (tgt := 27) hx hb dX1_alive_23 (by decide) ?_
      refine r_iadd_n hx hb dX1_alive_27 ?_
      refine lv_istore_n (lv' := [(1, .int (nI ((cn (fun z => lv g z) i) + 0))), (0, .ref (q 0)), (2, .int (nI i))]) hx hb dX1_alive_28 rfl hl (by decide) rfl (fun ls hl => ?_)
      refine lv_iinc (v := nI (i + 1)) (lv' := [(2, .int (nI (i + 1))), (1, .int (nI ((cn (fun z => lv g z) i) + 0))), (0, .ref (q 0))]) hx hb dX1_alive_29 hl (k := 2) rfl (nI_inc _ 1) (by decide) rfl (fun ls hl => ?_)
      refine lv_goto (tgt := 4) hx hb dX1_alive_32 (by decide) ?_
      have e1_ : nI ((cn (fun z => lv g z) i) + 0) = nI (cn (fun z => lv g z) (i + 1)) := by simp [cn, lv, h4, h5, h6]
      rw [e1_] at hl
      exact ih4 (trivial) _ (lv_sub hl [2, 1, 0] rfl)
set_option maxHeartbeats 4000000 in
set_option maxRecDepth 100000 in
theorem m_X1_allOf (l : Launch) {D : va_G} {ci cz cj : ClassId} {q : Nat → Nat} {F P : Nat} {g : Nat → Nat → Int32} {th : Int32} {he : Nat → Int32} {hn : Nat} (hF : F ≤ 6) (hP12 : P ≤ 12) (k : Nat) (ha0 : k < 12) : Met l yX1_allOf wsX1_allOf ({ frames := 2, cells := 0, slots := 0, locals := 46 } : Room) (va_Pc [.ref (q 0), .int (nI k)] (B1 D ci cz cj q th F P g he hn)) (RQ (some (.int (sAll g F k)))) 0 0 none_ := by
  refine Met.ofR (cc := cX1_allOf) (maxL := 4) (ret := (some .int)) (by decide) rfl (Nat.le_of_ble_eq_true rfl) ?_
  intro pg en s m bl mt cd ls Fx hr hlocks hB hl
  obtain ⟨hP, hK, hE⟩ := hB
  have hl : lv_has ls 4 [(0, .ref (q 0)), (1, .int (nI k))] := hl
  have Fx : CallFix pg m cd cX1_allOf 4 s _ wsX1_allOf RX1 := Fx
  have hx := Fx.1
  have hb := Fx.2.1
  have hin : ∀ w ∈ wsX10, w ∈ wsX1_allOf := by decide +kernel
  have hS : va_S (aw q 9) s.heap s.heap [] := va_S.rf
  have hP : va_P D vwCl (w1 ci cz q th F P g he hn) s.heap := hP
  refine lv_iconst (v := nI 0) hx hb dX1_allOf_0 (by decide) ?_
  refine lv_istore_n (lv' := [(2, .int (nI 0)), (0, .ref (q 0)), (1, .int (nI k))]) hx hb dX1_allOf_1 rfl hl (by decide) rfl (fun ls hl => ?_)
  refine lv_iconst (v := nI 0) hx hb dX1_allOf_2 (by decide) ?_
  refine lv_istore_n (lv' := [(3, .int (nI 0)), (2, .int (nI 0)), (0, .ref (q 0)), (1, .int (nI k))]) hx hb dX1_allOf_3 rfl hl (by decide) rfl (fun ls hl => ?_)
  refine rloop (nL := 4) (N := F) (fun _ => True) (fun i => [(0, .ref (q 0)), (1, .int (nI k)), (2, .int (sm (fun z => sFer g z k) i)), (3, .int (nI i))]) (trivial) (lv_sub hl [2, 3, 1, 0] rfl) ?_ ?_
  · intro h1 ls hl
    have hl : lv_has ls 4 [(0, .ref (q 0)), (1, .int (nI k)), (2, .int (sm (fun z => sFer g z k) F)), (3, .int (nI F))] := hl
    refine lv_iload_n hx hb dX1_allOf_4 rfl (lv_at hl 3 rfl) ?_
    refine lv_aload_n hx hb dX1_allOf_5 rfl (lv_at hl 0 rfl) ?_
    refine r_get Fx hin hK hP 1 rfl 1 (by decide) (by decide +kernel) rfl rfl dX1_allOf_6 ?_
    refine n_icmp_ge (tgt := 27) hx hb (by omega) (by omega) dX1_allOf_9 (by decide) (fun h2 => ?_) (fun h2 => by omega)
    refine lv_iload_n hx hb dX1_allOf_27 rfl (lv_at hl 2 rfl) ?_
    exact r_iret hx hb hr hlocks (rfl) dX1_allOf_28
  · intro i h4 h3 ih4 ls hl
    have hl : lv_has ls 4 [(0, .ref (q 0)), (1, .int (nI k)), (2, .int (sm (fun z => sFer g z k) i)), (3, .int (nI i))] := hl
    refine lv_iload_n hx hb dX1_allOf_4 rfl (lv_at hl 3 rfl) ?_
    refine lv_aload_n hx hb dX1_allOf_5 rfl (lv_at hl 0 rfl) ?_
    refine r_get Fx hin hK hP 1 rfl 1 (by decide) (by decide +kernel) rfl rfl dX1_allOf_6 ?_
    refine n_icmp_ge (tgt := 27) hx hb (by omega) (by omega) dX1_allOf_9 (by decide) (fun h5 => by omega) (fun h5 => ?_)
    refine lv_iload_n hx hb dX1_allOf_12 rfl (lv_at hl 2 rfl) ?_
    refine lv_aload_n hx hb dX1_allOf_13 rfl (lv_at hl 0 rfl) ?_
    refine lv_iload_n hx hb dX1_allOf_14 rfl (lv_at hl 3 rfl) ?_
    refine lv_iload_n hx hb dX1_allOf_15 rfl (lv_at hl 1 rfl) ?_
    refine r_callR (rest := [.int (sm (fun z => sFer g z k) i)]) Fx (m_X1_inFerry l (D := D) (ci := ci) (cz := cz) (cj := cj) (q := q) (F := F) (P := P) (g := g) (th := th) (he := he) (hn := hn) hF hP12 i k (by omega) (by omega)) (cwV 2 Fx.2.2.2.2 gX1_allOf_X1_inFerry rfl rfl rfl (by decide +kernel) ⟨Nat.le_of_ble_eq_true rfl, Nat.le_of_ble_eq_true rfl⟩) BW.bl (va_recv hK hP (ci := 1) (q0 := 0) rfl rfl) (BW.at hP hK hE hS) rfl hl.1 rfl (Nat.le_of_ble_eq_true rfl) dX1_allOf_16 ⟨Nat.zero_le _, Nat.zero_le _⟩ ?_
    refine lv_iadd hx hb dX1_allOf_19 ?_
    refine lv_istore_n (lv' := [(2, .int ((sm (fun z => sFer g z k) i) + (sFer g i k))), (0, .ref (q 0)), (1, .int (nI k)), (3, .int (nI i))]) hx hb dX1_allOf_20 rfl hl (by decide) rfl (fun ls hl => ?_)
    refine lv_iinc (v := nI (i + 1)) (lv' := [(3, .int (nI (i + 1))), (2, .int ((sm (fun z => sFer g z k) i) + (sFer g i k))), (0, .ref (q 0)), (1, .int (nI k))]) hx hb dX1_allOf_21 hl (k := 3) rfl (nI_inc _ 1) (by decide) rfl (fun ls hl => ?_)
    refine lv_goto (tgt := 4) hx hb dX1_allOf_24 (by decide) ?_
    exact ih4 (trivial) _ (lv_sub hl [2, 3, 1, 0] rfl)
set_option maxHeartbeats 4000000 in
set_option maxRecDepth 100000 in
theorem m_X1_childrenOf (l : Launch) {D : va_G} {ci cz cj : ClassId} {q : Nat → Nat} {F P : Nat} {g : Nat → Nat → Int32} {th : Int32} {he : Nat → Int32} {hn : Nat} (hF : F ≤ 6) (hP12 : P ≤ 12) (k : Nat) : Met l yX1_childrenOf wsX1_childrenOf ({ frames := 0, cells := 0, slots := 0, locals := 0 } : Room) (va_Pc [.ref (q 0), .int (nI k)] (B1 D ci cz cj q th F P g he hn)) (RQ (some (.int (nI (sChi g P k))))) 0 0 none_ := by
  refine Met.ofR (cc := cX1_childrenOf) (maxL := 4) (ret := (some .int)) (by decide) rfl (Nat.le_of_ble_eq_true rfl) ?_
  intro pg en s m bl mt cd ls Fx hr hlocks hB hl
  obtain ⟨hP, hK, hE⟩ := hB
  have hl : lv_has ls 4 [(0, .ref (q 0)), (1, .int (nI k))] := hl
  have Fx : CallFix pg m cd cX1_childrenOf 4 s _ wsX1_childrenOf RX1 := Fx
  have hx := Fx.1
  have hb := Fx.2.1
  have hin : ∀ w ∈ wsX10, w ∈ wsX1_childrenOf := by decide +kernel
  have hS : va_S (aw q 9) s.heap s.heap [] := va_S.rf
  have hP : va_P D vwCl (w1 ci cz q th F P g he hn) s.heap := hP
  refine lv_iconst (v := nI 0) hx hb dX1_childrenOf_0 (by decide) ?_
  refine lv_istore_n (lv' := [(2, .int (nI 0)), (0, .ref (q 0)), (1, .int (nI k))]) hx hb dX1_childrenOf_1 rfl hl (by decide) rfl (fun ls hl => ?_)
  refine lv_iconst (v := nI 0) hx hb dX1_childrenOf_2 (by decide) ?_
  refine lv_istore_n (lv' := [(3, .int (nI 0)), (2, .int (nI 0)), (0, .ref (q 0)), (1, .int (nI k))]) hx hb dX1_childrenOf_3 rfl hl (by decide) rfl (fun ls hl => ?_)
  refine rloop (nL := 4) (N := P) (fun _ => True) (fun i => [(0, .ref (q 0)), (1, .int (nI k)), (2, .int (nI (cn (fun z => decide (g 6 z = nI k)) i))), (3, .int (nI i))]) (trivial) (lv_sub hl [2, 3, 1, 0] rfl) ?_ ?_
  · intro h1 ls hl
    have hl : lv_has ls 4 [(0, .ref (q 0)), (1, .int (nI k)), (2, .int (nI (cn (fun z => decide (g 6 z = nI k)) P))), (3, .int (nI P))] := hl
    refine lv_iload_n hx hb dX1_childrenOf_4 rfl (lv_at hl 3 rfl) ?_
    refine lv_aload_n hx hb dX1_childrenOf_5 rfl (lv_at hl 0 rfl) ?_
    refine r_get Fx hin hK hP 1 rfl 5 (by decide) (by decide +kernel) rfl rfl dX1_childrenOf_6 ?_
    refine n_icmp_ge (tgt := 36) hx hb (by omega) (by omega) dX1_childrenOf_9 (by decide) (fun h2 => ?_) (fun h2 => by omega)
    refine lv_iload_n hx hb dX1_childrenOf_36 rfl (lv_at hl 2 rfl) ?_
    exact r_iret hx hb hr hlocks (rfl) dX1_childrenOf_37
  · intro i h4 h3 ih4 ls hl
    have hl : lv_has ls 4 [(0, .ref (q 0)), (1, .int (nI k)), (2, .int (nI (cn (fun z => decide (g 6 z = nI k)) i))), (3, .int (nI i))] := hl
    refine lv_iload_n hx hb dX1_childrenOf_4 rfl (lv_at hl 3 rfl) ?_
    refine lv_aload_n hx hb dX1_childrenOf_5 rfl (lv_at hl 0 rfl) ?_
    refine r_get Fx hin hK hP 1 rfl 5 (by decide) (by decide +kernel) rfl rfl dX1_childrenOf_6 ?_
    refine n_icmp_ge (tgt := 36) hx hb (by omega) (by omega) dX1_childrenOf_9 (by decide) (fun h5 => by omega) (fun h5 => ?_)
    refine lv_iload_n hx hb dX1_childrenOf_12 rfl (lv_at hl 2 rfl) ?_
    refine lv_aload_n hx hb dX1_childrenOf_13 rfl (lv_at hl 0 rfl) ?_
    refine r_get Fx hin hK hP 1 rfl 8 (by decide) (by decide +kernel) rfl rfl dX1_childrenOf_14 ?_
    refine lv_iload_n hx hb dX1_childrenOf_17 rfl (lv_at hl 3 rfl) ?_
    refine r_iald Fx hK hP 7 0 rfl rfl (i := i) (by omega) (by decide) dX1_childrenOf_18 ?_
    refine lv_iload_n hx hb dX1_childrenOf_19 rfl (lv_at hl 1 rfl) ?_
    refine lv_icmp_ne (tgt := 27) hx hb dX1_childrenOf_20 (by decide) (fun h6 => ?_) (fun h6 => ?_)
    · refine lv_iconst (v := nI 0) hx hb dX1_childrenOf_27 (by decide) ?_
      refine r_iadd_n hx hb dX1_childrenOf_28 ?_
      refine lv_istore_n (lv' := [(2, .int (nI ((cn (fun z => decide (g 6 z = nI k)) i) + 0))), (0, .ref (q 0)), (1, .int (nI k)), (3, .int (nI i))]) hx hb dX1_childrenOf_29 rfl hl (by decide) rfl (fun ls hl => ?_)
      refine lv_iinc (v := nI (i + 1)) (lv' := [(3, .int (nI (i + 1))), (2, .int (nI ((cn (fun z => decide (g 6 z = nI k)) i) + 0))), (0, .ref (q 0)), (1, .int (nI k))]) hx hb dX1_childrenOf_30 hl (k := 3) rfl (nI_inc _ 1) (by decide) rfl (fun ls hl => ?_)
      refine lv_goto (tgt := 4) hx hb dX1_childrenOf_33 (by decide) ?_
      have e2_ : nI ((cn (fun z => decide (g 6 z = nI k)) i) + 0) = nI (cn (fun z => decide (g 6 z = nI k)) (i + 1)) := by simp [cn, h4, h5, h6]
      rw [e2_] at hl
      exact ih4 (trivial) _ (lv_sub hl [2, 3, 1, 0] rfl)
    · refine lv_iconst (v := nI 1) hx hb dX1_childrenOf_23 (by decide) ?_
      refine lv_goto (tgt := 28) hx hb dX1_childrenOf_24 (by decide) ?_
      refine r_iadd_n hx hb dX1_childrenOf_28 ?_
      refine lv_istore_n (lv' := [(2, .int (nI ((cn (fun z => decide (g 6 z = nI k)) i) + 1))), (0, .ref (q 0)), (1, .int (nI k)), (3, .int (nI i))]) hx hb dX1_childrenOf_29 rfl hl (by decide) rfl (fun ls hl => ?_)
      refine lv_iinc (v := nI (i + 1)) (lv' := [(3, .int (nI (i + 1))), (2, .int (nI ((cn (fun z => decide (g 6 z = nI k)) i) + 1))), (0, .ref (q 0)), (1, .int (nI k))]) hx hb dX1_childrenOf_30 hl (k := 3) rfl (nI_inc _ 1) (by decide) rfl (fun ls hl => ?_)
      refine lv_goto (tgt := 4) hx hb dX1_childrenOf_33 (by decide) ?_
      have e2_ : nI ((cn (fun z => decide (g 6 z = nI k)) i) + 1) = nI (cn (fun z => decide (g 6 z = nI k)) (i + 1)) := by simp [cn, h4, h5, h6]
      rw [e2_] at hl
      exact ih4 (trivial) _ (lv_sub hl [2, 3, 1, 0] rfl)
set_option maxHeartbeats 4000000 in
set_option maxRecDepth 100000 in
theorem m_X1_addHeir (l : Launch) {D : va_G} {ci cz cj : ClassId} {q : Nat → Nat} {F P : Nat} {g : Nat → Nat → Int32} {th : Int32} {he : Nat → Int32} {hn : Nat} (hq : DQ q 9) (hF : F ≤ 6) (hP12 : P ≤ 12) (k : Nat) (ha0 : hn < 12) : Met l yX1_addHeir wsX1_addHeir ({ frames := 0, cells := 0, slots := 0, locals := 0 } : Room) (va_Pc [.ref (q 0), .int (nI k)] (B1 D ci cz cj q th F P g he hn)) (WQ none (fun H => va_P D vwCl (w1 ci cz q th F P g (upd he hn (nI k)) (hn + 1)) H) (aw q 9)) 0 0 (aw q 9) := by
  refine Met.ofWr (cc := cX1_addHeir) (maxL := 2) (ret := none) (by decide) rfl (Nat.le_of_ble_eq_true rfl) ?_
  intro pg en s m bl mt cd ls Fx hr hlocks hB hl
  obtain ⟨hP, hK, hE⟩ := hB
  have hl : lv_has ls 2 [(0, .ref (q 0)), (1, .int (nI k))] := hl
  have Fx : CallFix pg m cd cX1_addHeir 2 s _ wsX1_addHeir RX1 := Fx
  have hx := Fx.1
  have hb := Fx.2.1
  have hin : ∀ w ∈ wsX10, w ∈ wsX1_addHeir := by decide +kernel
  have hS : va_S (aw q 9) s.heap s.heap [] := va_S.rf
  have hP : va_P D vwCl (w1 ci cz q th F P g he hn) s.heap := hP
  refine lv_aload_n hx hb dX1_addHeir_0 rfl (lv_at hl 0 rfl) ?_
  refine r_get Fx hin hK hP 1 rfl 11 (by decide) (by decide +kernel) rfl rfl dX1_addHeir_1 ?_
  refine lv_aload_n hx hb dX1_addHeir_4 rfl (lv_at hl 0 rfl) ?_
  refine r_get Fx hin hK hP 1 rfl 12 (by decide) (by decide +kernel) rfl rfl dX1_addHeir_5 ?_
  refine lv_iload_n hx hb dX1_addHeir_8 rfl (lv_at hl 1 rfl) ?_
  refine r_iast Fx hK hP (d1 hq) hS 8 0 rfl rfl (i := hn) (by omega) (by decide) dX1_addHeir_9 (fun H locs hP hS => ?_)
  have hP : va_P D vwCl (w1 ci cz q th F P g (upd he hn (nI k)) hn) H := hP
  refine lv_aload_n hx hb dX1_addHeir_10 rfl (lv_at hl 0 rfl) ?_
  refine lv_dup hx hb dX1_addHeir_11 rfl ?_
  refine r_get Fx hin hK hP 1 rfl 12 (by decide) (by decide +kernel) rfl rfl dX1_addHeir_12 ?_
  refine lv_iconst (v := nI 1) hx hb dX1_addHeir_15 (by decide) ?_
  refine r_iadd_n hx hb dX1_addHeir_16 ?_
  refine r_put Fx hin tyX1 tyX1_ok nmX1 hK hP (d1 hq) hS 1 rfl 12 (by decide) (by decide +kernel) rfl (by decide +kernel) rfl (Nat.le_of_ble_eq_true rfl) dX1_addHeir_17 (fun H locs hP hS => ?_)
  have hP : va_P D vwCl (w1 ci cz q th F P g (upd he hn (nI k)) (hn + 1)) H := hP
  exact w_vret hx hb hr hlocks hS (hP) dX1_addHeir_20
set_option maxHeartbeats 4000000 in
set_option maxRecDepth 100000 in
theorem m_X1_lookForHeirs (l : Launch) {D : va_G} {ci cz cj : ClassId} {q : Nat → Nat} {F P : Nat} {g : Nat → Nat → Int32} {th : Int32} {he : Nat → Int32} {hn : Nat} (hq : DQ q 9) (hF : F ≤ 6) (hP12 : P ≤ 12) (k : Nat) (ha0 : Iv F P g) (ha1 : k < P) : Met l yX1_lookForHeirs wsX1_lookForHeirs ({ frames := 1, cells := 0, slots := 0, locals := 21 } : Room) (va_Pc [.ref (q 0), .int (nI k)] (B1 D ci cz cj q th F P g he hn)) (WQ none (fun H => ∃ he, HeOk g P k he ∧ va_P D vwCl (w1 ci cz q th F P g he (sCHe g P k)) H) (aw q 9)) 0 0 (aw q 9) := by
  refine Met.ofWr (cc := cX1_lookForHeirs) (maxL := 3) (ret := none) (by decide) rfl (Nat.le_of_ble_eq_true rfl) ?_
  intro pg en s m bl mt cd ls Fx hr hlocks hB hl
  obtain ⟨hP, hK, hE⟩ := hB
  have hl : lv_has ls 3 [(0, .ref (q 0)), (1, .int (nI k))] := hl
  have Fx : CallFix pg m cd cX1_lookForHeirs 3 s _ wsX1_lookForHeirs RX1 := Fx
  have hx := Fx.1
  have hb := Fx.2.1
  have hin : ∀ w ∈ wsX10, w ∈ wsX1_lookForHeirs := by decide +kernel
  have hS : va_S (aw q 9) s.heap s.heap [] := va_S.rf
  have hP : va_P D vwCl (w1 ci cz q th F P g he hn) s.heap := hP
  refine lv_aload_n hx hb dX1_lookForHeirs_0 rfl (lv_at hl 0 rfl) ?_
  refine lv_iconst (v := nI 0) hx hb dX1_lookForHeirs_1 (by decide) ?_
  refine r_put Fx hin tyX1 tyX1_ok nmX1 hK hP (d1 hq) hS 1 rfl 12 (by decide) (by decide +kernel) rfl (by decide +kernel) rfl (Nat.le_of_ble_eq_true rfl) dX1_lookForHeirs_2 (fun H locs hP hS => ?_)
  have hP : va_P D vwCl (w1 ci cz q th F P g he 0) H := hP
  refine lv_iconst (v := nI 0) hx hb dX1_lookForHeirs_5 (by decide) ?_
  refine lv_istore_n (lv' := [(2, .int (nI 0)), (0, .ref (q 0)), (1, .int (nI k))]) hx hb dX1_lookForHeirs_6 rfl hl (by decide) rfl (fun ls hl => ?_)
  refine wloop (nL := 3) (N := P) (fun _ => True) (fun i => [(0, .ref (q 0)), (1, .int (nI k)), (2, .int (nI i))]) (fun i H => va_P D vwCl (w1 ci cz q th F P g (heF (b1f g k) he i) (cn (b1f g k) i)) H) (trivial) (hP) hS (lv_sub hl [1, 2, 0] rfl) ?_ ?_
  · intro h1 H locs ls hP hS hl
    have hl : lv_has ls 3 [(0, .ref (q 0)), (1, .int (nI k)), (2, .int (nI P))] := hl
    have hP : va_P D vwCl (w1 ci cz q th F P g (heF (b1f g k) he P) (cn (b1f g k) P)) H := hP
    refine lv_iload_n hx hb dX1_lookForHeirs_7 rfl (lv_at hl 2 rfl) ?_
    refine lv_aload_n hx hb dX1_lookForHeirs_8 rfl (lv_at hl 0 rfl) ?_
    refine r_get Fx hin hK hP 1 rfl 5 (by decide) (by decide +kernel) rfl rfl dX1_lookForHeirs_9 ?_
    refine n_icmp_ge (tgt := 45) hx hb (by omega) (by omega) dX1_lookForHeirs_12 (by decide) (fun h2 => ?_) (fun h2 => by omega)
    have hcc := cn_le (b1f g k) P
    refine lv_aload_n hx hb dX1_lookForHeirs_45 rfl (lv_at hl 0 rfl) ?_
    refine r_get Fx hin hK hP 1 rfl 12 (by decide) (by decide +kernel) rfl rfl dX1_lookForHeirs_46 ?_
    refine n_if_gt (tgt := 62) hx hb (by omega) dX1_lookForHeirs_49 (by decide) (fun h3 => ?_) (fun h3 => ?_)
    · exact w_vret hx hb hr hlocks hS (by first | exact lh1 ha0 ha1 h3 hP | exact lh0 ha1 h2 h3 hP) dX1_lookForHeirs_62
    · refine lv_aload_n hx hb dX1_lookForHeirs_52 rfl (lv_at hl 0 rfl) ?_
      refine r_get Fx hin hK hP 1 rfl 8 (by decide) (by decide +kernel) rfl rfl dX1_lookForHeirs_53 ?_
      refine lv_iload_n hx hb dX1_lookForHeirs_56 rfl (lv_at hl 1 rfl) ?_
      refine r_iald Fx hK hP 7 0 rfl rfl (i := k) (by omega) (by decide) dX1_lookForHeirs_57 ?_
      refine lv_iconst (v := -1) hx hb dX1_lookForHeirs_58 (by decide) ?_
      refine lv_icmp_ne (tgt := 63) hx hb dX1_lookForHeirs_59 (by decide) (fun h4 => ?_) (fun h4 => ?_)
      · have hc0 : cn (b1f g k) P = 0 := by omega
        refine lv_iconst (v := nI 0) hx hb dX1_lookForHeirs_63 (by decide) ?_
        refine lv_istore_n (lv' := [(2, .int (nI 0)), (0, .ref (q 0)), (1, .int (nI k))]) hx hb dX1_lookForHeirs_64 rfl hl (by decide) rfl (fun ls hl => ?_)
        refine wloop (nL := 3) (N := P) (fun _ => True) (fun i => [(0, .ref (q 0)), (1, .int (nI k)), (2, .int (nI i))]) (fun i H => va_P D vwCl (w1 ci cz q th F P g (heF (b2f g k) (heF (b1f g k) he P) i) (cn (b2f g k) i)) H) (trivial) (by rw [hc0] at hP; exact hP) hS (lv_sub hl [1, 2, 0] rfl) ?_ ?_
        · intro h5 H locs ls hP hS hl
          have hl : lv_has ls 3 [(0, .ref (q 0)), (1, .int (nI k)), (2, .int (nI P))] := hl
          have hP : va_P D vwCl (w1 ci cz q th F P g (heF (b2f g k) (heF (b1f g k) he P) P) (cn (b2f g k) P)) H := hP
          refine lv_iload_n hx hb dX1_lookForHeirs_65 rfl (lv_at hl 2 rfl) ?_
          refine lv_aload_n hx hb dX1_lookForHeirs_66 rfl (lv_at hl 0 rfl) ?_
          refine r_get Fx hin hK hP 1 rfl 5 (by decide) (by decide +kernel) rfl rfl dX1_lookForHeirs_67 ?_
          refine n_icmp_ge (tgt := 113) hx hb (by omega) (by omega) dX1_lookForHeirs_70 (by decide) (fun h6 => ?_) (fun h6 => by omega)
          exact w_vret hx hb hr hlocks hS (lh2 hc0 (by assumption) hP) dX1_lookForHeirs_113
        · intro i h8 h7 ih65 H locs ls hP hS hl
          have hl : lv_has ls 3 [(0, .ref (q 0)), (1, .int (nI k)), (2, .int (nI i))] := hl
          have hP : va_P D vwCl (w1 ci cz q th F P g (heF (b2f g k) (heF (b1f g k) he P) i) (cn (b2f g k) i)) H := hP
          refine lv_iload_n hx hb dX1_lookForHeirs_65 rfl (lv_at hl 2 rfl) ?_
          refine lv_aload_n hx hb dX1_lookForHeirs_66 rfl (lv_at hl 0 rfl) ?_
          refine r_get Fx hin hK hP 1 rfl 5 (by decide) (by decide +kernel) rfl rfl dX1_lookForHeirs_67 ?_
          refine n_icmp_ge (tgt := 113) hx hb (by omega) (by omega) dX1_lookForHeirs_70 (by decide) (fun h9 => by omega) (fun h9 => ?_)
          refine lv_iload_n hx hb dX1_lookForHeirs_73 rfl (lv_at hl 2 rfl) ?_
          refine lv_iload_n hx hb dX1_lookForHeirs_74 rfl (lv_at hl 1 rfl) ?_
          refine n_icmp_eq (tgt := 107) hx hb (by omega) (by omega) dX1_lookForHeirs_75 (by decide) (fun h10 => ?_) (fun h10 => ?_)
          · refine lv_iinc (v := nI (i + 1)) (lv' := [(2, .int (nI (i + 1))), (0, .ref (q 0)), (1, .int (nI k))]) hx hb dX1_lookForHeirs_107 hl (k := 2) rfl (nI_inc _ 1) (by decide) rfl (fun ls hl => ?_)
            refine lv_goto (tgt := 65) hx hb dX1_lookForHeirs_110 (by decide) ?_
            exact ih65 (trivial) _ _ _ (by have e1_ : heF (b2f g k) (heF (b1f g k) he P) (i + 1) = heF (b2f g k) (heF (b1f g k) he P) i := (by simp [heF, cn, b2f, lv, h2, h3, h4, h8, h9, h10]); have e2_ : cn (b2f g k) (i + 1) = cn (b2f g k) i := (by simp [heF, cn, b2f, lv, h2, h3, h4, h8, h9, h10]); show va_P D vwCl (w1 ci cz q th F P g (heF (b2f g k) (heF (b1f g k) he P) (i + 1)) (cn (b2f g k) (i + 1))) H; rw [e1_, e2_]; exact hP) hS (lv_sub hl [1, 2, 0] rfl)
          · refine lv_aload_n hx hb dX1_lookForHeirs_78 rfl (lv_at hl 0 rfl) ?_
            refine r_get Fx hin hK hP 1 rfl 8 (by decide) (by decide +kernel) rfl rfl dX1_lookForHeirs_79 ?_
            refine lv_iload_n hx hb dX1_lookForHeirs_82 rfl (lv_at hl 2 rfl) ?_
            refine r_iald Fx hK hP 7 0 rfl rfl (i := i) (by omega) (by decide) dX1_lookForHeirs_83 ?_
            refine lv_aload_n hx hb dX1_lookForHeirs_84 rfl (lv_at hl 0 rfl) ?_
            refine r_get Fx hin hK hP 1 rfl 8 (by decide) (by decide +kernel) rfl rfl dX1_lookForHeirs_85 ?_
            refine lv_iload_n hx hb dX1_lookForHeirs_88 rfl (lv_at hl 1 rfl) ?_
            refine r_iald Fx hK hP 7 0 rfl rfl (i := k) (by omega) (by decide) dX1_lookForHeirs_89 ?_
            refine lv_icmp_ne (tgt := 107) hx hb dX1_lookForHeirs_90 (by decide) (fun h11 => ?_) (fun h11 => ?_)
            · refine lv_iinc (v := nI (i + 1)) (lv' := [(2, .int (nI (i + 1))), (0, .ref (q 0)), (1, .int (nI k))]) hx hb dX1_lookForHeirs_107 hl (k := 2) rfl (nI_inc _ 1) (by decide) rfl (fun ls hl => ?_)
              refine lv_goto (tgt := 65) hx hb dX1_lookForHeirs_110 (by decide) ?_
              exact ih65 (trivial) _ _ _ (by have e1_ : heF (b2f g k) (heF (b1f g k) he P) (i + 1) = heF (b2f g k) (heF (b1f g k) he P) i := (by simp [heF, cn, b2f, lv, h2, h3, h4, h8, h9, h10, h11]); have e2_ : cn (b2f g k) (i + 1) = cn (b2f g k) i := (by simp [heF, cn, b2f, lv, h2, h3, h4, h8, h9, h10, h11]); show va_P D vwCl (w1 ci cz q th F P g (heF (b2f g k) (heF (b1f g k) he P) (i + 1)) (cn (b2f g k) (i + 1))) H; rw [e1_, e2_]; exact hP) hS (lv_sub hl [1, 2, 0] rfl)
            · refine lv_aload_n hx hb dX1_lookForHeirs_93 rfl (lv_at hl 0 rfl) ?_
              refine r_get Fx hin hK hP 1 rfl 9 (by decide) (by decide +kernel) rfl rfl dX1_lookForHeirs_94 ?_
              refine lv_iload_n hx hb dX1_lookForHeirs_97 rfl (lv_at hl 2 rfl) ?_
              refine r_zald Fx hK hP 4 1 rfl rfl (i := i) (by omega) (by decide) dX1_lookForHeirs_98 ?_
              refine lv_if_ne (tgt := 107) hx hb dX1_lookForHeirs_99 (by decide) (fun h12 => ?_) (fun h12 => ?_)
              · refine lv_iinc (v := nI (i + 1)) (lv' := [(2, .int (nI (i + 1))), (0, .ref (q 0)), (1, .int (nI k))]) hx hb dX1_lookForHeirs_107 hl (k := 2) rfl (nI_inc _ 1) (by decide) rfl (fun ls hl => ?_)
                refine lv_goto (tgt := 65) hx hb dX1_lookForHeirs_110 (by decide) ?_
                exact ih65 (trivial) _ _ _ (by have e1_ : heF (b2f g k) (heF (b1f g k) he P) (i + 1) = heF (b2f g k) (heF (b1f g k) he P) i := (by simp [heF, cn, b2f, lv, h2, h3, h4, h8, h9, h10, h11, h12]); have e2_ : cn (b2f g k) (i + 1) = cn (b2f g k) i := (by simp [heF, cn, b2f, lv, h2, h3, h4, h8, h9, h10, h11, h12]); show va_P D vwCl (w1 ci cz q th F P g (heF (b2f g k) (heF (b1f g k) he P) (i + 1)) (cn (b2f g k) (i + 1))) H; rw [e1_, e2_]; exact hP) hS (lv_sub hl [1, 2, 0] rfl)
              · refine lv_aload_n hx hb dX1_lookForHeirs_102 rfl (lv_at hl 0 rfl) ?_
                refine lv_iload_n hx hb dX1_lookForHeirs_103 rfl (lv_at hl 2 rfl) ?_
                have hcc := cn_le (b2f g k) i
                refine r_callW (rest := []) Fx (m_X1_addHeir l (D := D) (ci := ci) (cz := cz) (cj := cj) (q := q) (F := F) (P := P) (g := g) (th := th) (he := heF (b2f g k) (heF (b1f g k) he P) i) (hn := cn (b2f g k) i) hq hF hP12 i (by omega)) (cwV 1 Fx.2.2.2.2 gX1_lookForHeirs_X1_addHeir rfl rfl rfl (by decide +kernel) ⟨Nat.le_of_ble_eq_true rfl, Nat.le_of_ble_eq_true rfl⟩) BW.bl (va_recv hK hP (ci := 1) (q0 := 0) rfl rfl) (BW.at hP hK hE hS) rfl hl.1 rfl (Nat.le_of_ble_eq_true rfl) dX1_lookForHeirs_104 ⟨Nat.zero_le _, Nat.zero_le _⟩ hS (fun _ h => h) (fun H locs hP hS _ _ => ?_)
                have hP : va_P D vwCl (w1 ci cz q th F P g (upd (heF (b2f g k) (heF (b1f g k) he P) i) (cn (b2f g k) i) (nI i)) (cn (b2f g k) i + 1)) H := hP
                refine lv_iinc (v := nI (i + 1)) (lv' := [(2, .int (nI (i + 1))), (0, .ref (q 0)), (1, .int (nI k))]) hx hb dX1_lookForHeirs_107 hl (k := 2) rfl (nI_inc _ 1) (by decide) rfl (fun ls hl => ?_)
                refine lv_goto (tgt := 65) hx hb dX1_lookForHeirs_110 (by decide) ?_
                exact ih65 (trivial) _ _ _ (by have e1_ : heF (b2f g k) (heF (b1f g k) he P) (i + 1) = upd (heF (b2f g k) (heF (b1f g k) he P) i) (cn (b2f g k) i) (nI i) := (by simp [heF, cn, b2f, lv, h2, h3, h4, h8, h9, h10, h11, h12]); have e2_ : cn (b2f g k) (i + 1) = cn (b2f g k) i + 1 := (by simp [heF, cn, b2f, lv, h2, h3, h4, h8, h9, h10, h11, h12]); show va_P D vwCl (w1 ci cz q th F P g (heF (b2f g k) (heF (b1f g k) he P) (i + 1)) (cn (b2f g k) (i + 1))) H; rw [e1_, e2_]; exact hP) hS (lv_sub hl [1, 2, 0] rfl)
      · exact w_vret hx hb hr hlocks hS (by first | exact lh1 ha0 ha1 h4 hP | exact lh0 ha1 h3 h4 hP) dX1_lookForHeirs_62
  · intro i h14 h13 ih7 H locs ls hP hS hl
    have hl : lv_has ls 3 [(0, .ref (q 0)), (1, .int (nI k)), (2, .int (nI i))] := hl
    have hP : va_P D vwCl (w1 ci cz q th F P g (heF (b1f g k) he i) (cn (b1f g k) i)) H := hP
    refine lv_iload_n hx hb dX1_lookForHeirs_7 rfl (lv_at hl 2 rfl) ?_
    refine lv_aload_n hx hb dX1_lookForHeirs_8 rfl (lv_at hl 0 rfl) ?_
    refine r_get Fx hin hK hP 1 rfl 5 (by decide) (by decide +kernel) rfl rfl dX1_lookForHeirs_9 ?_
    refine n_icmp_ge (tgt := 45) hx hb (by omega) (by omega) dX1_lookForHeirs_12 (by decide) (fun h15 => by omega) (fun h15 => ?_)
    refine lv_aload_n hx hb dX1_lookForHeirs_15 rfl (lv_at hl 0 rfl) ?_
    refine r_get Fx hin hK hP 1 rfl 8 (by decide) (by decide +kernel) rfl rfl dX1_lookForHeirs_16 ?_
    refine lv_iload_n hx hb dX1_lookForHeirs_19 rfl (lv_at hl 2 rfl) ?_
    refine r_iald Fx hK hP 7 0 rfl rfl (i := i) (by omega) (by decide) dX1_lookForHeirs_20 ?_
    refine lv_iload_n hx hb dX1_lookForHeirs_21 rfl (lv_at hl 1 rfl) ?_
    refine lv_icmp_ne (tgt := 39) hx hb dX1_lookForHeirs_22 (by decide) (fun h16 => ?_) (fun h16 => ?_)
    · refine lv_iinc (v := nI (i + 1)) (lv' := [(2, .int (nI (i + 1))), (0, .ref (q 0)), (1, .int (nI k))]) hx hb dX1_lookForHeirs_39 hl (k := 2) rfl (nI_inc _ 1) (by decide) rfl (fun ls hl => ?_)
      refine lv_goto (tgt := 7) hx hb dX1_lookForHeirs_42 (by decide) ?_
      exact ih7 (trivial) _ _ _ (by have e1_ : heF (b1f g k) he (i + 1) = heF (b1f g k) he i := (by simp [heF, cn, b1f, lv, h14, h15, h16]); have e2_ : cn (b1f g k) (i + 1) = cn (b1f g k) i := (by simp [heF, cn, b1f, lv, h14, h15, h16]); show va_P D vwCl (w1 ci cz q th F P g (heF (b1f g k) he (i + 1)) (cn (b1f g k) (i + 1))) H; rw [e1_, e2_]; exact hP) hS (lv_sub hl [1, 2, 0] rfl)
    · refine lv_aload_n hx hb dX1_lookForHeirs_25 rfl (lv_at hl 0 rfl) ?_
      refine r_get Fx hin hK hP 1 rfl 9 (by decide) (by decide +kernel) rfl rfl dX1_lookForHeirs_26 ?_
      refine lv_iload_n hx hb dX1_lookForHeirs_29 rfl (lv_at hl 2 rfl) ?_
      refine r_zald Fx hK hP 4 1 rfl rfl (i := i) (by omega) (by decide) dX1_lookForHeirs_30 ?_
      refine lv_if_ne (tgt := 39) hx hb dX1_lookForHeirs_31 (by decide) (fun h17 => ?_) (fun h17 => ?_)
      · refine lv_iinc (v := nI (i + 1)) (lv' := [(2, .int (nI (i + 1))), (0, .ref (q 0)), (1, .int (nI k))]) hx hb dX1_lookForHeirs_39 hl (k := 2) rfl (nI_inc _ 1) (by decide) rfl (fun ls hl => ?_)
        refine lv_goto (tgt := 7) hx hb dX1_lookForHeirs_42 (by decide) ?_
        exact ih7 (trivial) _ _ _ (by have e1_ : heF (b1f g k) he (i + 1) = heF (b1f g k) he i := (by simp [heF, cn, b1f, lv, h14, h15, h16, h17]); have e2_ : cn (b1f g k) (i + 1) = cn (b1f g k) i := (by simp [heF, cn, b1f, lv, h14, h15, h16, h17]); show va_P D vwCl (w1 ci cz q th F P g (heF (b1f g k) he (i + 1)) (cn (b1f g k) (i + 1))) H; rw [e1_, e2_]; exact hP) hS (lv_sub hl [1, 2, 0] rfl)
      · refine lv_aload_n hx hb dX1_lookForHeirs_34 rfl (lv_at hl 0 rfl) ?_
        refine lv_iload_n hx hb dX1_lookForHeirs_35 rfl (lv_at hl 2 rfl) ?_
        have hcc := cn_le (b1f g k) i
        refine r_callW (rest := []) Fx (m_X1_addHeir l (D := D) (ci := ci) (cz := cz) (cj := cj) (q := q) (F := F) (P := P) (g := g) (th := th) (he := heF (b1f g k) he i) (hn := cn (b1f g k) i) hq hF hP12 i (by omega)) (cwV 1 Fx.2.2.2.2 gX1_lookForHeirs_X1_addHeir rfl rfl rfl (by decide +kernel) ⟨Nat.le_of_ble_eq_true rfl, Nat.le_of_ble_eq_true rfl⟩) BW.bl (va_recv hK hP (ci := 1) (q0 := 0) rfl rfl) (BW.at hP hK hE hS) rfl hl.1 rfl (Nat.le_of_ble_eq_true rfl) dX1_lookForHeirs_36 ⟨Nat.zero_le _, Nat.zero_le _⟩ hS (fun _ h => h) (fun H locs hP hS _ _ => ?_)
        have hP : va_P D vwCl (w1 ci cz q th F P g (upd (heF (b1f g k) he i) (cn (b1f g k) i) (nI i)) (cn (b1f g k) i + 1)) H := hP
        refine lv_iinc (v := nI (i + 1)) (lv' := [(2, .int (nI (i + 1))), (0, .ref (q 0)), (1, .int (nI k))]) hx hb dX1_lookForHeirs_39 hl (k := 2) rfl (nI_inc _ 1) (by decide) rfl (fun ls hl => ?_)
        refine lv_goto (tgt := 7) hx hb dX1_lookForHeirs_42 (by decide) ?_
        exact ih7 (trivial) _ _ _ (by have e1_ : heF (b1f g k) he (i + 1) = upd (heF (b1f g k) he i) (cn (b1f g k) i) (nI i) := (by simp [heF, cn, b1f, lv, h14, h15, h16, h17]); have e2_ : cn (b1f g k) (i + 1) = cn (b1f g k) i + 1 := (by simp [heF, cn, b1f, lv, h14, h15, h16, h17]); show va_P D vwCl (w1 ci cz q th F P g (heF (b1f g k) he (i + 1)) (cn (b1f g k) (i + 1))) H; rw [e1_, e2_]; exact hP) hS (lv_sub hl [1, 2, 0] rfl)
