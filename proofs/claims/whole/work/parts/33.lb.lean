/-! PART 33: the catching methods of the law, II. -/
section LII
theorem m_L_hasMaster (l : Launch) (hl0 : l.stackTraces = false) {D : va_G} {ci cz cj : ClassId} {q : Nat → Nat} {F P : Nat} {g : Nat → Nat → Int32} {ob : Nat} {f0 : Nat → Int64} (hq9 : DQ (qo q ob) 9) (hF : F ≤ 6) (hP12 : P ≤ 12) (a : Int32): Met l yL_hasMaster wsL_hasMaster ({ frames := 8, cells := 1, slots := 6, locals := 124 } : Room) (va_Pc [.ref (q 0), .int a, .ref ob] (BL D ci cz cj q F P g ob f0)) (WQ (some (.int (nI (k_1 F a)))) (LQ D cj ob (w0 ci cz q F P g) (k_1 F a) (bL (decide (sMas g P (ix a) ≠ -1)))) (aw (qo q ob) 9)) 1 6 (aw (qo q ob) 9) := by
  refine Met.ofL (cc := cL_hasMaster) (maxL := 4) (ret := (some .int)) (hh := [(0, 16, 19, 24)]) (by decide) rfl (Nat.le_of_ble_eq_true rfl) ?_
  intro pg en s m bl mt cd ls Fx hr hlocks htab hB hl
  obtain ⟨⟨hP, hK, hE⟩, hNC, hO⟩ := hB
  have hl : lv_has ls 4 [(0, .ref (q 0)), (1, .int a), (2, .ref ob)] := hl
  have Fx : CallFix pg m cd cL_hasMaster 4 s _ wsL_hasMaster RL := Fx
  have hx := Fx.1
  have hb := Fx.2.1
  have hP : va_P D vwCl (w0 ci cz q F P g) s.heap := hP
  refine lv_aload_n hx hb dL_hasMaster_0 rfl (lv_at hl 2 rfl) ?_
  refine lv_iconst (v := nI 0) hx hb dL_hasMaster_1 (by decide) ?_
  refine lv_aload_n hx hb dL_hasMaster_2 rfl (lv_at hl 0 rfl) ?_
  refine lv_iload_n hx hb dL_hasMaster_3 rfl (lv_at hl 1 rfl) ?_
  refine r_callT (A0 := aw (qo q ob) 9) (H0 := s.heap) (rest := [.int (nI 0), .ref ob]) Fx (m_X0_hasMaster l hl0 (D := D) (ci := ci) (cz := cz) (cj := cj) (q := q) (F := F) (P := P) (g := g) (qo_q hq9) hF hP12 a) (cwV 1 Fx.2.2.2.2 gL_hasMaster_X0_hasMaster rfl rfl rfl (by decide +kernel) ⟨Nat.le_of_ble_eq_true rfl, Nat.le_of_ble_eq_true rfl⟩) BW.bl (va_recv hK hP (ci := 0) (q0 := 0) rfl rfl) (BW.at hP hK hE va_S.rf) rfl hl.1 rfl (Nat.le_of_ble_eq_true rfl) dL_hasMaster_4 ⟨Nat.le_of_ble_eq_true rfl, Nat.le_of_ble_eq_true rfl⟩ va_S.rf (fun _ h => aw_o h) (fun H locs hk0 hP hS hkp => ?_) (fun j E ce q9 H locs hj hxs hh hS hce hcv hcl => ?_)
  · have hO : va_P D vwCl (wo cj ob f0) H := P_stay hO hkp (wo_n hq9)
    refine b_if_eq (tgt := 14) hx hb dL_hasMaster_7 (by decide) (fun hb9 => ?_) (fun hb9 => ?_)
    · refine lv_lconst (v := 0) hx hb dL_hasMaster_14 rfl ?_
      refine r_last Fx hK rfl hP hO hq9 hS dL_hasMaster_15 (fun H locs f1 hP hO hf1 hS => ?_)
      refine lv_goto (tgt := 22) hx hb dL_hasMaster_16 (by decide) ?_
      refine lv_iconst (v := nI 0) hx hb dL_hasMaster_22 (by decide) ?_
      exact l_iret hx hb hr hlocks hS ⟨hP, f1, hO, fun _ => hf1.trans (by rw [hb9]; rfl)⟩ (congrArg nI hk0.symm) (Nat.le_refl _) (Nat.le_refl _) dL_hasMaster_23
    · refine lv_lconst (v := 1) hx hb dL_hasMaster_10 rfl ?_
      refine lv_goto (tgt := 15) hx hb dL_hasMaster_11 (by decide) ?_
      refine r_last Fx hK rfl hP hO hq9 hS dL_hasMaster_15 (fun H locs f1 hP hO hf1 hS => ?_)
      refine lv_goto (tgt := 22) hx hb dL_hasMaster_16 (by decide) ?_
      refine lv_iconst (v := nI 0) hx hb dL_hasMaster_22 (by decide) ?_
      exact l_iret hx hb hr hlocks hS ⟨hP, f1, hO, fun _ => hf1.trans (by rw [hb9]; rfl)⟩ (congrArg nI hk0.symm) (Nat.le_refl _) (Nat.le_refl _) dL_hasMaster_23
  · have hP : va_P D vwCl (w0 ci cz q F P g) H := P_all hP hh
    have hO : va_P D vwCl (wo cj ob f0) H := P_all hO hh
    rcases j with _ | j
    · obtain rfl : xIO = E := Option.some.inj hxs
      refine l_catch (xs := [xIO]) 0 Fx hE hNC htab rfl rfl rfl (by decide +kernel) (by decide +kernel) (by decide +kernel) (by decide) hce hcv hcl ?_
      refine lv_astore_n (lv' := [(3, .ref q9), (0, .ref (q 0)), (1, .int a), (2, .ref ob)]) hx hb dL_hasMaster_19 rfl hl (by decide) rfl (fun ls hl => ?_)
      refine lv_iconst (v := nI 1) hx hb dL_hasMaster_20 (by decide) ?_
      exact l_iret hx hb hr hlocks hS ⟨hP, f0, hO, fun e => absurd (hj.symm.trans e) (by decide)⟩ (congrArg nI hj.symm) (Nat.le_refl _) (Nat.le_refl _) dL_hasMaster_21
    · simp at hxs
theorem m_L_shareValue (l : Launch) (hl0 : l.stackTraces = false) {D : va_G} {ci cz cj : ClassId} {q : Nat → Nat} {F P : Nat} {g : Nat → Nat → Int32} {ob : Nat} {f0 : Nat → Int64} (hq9 : DQ (qo q ob) 9) (hF : F ≤ 6) (hP12 : P ≤ 12) (f : Int32) (w : Int32): Met l yL_shareValue wsL_shareValue ({ frames := 8, cells := 1, slots := 6, locals := 125 } : Room) (va_Pc [.ref (q 0), .int f, .int w, .ref ob] (BL D ci cz cj q F P g ob f0)) (WQ (some (.int (nI (k_fw F f w)))) (LQ D cj ob (w0 ci cz q F P g) (k_fw F f w) ((sWor g (ix f) (ix w)).toInt64)) (aw (qo q ob) 9)) 1 6 (aw (qo q ob) 9) := by
  refine Met.ofL (cc := cL_shareValue) (maxL := 5) (ret := (some .int)) (hh := [(0, 10, 13, 24)]) (by decide) rfl (Nat.le_of_ble_eq_true rfl) ?_
  intro pg en s m bl mt cd ls Fx hr hlocks htab hB hl
  obtain ⟨⟨hP, hK, hE⟩, hNC, hO⟩ := hB
  have hl : lv_has ls 5 [(0, .ref (q 0)), (1, .int f), (2, .int w), (3, .ref ob)] := hl
  have Fx : CallFix pg m cd cL_shareValue 5 s _ wsL_shareValue RL := Fx
  have hx := Fx.1
  have hb := Fx.2.1
  have hP : va_P D vwCl (w0 ci cz q F P g) s.heap := hP
  refine lv_aload_n hx hb dL_shareValue_0 rfl (lv_at hl 3 rfl) ?_
  refine lv_iconst (v := nI 0) hx hb dL_shareValue_1 (by decide) ?_
  refine lv_aload_n hx hb dL_shareValue_2 rfl (lv_at hl 0 rfl) ?_
  refine lv_iload_n hx hb dL_shareValue_3 rfl (lv_at hl 1 rfl) ?_
  refine lv_iload_n hx hb dL_shareValue_4 rfl (lv_at hl 2 rfl) ?_
  refine r_callT (A0 := aw (qo q ob) 9) (H0 := s.heap) (rest := [.int (nI 0), .ref ob]) Fx (m_X0_shareValue l hl0 (D := D) (ci := ci) (cz := cz) (cj := cj) (q := q) (F := F) (P := P) (g := g) (qo_q hq9) hF hP12 f w) (cwV 2 Fx.2.2.2.2 gL_shareValue_X0_shareValue rfl rfl rfl (by decide +kernel) ⟨Nat.le_of_ble_eq_true rfl, Nat.le_of_ble_eq_true rfl⟩) BW.bl (va_recv hK hP (ci := 0) (q0 := 0) rfl rfl) (BW.at hP hK hE va_S.rf) rfl hl.1 rfl (Nat.le_of_ble_eq_true rfl) dL_shareValue_5 ⟨Nat.le_of_ble_eq_true rfl, Nat.le_of_ble_eq_true rfl⟩ va_S.rf (fun _ h => aw_o h) (fun H locs hk0 hP hS hkp => ?_) (fun j E ce q9 H locs hj hxs hh hS hce hcv hcl => ?_)
  · have hO : va_P D vwCl (wo cj ob f0) H := P_stay hO hkp (wo_n hq9)
    refine lv_i2l hx hb dL_shareValue_8 rfl ?_
    refine r_last Fx hK rfl hP hO hq9 hS dL_shareValue_9 (fun H locs f1 hP hO hf1 hS => ?_)
    refine lv_goto (tgt := 17) hx hb dL_shareValue_10 (by decide) ?_
    refine lv_iconst (v := nI 0) hx hb dL_shareValue_17 (by decide) ?_
    exact l_iret hx hb hr hlocks hS ⟨hP, f1, hO, fun _ => hf1⟩ (congrArg nI hk0.symm) (Nat.le_refl _) (Nat.le_refl _) dL_shareValue_18
  · have hP : va_P D vwCl (w0 ci cz q F P g) H := P_all hP hh
    have hO : va_P D vwCl (wo cj ob f0) H := P_all hO hh
    rcases j with _ | j
    · obtain rfl : xIO = E := Option.some.inj hxs
      refine l_catch (xs := [xIO]) 0 Fx hE hNC htab rfl rfl rfl (by decide +kernel) (by decide +kernel) (by decide +kernel) (by decide) hce hcv hcl ?_
      refine lv_astore (lv' := [(4, .ref q9), (0, .ref (q 0)), (1, .int f), (2, .int w), (3, .ref ob)]) hx hb dL_shareValue_13 hl (by decide) rfl (fun ls hl => ?_)
      refine lv_iconst (v := nI 1) hx hb dL_shareValue_15 (by decide) ?_
      exact l_iret hx hb hr hlocks hS ⟨hP, f0, hO, fun e => absurd (hj.symm.trans e) (by decide)⟩ (congrArg nI hj.symm) (Nat.le_refl _) (Nat.le_refl _) dL_shareValue_16
    · simp at hxs
theorem m_L_watchAt (l : Launch) (hl0 : l.stackTraces = false) {D : va_G} {ci cz cj : ClassId} {q : Nat → Nat} {F P : Nat} {g : Nat → Nat → Int32} {ob : Nat} {f0 : Nat → Int64} (hq9 : DQ (qo q ob) 9) (hF : F ≤ 6) (hP12 : P ≤ 12) (a : Int32): Met l yL_watchAt wsL_watchAt ({ frames := 8, cells := 1, slots := 6, locals := 123 } : Room) (va_Pc [.ref (q 0), .int a, .ref ob] (BL D ci cz cj q F P g ob f0)) (WQ (some (.int (nI (k_1 24 a)))) (LQ D cj ob (w0 ci cz q F P g) (k_1 24 a) ((nI (ix a / 6)).toInt64)) (aw (qo q ob) 9)) 1 6 (aw (qo q ob) 9) := by
  refine Met.ofL (cc := cL_watchAt) (maxL := 4) (ret := (some .int)) (hh := [(0, 9, 12, 24)]) (by decide) rfl (Nat.le_of_ble_eq_true rfl) ?_
  intro pg en s m bl mt cd ls Fx hr hlocks htab hB hl
  obtain ⟨⟨hP, hK, hE⟩, hNC, hO⟩ := hB
  have hl : lv_has ls 4 [(0, .ref (q 0)), (1, .int a), (2, .ref ob)] := hl
  have Fx : CallFix pg m cd cL_watchAt 4 s _ wsL_watchAt RL := Fx
  have hx := Fx.1
  have hb := Fx.2.1
  have hP : va_P D vwCl (w0 ci cz q F P g) s.heap := hP
  refine lv_aload_n hx hb dL_watchAt_0 rfl (lv_at hl 2 rfl) ?_
  refine lv_iconst (v := nI 0) hx hb dL_watchAt_1 (by decide) ?_
  refine lv_aload_n hx hb dL_watchAt_2 rfl (lv_at hl 0 rfl) ?_
  refine lv_iload_n hx hb dL_watchAt_3 rfl (lv_at hl 1 rfl) ?_
  refine r_callT (A0 := aw (qo q ob) 9) (H0 := s.heap) (rest := [.int (nI 0), .ref ob]) Fx (m_X0_watchAt l hl0 (D := D) (ci := ci) (cz := cz) (cj := cj) (q := q) (F := F) (P := P) (g := g) (qo_q hq9) hF hP12 a) (cwV 1 Fx.2.2.2.2 gL_watchAt_X0_watchAt rfl rfl rfl (by decide +kernel) ⟨Nat.le_of_ble_eq_true rfl, Nat.le_of_ble_eq_true rfl⟩) BW.bl (va_recv hK hP (ci := 0) (q0 := 0) rfl rfl) (BW.at hP hK hE va_S.rf) rfl hl.1 rfl (Nat.le_of_ble_eq_true rfl) dL_watchAt_4 ⟨Nat.le_of_ble_eq_true rfl, Nat.le_of_ble_eq_true rfl⟩ va_S.rf (fun _ h => aw_o h) (fun H locs hk0 hP hS hkp => ?_) (fun j E ce q9 H locs hj hxs hh hS hce hcv hcl => ?_)
  · have hO : va_P D vwCl (wo cj ob f0) H := P_stay hO hkp (wo_n hq9)
    refine lv_i2l hx hb dL_watchAt_7 rfl ?_
    refine r_last Fx hK rfl hP hO hq9 hS dL_watchAt_8 (fun H locs f1 hP hO hf1 hS => ?_)
    refine lv_goto (tgt := 15) hx hb dL_watchAt_9 (by decide) ?_
    refine lv_iconst (v := nI 0) hx hb dL_watchAt_15 (by decide) ?_
    exact l_iret hx hb hr hlocks hS ⟨hP, f1, hO, fun _ => hf1⟩ (congrArg nI hk0.symm) (Nat.le_refl _) (Nat.le_refl _) dL_watchAt_16
  · have hP : va_P D vwCl (w0 ci cz q F P g) H := P_all hP hh
    have hO : va_P D vwCl (wo cj ob f0) H := P_all hO hh
    rcases j with _ | j
    · obtain rfl : xIO = E := Option.some.inj hxs
      refine l_catch (xs := [xIO]) 0 Fx hE hNC htab rfl rfl rfl (by decide +kernel) (by decide +kernel) (by decide +kernel) (by decide) hce hcv hcl ?_
      refine lv_astore_n (lv' := [(3, .ref q9), (0, .ref (q 0)), (1, .int a), (2, .ref ob)]) hx hb dL_watchAt_12 rfl hl (by decide) rfl (fun ls hl => ?_)
      refine lv_iconst (v := nI 1) hx hb dL_watchAt_13 (by decide) ?_
      exact l_iret hx hb hr hlocks hS ⟨hP, f0, hO, fun e => absurd (hj.symm.trans e) (by decide)⟩ (congrArg nI hj.symm) (Nat.le_refl _) (Nat.le_refl _) dL_watchAt_14
    · simp at hxs
theorem m_L_isAlive (l : Launch) (hl0 : l.stackTraces = false) {D : va_G} {ci cz cj : ClassId} {q : Nat → Nat} {F P : Nat} {g : Nat → Nat → Int32} {ob : Nat} {f0 : Nat → Int64} (hq9 : DQ (qo q ob) 9) (hF : F ≤ 6) (hP12 : P ≤ 12) (a : Int32): Met l yL_isAlive wsL_isAlive ({ frames := 8, cells := 1, slots := 6, locals := 124 } : Room) (va_Pc [.ref (q 0), .int a, .ref ob] (BL D ci cz cj q F P g ob f0)) (WQ (some (.int (nI (k_1 P a)))) (LQ D cj ob (w0 ci cz q F P g) (k_1 P a) (bL (lv g (ix a)))) (aw (qo q ob) 9)) 1 6 (aw (qo q ob) 9) := by
  refine Met.ofL (cc := cL_isAlive) (maxL := 4) (ret := (some .int)) (hh := [(0, 16, 19, 24)]) (by decide) rfl (Nat.le_of_ble_eq_true rfl) ?_
  intro pg en s m bl mt cd ls Fx hr hlocks htab hB hl
  obtain ⟨⟨hP, hK, hE⟩, hNC, hO⟩ := hB
  have hl : lv_has ls 4 [(0, .ref (q 0)), (1, .int a), (2, .ref ob)] := hl
  have Fx : CallFix pg m cd cL_isAlive 4 s _ wsL_isAlive RL := Fx
  have hx := Fx.1
  have hb := Fx.2.1
  have hP : va_P D vwCl (w0 ci cz q F P g) s.heap := hP
  refine lv_aload_n hx hb dL_isAlive_0 rfl (lv_at hl 2 rfl) ?_
  refine lv_iconst (v := nI 0) hx hb dL_isAlive_1 (by decide) ?_
  refine lv_aload_n hx hb dL_isAlive_2 rfl (lv_at hl 0 rfl) ?_
  refine lv_iload_n hx hb dL_isAlive_3 rfl (lv_at hl 1 rfl) ?_
  refine r_callT (A0 := aw (qo q ob) 9) (H0 := s.heap) (rest := [.int (nI 0), .ref ob]) Fx (m_X0_isAlive l hl0 (D := D) (ci := ci) (cz := cz) (cj := cj) (q := q) (F := F) (P := P) (g := g) (qo_q hq9) hF hP12 a) (cwV 1 Fx.2.2.2.2 gL_isAlive_X0_isAlive rfl rfl rfl (by decide +kernel) ⟨Nat.le_of_ble_eq_true rfl, Nat.le_of_ble_eq_true rfl⟩) BW.bl (va_recv hK hP (ci := 0) (q0 := 0) rfl rfl) (BW.at hP hK hE va_S.rf) rfl hl.1 rfl (Nat.le_of_ble_eq_true rfl) dL_isAlive_4 ⟨Nat.le_of_ble_eq_true rfl, Nat.le_of_ble_eq_true rfl⟩ va_S.rf (fun _ h => aw_o h) (fun H locs hk0 hP hS hkp => ?_) (fun j E ce q9 H locs hj hxs hh hS hce hcv hcl => ?_)
  · have hO : va_P D vwCl (wo cj ob f0) H := P_stay hO hkp (wo_n hq9)
    refine b_if_eq (tgt := 14) hx hb dL_isAlive_7 (by decide) (fun hb9 => ?_) (fun hb9 => ?_)
    · refine lv_lconst (v := 0) hx hb dL_isAlive_14 rfl ?_
      refine r_last Fx hK rfl hP hO hq9 hS dL_isAlive_15 (fun H locs f1 hP hO hf1 hS => ?_)
      refine lv_goto (tgt := 22) hx hb dL_isAlive_16 (by decide) ?_
      refine lv_iconst (v := nI 0) hx hb dL_isAlive_22 (by decide) ?_
      exact l_iret hx hb hr hlocks hS ⟨hP, f1, hO, fun _ => hf1.trans (by rw [hb9]; rfl)⟩ (congrArg nI hk0.symm) (Nat.le_refl _) (Nat.le_refl _) dL_isAlive_23
    · refine lv_lconst (v := 1) hx hb dL_isAlive_10 rfl ?_
      refine lv_goto (tgt := 15) hx hb dL_isAlive_11 (by decide) ?_
      refine r_last Fx hK rfl hP hO hq9 hS dL_isAlive_15 (fun H locs f1 hP hO hf1 hS => ?_)
      refine lv_goto (tgt := 22) hx hb dL_isAlive_16 (by decide) ?_
      refine lv_iconst (v := nI 0) hx hb dL_isAlive_22 (by decide) ?_
      exact l_iret hx hb hr hlocks hS ⟨hP, f1, hO, fun _ => hf1.trans (by rw [hb9]; rfl)⟩ (congrArg nI hk0.symm) (Nat.le_refl _) (Nat.le_refl _) dL_isAlive_23
  · have hP : va_P D vwCl (w0 ci cz q F P g) H := P_all hP hh
    have hO : va_P D vwCl (wo cj ob f0) H := P_all hO hh
    rcases j with _ | j
    · obtain rfl : xIO = E := Option.some.inj hxs
      refine l_catch (xs := [xIO]) 0 Fx hE hNC htab rfl rfl rfl (by decide +kernel) (by decide +kernel) (by decide +kernel) (by decide) hce hcv hcl ?_
      refine lv_astore_n (lv' := [(3, .ref q9), (0, .ref (q 0)), (1, .int a), (2, .ref ob)]) hx hb dL_isAlive_19 rfl hl (by decide) rfl (fun ls hl => ?_)
      refine lv_iconst (v := nI 1) hx hb dL_isAlive_20 (by decide) ?_
      exact l_iret hx hb hr hlocks hS ⟨hP, f0, hO, fun e => absurd (hj.symm.trans e) (by decide)⟩ (congrArg nI hj.symm) (Nat.le_refl _) (Nat.le_refl _) dL_isAlive_21
    · simp at hxs
theorem m_L_coins (l : Launch) (hl0 : l.stackTraces = false) {D : va_G} {ci cz cj : ClassId} {q : Nat → Nat} {F P : Nat} {g : Nat → Nat → Int32} {ob : Nat} {f0 : Nat → Int64} (hq9 : DQ (qo q ob) 9) (hF : F ≤ 6) (hP12 : P ≤ 12) (a : Int32): Met l yL_coins wsL_coins ({ frames := 8, cells := 1, slots := 6, locals := 124 } : Room) (va_Pc [.ref (q 0), .int a, .ref ob] (BL D ci cz cj q F P g ob f0)) (WQ (some (.int (nI (k_1 P a)))) (LQ D cj ob (w0 ci cz q F P g) (k_1 P a) ((g 4 (ix a)).toInt64)) (aw (qo q ob) 9)) 1 6 (aw (qo q ob) 9) := by
  refine Met.ofL (cc := cL_coins) (maxL := 4) (ret := (some .int)) (hh := [(0, 9, 12, 24)]) (by decide) rfl (Nat.le_of_ble_eq_true rfl) ?_
  intro pg en s m bl mt cd ls Fx hr hlocks htab hB hl
  obtain ⟨⟨hP, hK, hE⟩, hNC, hO⟩ := hB
  have hl : lv_has ls 4 [(0, .ref (q 0)), (1, .int a), (2, .ref ob)] := hl
  have Fx : CallFix pg m cd cL_coins 4 s _ wsL_coins RL := Fx
  have hx := Fx.1
  have hb := Fx.2.1
  have hP : va_P D vwCl (w0 ci cz q F P g) s.heap := hP
  refine lv_aload_n hx hb dL_coins_0 rfl (lv_at hl 2 rfl) ?_
  refine lv_iconst (v := nI 0) hx hb dL_coins_1 (by decide) ?_
  refine lv_aload_n hx hb dL_coins_2 rfl (lv_at hl 0 rfl) ?_
  refine lv_iload_n hx hb dL_coins_3 rfl (lv_at hl 1 rfl) ?_
  refine r_callT (A0 := aw (qo q ob) 9) (H0 := s.heap) (rest := [.int (nI 0), .ref ob]) Fx (m_X0_coins l hl0 (D := D) (ci := ci) (cz := cz) (cj := cj) (q := q) (F := F) (P := P) (g := g) (qo_q hq9) hF hP12 a) (cwV 1 Fx.2.2.2.2 gL_coins_X0_coins rfl rfl rfl (by decide +kernel) ⟨Nat.le_of_ble_eq_true rfl, Nat.le_of_ble_eq_true rfl⟩) BW.bl (va_recv hK hP (ci := 0) (q0 := 0) rfl rfl) (BW.at hP hK hE va_S.rf) rfl hl.1 rfl (Nat.le_of_ble_eq_true rfl) dL_coins_4 ⟨Nat.le_of_ble_eq_true rfl, Nat.le_of_ble_eq_true rfl⟩ va_S.rf (fun _ h => aw_o h) (fun H locs hk0 hP hS hkp => ?_) (fun j E ce q9 H locs hj hxs hh hS hce hcv hcl => ?_)
  · have hO : va_P D vwCl (wo cj ob f0) H := P_stay hO hkp (wo_n hq9)
    refine lv_i2l hx hb dL_coins_7 rfl ?_
    refine r_last Fx hK rfl hP hO hq9 hS dL_coins_8 (fun H locs f1 hP hO hf1 hS => ?_)
    refine lv_goto (tgt := 15) hx hb dL_coins_9 (by decide) ?_
    refine lv_iconst (v := nI 0) hx hb dL_coins_15 (by decide) ?_
    exact l_iret hx hb hr hlocks hS ⟨hP, f1, hO, fun _ => hf1⟩ (congrArg nI hk0.symm) (Nat.le_refl _) (Nat.le_refl _) dL_coins_16
  · have hP : va_P D vwCl (w0 ci cz q F P g) H := P_all hP hh
    have hO : va_P D vwCl (wo cj ob f0) H := P_all hO hh
    rcases j with _ | j
    · obtain rfl : xIO = E := Option.some.inj hxs
      refine l_catch (xs := [xIO]) 0 Fx hE hNC htab rfl rfl rfl (by decide +kernel) (by decide +kernel) (by decide +kernel) (by decide) hce hcv hcl ?_
      refine lv_astore_n (lv' := [(3, .ref q9), (0, .ref (q 0)), (1, .int a), (2, .ref ob)]) hx hb dL_coins_12 rfl hl (by decide) rfl (fun ls hl => ?_)
      refine lv_iconst (v := nI 1) hx hb dL_coins_13 (by decide) ?_
      exact l_iret hx hb hr hlocks hS ⟨hP, f0, hO, fun e => absurd (hj.symm.trans e) (by decide)⟩ (congrArg nI hj.symm) (Nat.le_refl _) (Nat.le_refl _) dL_coins_14
    · simp at hxs
theorem m_L_earned (l : Launch) (hl0 : l.stackTraces = false) {D : va_G} {ci cz cj : ClassId} {q : Nat → Nat} {F P : Nat} {g : Nat → Nat → Int32} {ob : Nat} {f0 : Nat → Int64} (hq9 : DQ (qo q ob) 9) (hF : F ≤ 6) (hP12 : P ≤ 12) (a : Int32): Met l yL_earned wsL_earned ({ frames := 8, cells := 1, slots := 6, locals := 124 } : Room) (va_Pc [.ref (q 0), .int a, .ref ob] (BL D ci cz cj q F P g ob f0)) (WQ (some (.int (nI (k_1 P a)))) (LQ D cj ob (w0 ci cz q F P g) (k_1 P a) ((g 5 (ix a)).toInt64)) (aw (qo q ob) 9)) 1 6 (aw (qo q ob) 9) := by
  refine Met.ofL (cc := cL_earned) (maxL := 4) (ret := (some .int)) (hh := [(0, 9, 12, 24)]) (by decide) rfl (Nat.le_of_ble_eq_true rfl) ?_
  intro pg en s m bl mt cd ls Fx hr hlocks htab hB hl
  obtain ⟨⟨hP, hK, hE⟩, hNC, hO⟩ := hB
  have hl : lv_has ls 4 [(0, .ref (q 0)), (1, .int a), (2, .ref ob)] := hl
  have Fx : CallFix pg m cd cL_earned 4 s _ wsL_earned RL := Fx
  have hx := Fx.1
  have hb := Fx.2.1
  have hP : va_P D vwCl (w0 ci cz q F P g) s.heap := hP
  refine lv_aload_n hx hb dL_earned_0 rfl (lv_at hl 2 rfl) ?_
  refine lv_iconst (v := nI 0) hx hb dL_earned_1 (by decide) ?_
  refine lv_aload_n hx hb dL_earned_2 rfl (lv_at hl 0 rfl) ?_
  refine lv_iload_n hx hb dL_earned_3 rfl (lv_at hl 1 rfl) ?_
  refine r_callT (A0 := aw (qo q ob) 9) (H0 := s.heap) (rest := [.int (nI 0), .ref ob]) Fx (m_X0_earned l hl0 (D := D) (ci := ci) (cz := cz) (cj := cj) (q := q) (F := F) (P := P) (g := g) (qo_q hq9) hF hP12 a) (cwV 1 Fx.2.2.2.2 gL_earned_X0_earned rfl rfl rfl (by decide +kernel) ⟨Nat.le_of_ble_eq_true rfl, Nat.le_of_ble_eq_true rfl⟩) BW.bl (va_recv hK hP (ci := 0) (q0 := 0) rfl rfl) (BW.at hP hK hE va_S.rf) rfl hl.1 rfl (Nat.le_of_ble_eq_true rfl) dL_earned_4 ⟨Nat.le_of_ble_eq_true rfl, Nat.le_of_ble_eq_true rfl⟩ va_S.rf (fun _ h => aw_o h) (fun H locs hk0 hP hS hkp => ?_) (fun j E ce q9 H locs hj hxs hh hS hce hcv hcl => ?_)
  · have hO : va_P D vwCl (wo cj ob f0) H := P_stay hO hkp (wo_n hq9)
    refine lv_i2l hx hb dL_earned_7 rfl ?_
    refine r_last Fx hK rfl hP hO hq9 hS dL_earned_8 (fun H locs f1 hP hO hf1 hS => ?_)
    refine lv_goto (tgt := 15) hx hb dL_earned_9 (by decide) ?_
    refine lv_iconst (v := nI 0) hx hb dL_earned_15 (by decide) ?_
    exact l_iret hx hb hr hlocks hS ⟨hP, f1, hO, fun _ => hf1⟩ (congrArg nI hk0.symm) (Nat.le_refl _) (Nat.le_refl _) dL_earned_16
  · have hP : va_P D vwCl (w0 ci cz q F P g) H := P_all hP hh
    have hO : va_P D vwCl (wo cj ob f0) H := P_all hO hh
    rcases j with _ | j
    · obtain rfl : xIO = E := Option.some.inj hxs
      refine l_catch (xs := [xIO]) 0 Fx hE hNC htab rfl rfl rfl (by decide +kernel) (by decide +kernel) (by decide +kernel) (by decide) hce hcv hcl ?_
      refine lv_astore_n (lv' := [(3, .ref q9), (0, .ref (q 0)), (1, .int a), (2, .ref ob)]) hx hb dL_earned_12 rfl hl (by decide) rfl (fun ls hl => ?_)
      refine lv_iconst (v := nI 1) hx hb dL_earned_13 (by decide) ?_
      exact l_iret hx hb hr hlocks hS ⟨hP, f0, hO, fun e => absurd (hj.symm.trans e) (by decide)⟩ (congrArg nI hj.symm) (Nat.le_refl _) (Nat.le_refl _) dL_earned_14
    · simp at hxs
theorem m_L_allShares (l : Launch) (hl0 : l.stackTraces = false) {D : va_G} {ci cz cj : ClassId} {q : Nat → Nat} {F P : Nat} {g : Nat → Nat → Int32} {ob : Nat} {f0 : Nat → Int64} (hq9 : DQ (qo q ob) 9) (hF : F ≤ 6) (hP12 : P ≤ 12) (a : Int32): Met l yL_allShares wsL_allShares ({ frames := 8, cells := 1, slots := 6, locals := 124 } : Room) (va_Pc [.ref (q 0), .int a, .ref ob] (BL D ci cz cj q F P g ob f0)) (WQ (some (.int (nI (k_1 P a)))) (LQ D cj ob (w0 ci cz q F P g) (k_1 P a) ((sAll g F (ix a)).toInt64)) (aw (qo q ob) 9)) 1 6 (aw (qo q ob) 9) := by
  refine Met.ofL (cc := cL_allShares) (maxL := 4) (ret := (some .int)) (hh := [(0, 9, 12, 24)]) (by decide) rfl (Nat.le_of_ble_eq_true rfl) ?_
  intro pg en s m bl mt cd ls Fx hr hlocks htab hB hl
  obtain ⟨⟨hP, hK, hE⟩, hNC, hO⟩ := hB
  have hl : lv_has ls 4 [(0, .ref (q 0)), (1, .int a), (2, .ref ob)] := hl
  have Fx : CallFix pg m cd cL_allShares 4 s _ wsL_allShares RL := Fx
  have hx := Fx.1
  have hb := Fx.2.1
  have hP : va_P D vwCl (w0 ci cz q F P g) s.heap := hP
  refine lv_aload_n hx hb dL_allShares_0 rfl (lv_at hl 2 rfl) ?_
  refine lv_iconst (v := nI 0) hx hb dL_allShares_1 (by decide) ?_
  refine lv_aload_n hx hb dL_allShares_2 rfl (lv_at hl 0 rfl) ?_
  refine lv_iload_n hx hb dL_allShares_3 rfl (lv_at hl 1 rfl) ?_
  refine r_callT (A0 := aw (qo q ob) 9) (H0 := s.heap) (rest := [.int (nI 0), .ref ob]) Fx (m_X0_allShares l hl0 (D := D) (ci := ci) (cz := cz) (cj := cj) (q := q) (F := F) (P := P) (g := g) (qo_q hq9) hF hP12 a) (cwV 1 Fx.2.2.2.2 gL_allShares_X0_allShares rfl rfl rfl (by decide +kernel) ⟨Nat.le_of_ble_eq_true rfl, Nat.le_of_ble_eq_true rfl⟩) BW.bl (va_recv hK hP (ci := 0) (q0 := 0) rfl rfl) (BW.at hP hK hE va_S.rf) rfl hl.1 rfl (Nat.le_of_ble_eq_true rfl) dL_allShares_4 ⟨Nat.le_of_ble_eq_true rfl, Nat.le_of_ble_eq_true rfl⟩ va_S.rf (fun _ h => aw_o h) (fun H locs hk0 hP hS hkp => ?_) (fun j E ce q9 H locs hj hxs hh hS hce hcv hcl => ?_)
  · have hO : va_P D vwCl (wo cj ob f0) H := P_stay hO hkp (wo_n hq9)
    refine lv_i2l hx hb dL_allShares_7 rfl ?_
    refine r_last Fx hK rfl hP hO hq9 hS dL_allShares_8 (fun H locs f1 hP hO hf1 hS => ?_)
    refine lv_goto (tgt := 15) hx hb dL_allShares_9 (by decide) ?_
    refine lv_iconst (v := nI 0) hx hb dL_allShares_15 (by decide) ?_
    exact l_iret hx hb hr hlocks hS ⟨hP, f1, hO, fun _ => hf1⟩ (congrArg nI hk0.symm) (Nat.le_refl _) (Nat.le_refl _) dL_allShares_16
  · have hP : va_P D vwCl (w0 ci cz q F P g) H := P_all hP hh
    have hO : va_P D vwCl (wo cj ob f0) H := P_all hO hh
    rcases j with _ | j
    · obtain rfl : xIO = E := Option.some.inj hxs
      refine l_catch (xs := [xIO]) 0 Fx hE hNC htab rfl rfl rfl (by decide +kernel) (by decide +kernel) (by decide +kernel) (by decide) hce hcv hcl ?_
      refine lv_astore_n (lv' := [(3, .ref q9), (0, .ref (q 0)), (1, .int a), (2, .ref ob)]) hx hb dL_allShares_12 rfl hl (by decide) rfl (fun ls hl => ?_)
      refine lv_iconst (v := nI 1) hx hb dL_allShares_13 (by decide) ?_
      exact l_iret hx hb hr hlocks hS ⟨hP, f0, hO, fun e => absurd (hj.symm.trans e) (by decide)⟩ (congrArg nI hj.symm) (Nat.le_refl _) (Nat.le_refl _) dL_allShares_14
    · simp at hxs
theorem m_L_hasParent (l : Launch) (hl0 : l.stackTraces = false) {D : va_G} {ci cz cj : ClassId} {q : Nat → Nat} {F P : Nat} {g : Nat → Nat → Int32} {ob : Nat} {f0 : Nat → Int64} (hq9 : DQ (qo q ob) 9) (hF : F ≤ 6) (hP12 : P ≤ 12) (a : Int32): Met l yL_hasParent wsL_hasParent ({ frames := 8, cells := 1, slots := 6, locals := 124 } : Room) (va_Pc [.ref (q 0), .int a, .ref ob] (BL D ci cz cj q F P g ob f0)) (WQ (some (.int (nI (k_1 P a)))) (LQ D cj ob (w0 ci cz q F P g) (k_1 P a) (bL (decide (g 6 (ix a) ≠ -1)))) (aw (qo q ob) 9)) 1 6 (aw (qo q ob) 9) := by
  refine Met.ofL (cc := cL_hasParent) (maxL := 4) (ret := (some .int)) (hh := [(0, 16, 19, 24)]) (by decide) rfl (Nat.le_of_ble_eq_true rfl) ?_
  intro pg en s m bl mt cd ls Fx hr hlocks htab hB hl
  obtain ⟨⟨hP, hK, hE⟩, hNC, hO⟩ := hB
  have hl : lv_has ls 4 [(0, .ref (q 0)), (1, .int a), (2, .ref ob)] := hl
  have Fx : CallFix pg m cd cL_hasParent 4 s _ wsL_hasParent RL := Fx
  have hx := Fx.1
  have hb := Fx.2.1
  have hP : va_P D vwCl (w0 ci cz q F P g) s.heap := hP
  refine lv_aload_n hx hb dL_hasParent_0 rfl (lv_at hl 2 rfl) ?_
  refine lv_iconst (v := nI 0) hx hb dL_hasParent_1 (by decide) ?_
  refine lv_aload_n hx hb dL_hasParent_2 rfl (lv_at hl 0 rfl) ?_
  refine lv_iload_n hx hb dL_hasParent_3 rfl (lv_at hl 1 rfl) ?_
  refine r_callT (A0 := aw (qo q ob) 9) (H0 := s.heap) (rest := [.int (nI 0), .ref ob]) Fx (m_X0_hasParent l hl0 (D := D) (ci := ci) (cz := cz) (cj := cj) (q := q) (F := F) (P := P) (g := g) (qo_q hq9) hF hP12 a) (cwV 1 Fx.2.2.2.2 gL_hasParent_X0_hasParent rfl rfl rfl (by decide +kernel) ⟨Nat.le_of_ble_eq_true rfl, Nat.le_of_ble_eq_true rfl⟩) BW.bl (va_recv hK hP (ci := 0) (q0 := 0) rfl rfl) (BW.at hP hK hE va_S.rf) rfl hl.1 rfl (Nat.le_of_ble_eq_true rfl) dL_hasParent_4 ⟨Nat.le_of_ble_eq_true rfl, Nat.le_of_ble_eq_true rfl⟩ va_S.rf (fun _ h => aw_o h) (fun H locs hk0 hP hS hkp => ?_) (fun j E ce q9 H locs hj hxs hh hS hce hcv hcl => ?_)
  · have hO : va_P D vwCl (wo cj ob f0) H := P_stay hO hkp (wo_n hq9)
    refine b_if_eq (tgt := 14) hx hb dL_hasParent_7 (by decide) (fun hb9 => ?_) (fun hb9 => ?_)
    · refine lv_lconst (v := 0) hx hb dL_hasParent_14 rfl ?_
      refine r_last Fx hK rfl hP hO hq9 hS dL_hasParent_15 (fun H locs f1 hP hO hf1 hS => ?_)
      refine lv_goto (tgt := 22) hx hb dL_hasParent_16 (by decide) ?_
      refine lv_iconst (v := nI 0) hx hb dL_hasParent_22 (by decide) ?_
      exact l_iret hx hb hr hlocks hS ⟨hP, f1, hO, fun _ => hf1.trans (by rw [hb9]; rfl)⟩ (congrArg nI hk0.symm) (Nat.le_refl _) (Nat.le_refl _) dL_hasParent_23
    · refine lv_lconst (v := 1) hx hb dL_hasParent_10 rfl ?_
      refine lv_goto (tgt := 15) hx hb dL_hasParent_11 (by decide) ?_
      refine r_last Fx hK rfl hP hO hq9 hS dL_hasParent_15 (fun H locs f1 hP hO hf1 hS => ?_)
      refine lv_goto (tgt := 22) hx hb dL_hasParent_16 (by decide) ?_
      refine lv_iconst (v := nI 0) hx hb dL_hasParent_22 (by decide) ?_
      exact l_iret hx hb hr hlocks hS ⟨hP, f1, hO, fun _ => hf1.trans (by rw [hb9]; rfl)⟩ (congrArg nI hk0.symm) (Nat.le_refl _) (Nat.le_refl _) dL_hasParent_23
  · have hP : va_P D vwCl (w0 ci cz q F P g) H := P_all hP hh
    have hO : va_P D vwCl (wo cj ob f0) H := P_all hO hh
    rcases j with _ | j
    · obtain rfl : xIO = E := Option.some.inj hxs
      refine l_catch (xs := [xIO]) 0 Fx hE hNC htab rfl rfl rfl (by decide +kernel) (by decide +kernel) (by decide +kernel) (by decide) hce hcv hcl ?_
      refine lv_astore_n (lv' := [(3, .ref q9), (0, .ref (q 0)), (1, .int a), (2, .ref ob)]) hx hb dL_hasParent_19 rfl hl (by decide) rfl (fun ls hl => ?_)
      refine lv_iconst (v := nI 1) hx hb dL_hasParent_20 (by decide) ?_
      exact l_iret hx hb hr hlocks hS ⟨hP, f0, hO, fun e => absurd (hj.symm.trans e) (by decide)⟩ (congrArg nI hj.symm) (Nat.le_refl _) (Nat.le_refl _) dL_hasParent_21
    · simp at hxs
theorem m_L_parent (l : Launch) (hl0 : l.stackTraces = false) {D : va_G} {ci cz cj : ClassId} {q : Nat → Nat} {F P : Nat} {g : Nat → Nat → Int32} {ob : Nat} {f0 : Nat → Int64} (hq9 : DQ (qo q ob) 9) (hF : F ≤ 6) (hP12 : P ≤ 12) (a : Int32): Met l yL_parent wsL_parent ({ frames := 8, cells := 1, slots := 6, locals := 124 } : Room) (va_Pc [.ref (q 0), .int a, .ref ob] (BL D ci cz cj q F P g ob f0)) (WQ (some (.int (nI (k_parent P g a)))) (LQ D cj ob (w0 ci cz q F P g) (k_parent P g a) ((g 6 (ix a)).toInt64)) (aw (qo q ob) 9)) 1 6 (aw (qo q ob) 9) := by
  refine Met.ofL (cc := cL_parent) (maxL := 4) (ret := (some .int)) (hh := [(0, 9, 12, 24), (0, 9, 15, 15)]) (by decide) rfl (Nat.le_of_ble_eq_true rfl) ?_
  intro pg en s m bl mt cd ls Fx hr hlocks htab hB hl
  obtain ⟨⟨hP, hK, hE⟩, hNC, hO⟩ := hB
  have hl : lv_has ls 4 [(0, .ref (q 0)), (1, .int a), (2, .ref ob)] := hl
  have Fx : CallFix pg m cd cL_parent 4 s _ wsL_parent RL := Fx
  have hx := Fx.1
  have hb := Fx.2.1
  have hP : va_P D vwCl (w0 ci cz q F P g) s.heap := hP
  refine lv_aload_n hx hb dL_parent_0 rfl (lv_at hl 2 rfl) ?_
  refine lv_iconst (v := nI 0) hx hb dL_parent_1 (by decide) ?_
  refine lv_aload_n hx hb dL_parent_2 rfl (lv_at hl 0 rfl) ?_
  refine lv_iload_n hx hb dL_parent_3 rfl (lv_at hl 1 rfl) ?_
  refine r_callT (A0 := aw (qo q ob) 9) (H0 := s.heap) (rest := [.int (nI 0), .ref ob]) Fx (m_X0_parent l hl0 (D := D) (ci := ci) (cz := cz) (cj := cj) (q := q) (F := F) (P := P) (g := g) (qo_q hq9) hF hP12 a) (cwV 1 Fx.2.2.2.2 gL_parent_X0_parent rfl rfl rfl (by decide +kernel) ⟨Nat.le_of_ble_eq_true rfl, Nat.le_of_ble_eq_true rfl⟩) BW.bl (va_recv hK hP (ci := 0) (q0 := 0) rfl rfl) (BW.at hP hK hE va_S.rf) rfl hl.1 rfl (Nat.le_of_ble_eq_true rfl) dL_parent_4 ⟨Nat.le_of_ble_eq_true rfl, Nat.le_of_ble_eq_true rfl⟩ va_S.rf (fun _ h => aw_o h) (fun H locs hk0 hP hS hkp => ?_) (fun j E ce q9 H locs hj hxs hh hS hce hcv hcl => ?_)
  · have hO : va_P D vwCl (wo cj ob f0) H := P_stay hO hkp (wo_n hq9)
    refine lv_i2l hx hb dL_parent_7 rfl ?_
    refine r_last Fx hK rfl hP hO hq9 hS dL_parent_8 (fun H locs f1 hP hO hf1 hS => ?_)
    refine lv_goto (tgt := 18) hx hb dL_parent_9 (by decide) ?_
    refine lv_iconst (v := nI 0) hx hb dL_parent_18 (by decide) ?_
    exact l_iret hx hb hr hlocks hS ⟨hP, f1, hO, fun _ => hf1⟩ (congrArg nI hk0.symm) (Nat.le_refl _) (Nat.le_refl _) dL_parent_19
  · have hP : va_P D vwCl (w0 ci cz q F P g) H := P_all hP hh
    have hO : va_P D vwCl (wo cj ob f0) H := P_all hO hh
    rcases j with _ | _ | j
    · obtain rfl : xIO = E := Option.some.inj hxs
      refine l_catch (xs := [xIO, xIS]) 0 Fx hE hNC htab rfl rfl rfl (by decide +kernel) (by decide +kernel) (by decide +kernel) (by decide) hce hcv hcl ?_
      refine lv_astore_n (lv' := [(3, .ref q9), (0, .ref (q 0)), (1, .int a), (2, .ref ob)]) hx hb dL_parent_12 rfl hl (by decide) rfl (fun ls hl => ?_)
      refine lv_iconst (v := nI 1) hx hb dL_parent_13 (by decide) ?_
      exact l_iret hx hb hr hlocks hS ⟨hP, f0, hO, fun e => absurd (hj.symm.trans e) (by decide)⟩ (congrArg nI hj.symm) (Nat.le_refl _) (Nat.le_refl _) dL_parent_14
    · obtain rfl : xIS = E := Option.some.inj hxs
      refine l_catch (xs := [xIO, xIS]) 1 Fx hE hNC htab rfl rfl rfl (by decide +kernel) (by decide +kernel) (by decide +kernel) (by decide) hce hcv hcl ?_
      refine lv_astore_n (lv' := [(3, .ref q9), (0, .ref (q 0)), (1, .int a), (2, .ref ob)]) hx hb dL_parent_15 rfl hl (by decide) rfl (fun ls hl => ?_)
      refine lv_iconst (v := nI 2) hx hb dL_parent_16 (by decide) ?_
      exact l_iret hx hb hr hlocks hS ⟨hP, f0, hO, fun e => absurd (hj.symm.trans e) (by decide)⟩ (congrArg nI hj.symm) (Nat.le_refl _) (Nat.le_refl _) dL_parent_17
    · simp at hxs
theorem m_L_children (l : Launch) (hl0 : l.stackTraces = false) {D : va_G} {ci cz cj : ClassId} {q : Nat → Nat} {F P : Nat} {g : Nat → Nat → Int32} {ob : Nat} {f0 : Nat → Int64} (hq9 : DQ (qo q ob) 9) (hF : F ≤ 6) (hP12 : P ≤ 12) (a : Int32): Met l yL_children wsL_children ({ frames := 8, cells := 1, slots := 6, locals := 124 } : Room) (va_Pc [.ref (q 0), .int a, .ref ob] (BL D ci cz cj q F P g ob f0)) (WQ (some (.int (nI (k_1 P a)))) (LQ D cj ob (w0 ci cz q F P g) (k_1 P a) ((nI (sChi g P (ix a))).toInt64)) (aw (qo q ob) 9)) 1 6 (aw (qo q ob) 9) := by
  refine Met.ofL (cc := cL_children) (maxL := 4) (ret := (some .int)) (hh := [(0, 9, 12, 24)]) (by decide) rfl (Nat.le_of_ble_eq_true rfl) ?_
  intro pg en s m bl mt cd ls Fx hr hlocks htab hB hl
  obtain ⟨⟨hP, hK, hE⟩, hNC, hO⟩ := hB
  have hl : lv_has ls 4 [(0, .ref (q 0)), (1, .int a), (2, .ref ob)] := hl
  have Fx : CallFix pg m cd cL_children 4 s _ wsL_children RL := Fx
  have hx := Fx.1
  have hb := Fx.2.1
  have hP : va_P D vwCl (w0 ci cz q F P g) s.heap := hP
  refine lv_aload_n hx hb dL_children_0 rfl (lv_at hl 2 rfl) ?_
  refine lv_iconst (v := nI 0) hx hb dL_children_1 (by decide) ?_
  refine lv_aload_n hx hb dL_children_2 rfl (lv_at hl 0 rfl) ?_
  refine lv_iload_n hx hb dL_children_3 rfl (lv_at hl 1 rfl) ?_
  refine r_callT (A0 := aw (qo q ob) 9) (H0 := s.heap) (rest := [.int (nI 0), .ref ob]) Fx (m_X0_children l hl0 (D := D) (ci := ci) (cz := cz) (cj := cj) (q := q) (F := F) (P := P) (g := g) (qo_q hq9) hF hP12 a) (cwV 1 Fx.2.2.2.2 gL_children_X0_children rfl rfl rfl (by decide +kernel) ⟨Nat.le_of_ble_eq_true rfl, Nat.le_of_ble_eq_true rfl⟩) BW.bl (va_recv hK hP (ci := 0) (q0 := 0) rfl rfl) (BW.at hP hK hE va_S.rf) rfl hl.1 rfl (Nat.le_of_ble_eq_true rfl) dL_children_4 ⟨Nat.le_of_ble_eq_true rfl, Nat.le_of_ble_eq_true rfl⟩ va_S.rf (fun _ h => aw_o h) (fun H locs hk0 hP hS hkp => ?_) (fun j E ce q9 H locs hj hxs hh hS hce hcv hcl => ?_)
  · have hO : va_P D vwCl (wo cj ob f0) H := P_stay hO hkp (wo_n hq9)
    refine lv_i2l hx hb dL_children_7 rfl ?_
    refine r_last Fx hK rfl hP hO hq9 hS dL_children_8 (fun H locs f1 hP hO hf1 hS => ?_)
    refine lv_goto (tgt := 15) hx hb dL_children_9 (by decide) ?_
    refine lv_iconst (v := nI 0) hx hb dL_children_15 (by decide) ?_
    exact l_iret hx hb hr hlocks hS ⟨hP, f1, hO, fun _ => hf1⟩ (congrArg nI hk0.symm) (Nat.le_refl _) (Nat.le_refl _) dL_children_16
  · have hP : va_P D vwCl (w0 ci cz q F P g) H := P_all hP hh
    have hO : va_P D vwCl (wo cj ob f0) H := P_all hO hh
    rcases j with _ | j
    · obtain rfl : xIO = E := Option.some.inj hxs
      refine l_catch (xs := [xIO]) 0 Fx hE hNC htab rfl rfl rfl (by decide +kernel) (by decide +kernel) (by decide +kernel) (by decide) hce hcv hcl ?_
      refine lv_astore_n (lv' := [(3, .ref q9), (0, .ref (q 0)), (1, .int a), (2, .ref ob)]) hx hb dL_children_12 rfl hl (by decide) rfl (fun ls hl => ?_)
      refine lv_iconst (v := nI 1) hx hb dL_children_13 (by decide) ?_
      exact l_iret hx hb hr hlocks hS ⟨hP, f0, hO, fun e => absurd (hj.symm.trans e) (by decide)⟩ (congrArg nI hj.symm) (Nat.le_refl _) (Nat.le_refl _) dL_children_14
    · simp at hxs
theorem m_L_heirs (l : Launch) (hl0 : l.stackTraces = false) {D : va_G} {ci cz cj : ClassId} {q : Nat → Nat} {F P : Nat} {g : Nat → Nat → Int32} {ob : Nat} {f0 : Nat → Int64} (hq9 : DQ (qo q ob) 9) (hF : F ≤ 6) (hP12 : P ≤ 12) (a : Int32): Met l yL_heirs wsL_heirs ({ frames := 8, cells := 1, slots := 6, locals := 124 } : Room) (va_Pc [.ref (q 0), .int a, .ref ob] (BL D ci cz cj q F P g ob f0)) (WQ (some (.int (nI (k_1 P a)))) (LQ D cj ob (w0 ci cz q F P g) (k_1 P a) ((nI (sCHe g P (ix a))).toInt64)) (aw (qo q ob) 9)) 1 6 (aw (qo q ob) 9) := by
  refine Met.ofL (cc := cL_heirs) (maxL := 4) (ret := (some .int)) (hh := [(0, 9, 12, 24)]) (by decide) rfl (Nat.le_of_ble_eq_true rfl) ?_
  intro pg en s m bl mt cd ls Fx hr hlocks htab hB hl
  obtain ⟨⟨hP, hK, hE⟩, hNC, hO⟩ := hB
  have hl : lv_has ls 4 [(0, .ref (q 0)), (1, .int a), (2, .ref ob)] := hl
  have Fx : CallFix pg m cd cL_heirs 4 s _ wsL_heirs RL := Fx
  have hx := Fx.1
  have hb := Fx.2.1
  have hP : va_P D vwCl (w0 ci cz q F P g) s.heap := hP
  refine lv_aload_n hx hb dL_heirs_0 rfl (lv_at hl 2 rfl) ?_
  refine lv_iconst (v := nI 0) hx hb dL_heirs_1 (by decide) ?_
  refine lv_aload_n hx hb dL_heirs_2 rfl (lv_at hl 0 rfl) ?_
  refine lv_iload_n hx hb dL_heirs_3 rfl (lv_at hl 1 rfl) ?_
  refine r_callT (A0 := aw (qo q ob) 9) (H0 := s.heap) (rest := [.int (nI 0), .ref ob]) Fx (m_X0_heirs l hl0 (D := D) (ci := ci) (cz := cz) (cj := cj) (q := q) (F := F) (P := P) (g := g) (qo_q hq9) hF hP12 a) (cwV 1 Fx.2.2.2.2 gL_heirs_X0_heirs rfl rfl rfl (by decide +kernel) ⟨Nat.le_of_ble_eq_true rfl, Nat.le_of_ble_eq_true rfl⟩) BW.bl (va_recv hK hP (ci := 0) (q0 := 0) rfl rfl) (BW.at hP hK hE va_S.rf) rfl hl.1 rfl (Nat.le_of_ble_eq_true rfl) dL_heirs_4 ⟨Nat.le_of_ble_eq_true rfl, Nat.le_of_ble_eq_true rfl⟩ va_S.rf (fun _ h => aw_o h) (fun H locs hk0 hP hS hkp => ?_) (fun j E ce q9 H locs hj hxs hh hS hce hcv hcl => ?_)
  · have hO : va_P D vwCl (wo cj ob f0) H := P_stay hO hkp (wo_n hq9)
    refine lv_i2l hx hb dL_heirs_7 rfl ?_
    refine r_last Fx hK rfl hP hO hq9 hS dL_heirs_8 (fun H locs f1 hP hO hf1 hS => ?_)
    refine lv_goto (tgt := 15) hx hb dL_heirs_9 (by decide) ?_
    refine lv_iconst (v := nI 0) hx hb dL_heirs_15 (by decide) ?_
    exact l_iret hx hb hr hlocks hS ⟨hP, f1, hO, fun _ => hf1⟩ (congrArg nI hk0.symm) (Nat.le_refl _) (Nat.le_refl _) dL_heirs_16
  · have hP : va_P D vwCl (w0 ci cz q F P g) H := P_all hP hh
    have hO : va_P D vwCl (wo cj ob f0) H := P_all hO hh
    rcases j with _ | j
    · obtain rfl : xIO = E := Option.some.inj hxs
      refine l_catch (xs := [xIO]) 0 Fx hE hNC htab rfl rfl rfl (by decide +kernel) (by decide +kernel) (by decide +kernel) (by decide) hce hcv hcl ?_
      refine lv_astore_n (lv' := [(3, .ref q9), (0, .ref (q 0)), (1, .int a), (2, .ref ob)]) hx hb dL_heirs_12 rfl hl (by decide) rfl (fun ls hl => ?_)
      refine lv_iconst (v := nI 1) hx hb dL_heirs_13 (by decide) ?_
      exact l_iret hx hb hr hlocks hS ⟨hP, f0, hO, fun e => absurd (hj.symm.trans e) (by decide)⟩ (congrArg nI hj.symm) (Nat.le_refl _) (Nat.le_refl _) dL_heirs_14
    · simp at hxs
theorem m_L_heir (l : Launch) (hl0 : l.stackTraces = false) {D : va_G} {ci cz cj : ClassId} {q : Nat → Nat} {F P : Nat} {g : Nat → Nat → Int32} {ob : Nat} {f0 : Nat → Int64} (hq9 : DQ (qo q ob) 9) (hF : F ≤ 6) (hP12 : P ≤ 12) (a : Int32) (x : Int32): Met l yL_heir wsL_heir ({ frames := 8, cells := 1, slots := 6, locals := 126 } : Room) (va_Pc [.ref (q 0), .int a, .int x, .ref ob] (BL D ci cz cj q F P g ob f0)) (WQ (some (.int (nI (k_heir P g a x)))) (LQ D cj ob (w0 ci cz q F P g) (k_heir P g a x) ((sFH g P (ix a) x).toInt64)) (aw (qo q ob) 9)) 1 6 (aw (qo q ob) 9) := by
  refine Met.ofL (cc := cL_heir) (maxL := 5) (ret := (some .int)) (hh := [(0, 10, 13, 24)]) (by decide) rfl (Nat.le_of_ble_eq_true rfl) ?_
  intro pg en s m bl mt cd ls Fx hr hlocks htab hB hl
  obtain ⟨⟨hP, hK, hE⟩, hNC, hO⟩ := hB
  have hl : lv_has ls 5 [(0, .ref (q 0)), (1, .int a), (2, .int x), (3, .ref ob)] := hl
  have Fx : CallFix pg m cd cL_heir 5 s _ wsL_heir RL := Fx
  have hx := Fx.1
  have hb := Fx.2.1
  have hP : va_P D vwCl (w0 ci cz q F P g) s.heap := hP
  refine lv_aload_n hx hb dL_heir_0 rfl (lv_at hl 3 rfl) ?_
  refine lv_iconst (v := nI 0) hx hb dL_heir_1 (by decide) ?_
  refine lv_aload_n hx hb dL_heir_2 rfl (lv_at hl 0 rfl) ?_
  refine lv_iload_n hx hb dL_heir_3 rfl (lv_at hl 1 rfl) ?_
  refine lv_iload_n hx hb dL_heir_4 rfl (lv_at hl 2 rfl) ?_
  refine r_callT (A0 := aw (qo q ob) 9) (H0 := s.heap) (rest := [.int (nI 0), .ref ob]) Fx (m_X0_heir l hl0 (D := D) (ci := ci) (cz := cz) (cj := cj) (q := q) (F := F) (P := P) (g := g) (qo_q hq9) hF hP12 a x) (cwV 2 Fx.2.2.2.2 gL_heir_X0_heir rfl rfl rfl (by decide +kernel) ⟨Nat.le_of_ble_eq_true rfl, Nat.le_of_ble_eq_true rfl⟩) BW.bl (va_recv hK hP (ci := 0) (q0 := 0) rfl rfl) (BW.at hP hK hE va_S.rf) rfl hl.1 rfl (Nat.le_of_ble_eq_true rfl) dL_heir_5 ⟨Nat.le_of_ble_eq_true rfl, Nat.le_of_ble_eq_true rfl⟩ va_S.rf (fun _ h => aw_o h) (fun H locs hk0 hP hS hkp => ?_) (fun j E ce q9 H locs hj hxs hh hS hce hcv hcl => ?_)
  · have hO : va_P D vwCl (wo cj ob f0) H := P_stay hO hkp (wo_n hq9)
    refine lv_i2l hx hb dL_heir_8 rfl ?_
    refine r_last Fx hK rfl hP hO hq9 hS dL_heir_9 (fun H locs f1 hP hO hf1 hS => ?_)
    refine lv_goto (tgt := 17) hx hb dL_heir_10 (by decide) ?_
    refine lv_iconst (v := nI 0) hx hb dL_heir_17 (by decide) ?_
    exact l_iret hx hb hr hlocks hS ⟨hP, f1, hO, fun _ => hf1⟩ (congrArg nI hk0.symm) (Nat.le_refl _) (Nat.le_refl _) dL_heir_18
  · have hP : va_P D vwCl (w0 ci cz q F P g) H := P_all hP hh
    have hO : va_P D vwCl (wo cj ob f0) H := P_all hO hh
    rcases j with _ | j
    · obtain rfl : xIO = E := Option.some.inj hxs
      refine l_catch (xs := [xIO]) 0 Fx hE hNC htab rfl rfl rfl (by decide +kernel) (by decide +kernel) (by decide +kernel) (by decide) hce hcv hcl ?_
      refine lv_astore (lv' := [(4, .ref q9), (0, .ref (q 0)), (1, .int a), (2, .int x), (3, .ref ob)]) hx hb dL_heir_13 hl (by decide) rfl (fun ls hl => ?_)
      refine lv_iconst (v := nI 1) hx hb dL_heir_15 (by decide) ?_
      exact l_iret hx hb hr hlocks hS ⟨hP, f0, hO, fun e => absurd (hj.symm.trans e) (by decide)⟩ (congrArg nI hj.symm) (Nat.le_refl _) (Nat.le_refl _) dL_heir_16
    · simp at hxs
theorem m_L_price (l : Launch) (hl0 : l.stackTraces = false) {D : va_G} {ci cz cj : ClassId} {q : Nat → Nat} {F P : Nat} {g : Nat → Nat → Int32} {ob : Nat} {f0 : Nat → Int64} (hq9 : DQ (qo q ob) 9) (hF : F ≤ 6) (hP12 : P ≤ 12) (a : Int32) (f : Int32) (w : Int32): Met l yL_price wsL_price ({ frames := 8, cells := 1, slots := 6, locals := 126 } : Room) (va_Pc [.ref (q 0), .int a, .int f, .int w, .ref ob] (BL D ci cz cj q F P g ob f0)) (WQ (some (.int (nI (k_pfw F P a f w)))) (LQ D cj ob (w0 ci cz q F P g) (k_pfw F P a f w) ((sPri g (ix f) (ix w) (ix a)).toInt64)) (aw (qo q ob) 9)) 1 6 (aw (qo q ob) 9) := by
  refine Met.ofL (cc := cL_price) (maxL := 6) (ret := (some .int)) (hh := [(0, 12, 15, 24)]) (by decide) rfl (Nat.le_of_ble_eq_true rfl) ?_
  intro pg en s m bl mt cd ls Fx hr hlocks htab hB hl
  obtain ⟨⟨hP, hK, hE⟩, hNC, hO⟩ := hB
  have hl : lv_has ls 6 [(0, .ref (q 0)), (1, .int a), (2, .int f), (3, .int w), (4, .ref ob)] := hl
  have Fx : CallFix pg m cd cL_price 6 s _ wsL_price RL := Fx
  have hx := Fx.1
  have hb := Fx.2.1
  have hP : va_P D vwCl (w0 ci cz q F P g) s.heap := hP
  refine lv_aload hx hb dL_price_0 (lv_at hl 4 rfl) ?_
  refine lv_iconst (v := nI 0) hx hb dL_price_2 (by decide) ?_
  refine lv_aload_n hx hb dL_price_3 rfl (lv_at hl 0 rfl) ?_
  refine lv_iload_n hx hb dL_price_4 rfl (lv_at hl 1 rfl) ?_
  refine lv_iload_n hx hb dL_price_5 rfl (lv_at hl 2 rfl) ?_
  refine lv_iload_n hx hb dL_price_6 rfl (lv_at hl 3 rfl) ?_
  refine r_callT (A0 := aw (qo q ob) 9) (H0 := s.heap) (rest := [.int (nI 0), .ref ob]) Fx (m_X0_price l hl0 (D := D) (ci := ci) (cz := cz) (cj := cj) (q := q) (F := F) (P := P) (g := g) (qo_q hq9) hF hP12 a f w) (cwV 3 Fx.2.2.2.2 gL_price_X0_price rfl rfl rfl (by decide +kernel) ⟨Nat.le_of_ble_eq_true rfl, Nat.le_of_ble_eq_true rfl⟩) BW.bl (va_recv hK hP (ci := 0) (q0 := 0) rfl rfl) (BW.at hP hK hE va_S.rf) rfl hl.1 rfl (Nat.le_of_ble_eq_true rfl) dL_price_7 ⟨Nat.le_of_ble_eq_true rfl, Nat.le_of_ble_eq_true rfl⟩ va_S.rf (fun _ h => aw_o h) (fun H locs hk0 hP hS hkp => ?_) (fun j E ce q9 H locs hj hxs hh hS hce hcv hcl => ?_)
  · have hO : va_P D vwCl (wo cj ob f0) H := P_stay hO hkp (wo_n hq9)
    refine lv_i2l hx hb dL_price_10 rfl ?_
    refine r_last Fx hK rfl hP hO hq9 hS dL_price_11 (fun H locs f1 hP hO hf1 hS => ?_)
    refine lv_goto (tgt := 19) hx hb dL_price_12 (by decide) ?_
    refine lv_iconst (v := nI 0) hx hb dL_price_19 (by decide) ?_
    exact l_iret hx hb hr hlocks hS ⟨hP, f1, hO, fun _ => hf1⟩ (congrArg nI hk0.symm) (Nat.le_refl _) (Nat.le_refl _) dL_price_20
  · have hP : va_P D vwCl (w0 ci cz q F P g) H := P_all hP hh
    have hO : va_P D vwCl (wo cj ob f0) H := P_all hO hh
    rcases j with _ | j
    · obtain rfl : xIO = E := Option.some.inj hxs
      refine l_catch (xs := [xIO]) 0 Fx hE hNC htab rfl rfl rfl (by decide +kernel) (by decide +kernel) (by decide +kernel) (by decide) hce hcv hcl ?_
      refine lv_astore (lv' := [(5, .ref q9), (0, .ref (q 0)), (1, .int a), (2, .int f), (3, .int w), (4, .ref ob)]) hx hb dL_price_15 hl (by decide) rfl (fun ls hl => ?_)
      refine lv_iconst (v := nI 1) hx hb dL_price_17 (by decide) ?_
      exact l_iret hx hb hr hlocks hS ⟨hP, f0, hO, fun e => absurd (hj.symm.trans e) (by decide)⟩ (congrArg nI hj.symm) (Nat.le_refl _) (Nat.le_refl _) dL_price_18
    · simp at hxs
theorem m_L_canBuy (l : Launch) (hl0 : l.stackTraces = false) {D : va_G} {ci cz cj : ClassId} {q : Nat → Nat} {F P : Nat} {g : Nat → Nat → Int32} {ob : Nat} {f0 : Nat → Int64} (hq9 : DQ (qo q ob) 9) (hF : F ≤ 6) (hP12 : P ≤ 12) (a : Int32) (b : Int32) (f : Int32) (w : Int32): Met l yL_canBuy wsL_canBuy ({ frames := 9, cells := 1, slots := 6, locals := 151 } : Room) (va_Pc [.ref (q 0), .int a, .int b, .int f, .int w, .ref ob] (BL D ci cz cj q F P g ob f0)) (WQ (some (.int (nI (k_ppfw F P a b f w)))) (LQ D cj ob (w0 ci cz q F P g) (k_ppfw F P a b f w) (bL (sMay g P (ix a) (ix b) (ix f) (ix w)))) (aw (qo q ob) 9)) 1 6 (aw (qo q ob) 9) := by
  refine Met.ofL (cc := cL_canBuy) (maxL := 7) (ret := (some .int)) (hh := [(0, 21, 24, 24)]) (by decide) rfl (Nat.le_of_ble_eq_true rfl) ?_
  intro pg en s m bl mt cd ls Fx hr hlocks htab hB hl
  obtain ⟨⟨hP, hK, hE⟩, hNC, hO⟩ := hB
  have hl : lv_has ls 7 [(0, .ref (q 0)), (1, .int a), (2, .int b), (3, .int f), (4, .int w), (5, .ref ob)] := hl
  have Fx : CallFix pg m cd cL_canBuy 7 s _ wsL_canBuy RL := Fx
  have hx := Fx.1
  have hb := Fx.2.1
  have hP : va_P D vwCl (w0 ci cz q F P g) s.heap := hP
  refine lv_aload hx hb dL_canBuy_0 (lv_at hl 5 rfl) ?_
  refine lv_iconst (v := nI 0) hx hb dL_canBuy_2 (by decide) ?_
  refine lv_aload_n hx hb dL_canBuy_3 rfl (lv_at hl 0 rfl) ?_
  refine lv_iload_n hx hb dL_canBuy_4 rfl (lv_at hl 1 rfl) ?_
  refine lv_iload_n hx hb dL_canBuy_5 rfl (lv_at hl 2 rfl) ?_
  refine lv_iload_n hx hb dL_canBuy_6 rfl (lv_at hl 3 rfl) ?_
  refine lv_iload hx hb dL_canBuy_7 (lv_at hl 4 rfl) ?_
  refine r_callT (A0 := aw (qo q ob) 9) (H0 := s.heap) (rest := [.int (nI 0), .ref ob]) Fx (m_X0_canBuy l hl0 (D := D) (ci := ci) (cz := cz) (cj := cj) (q := q) (F := F) (P := P) (g := g) (qo_q hq9) hF hP12 a b f w) (cwV 4 Fx.2.2.2.2 gL_canBuy_X0_canBuy rfl rfl rfl (by decide +kernel) ⟨Nat.le_of_ble_eq_true rfl, Nat.le_of_ble_eq_true rfl⟩) BW.bl (va_recv hK hP (ci := 0) (q0 := 0) rfl rfl) (BW.at hP hK hE va_S.rf) rfl hl.1 rfl (Nat.le_of_ble_eq_true rfl) dL_canBuy_9 ⟨Nat.le_of_ble_eq_true rfl, Nat.le_of_ble_eq_true rfl⟩ va_S.rf (fun _ h => aw_o h) (fun H locs hk0 hP hS hkp => ?_) (fun j E ce q9 H locs hj hxs hh hS hce hcv hcl => ?_)
  · have hO : va_P D vwCl (wo cj ob f0) H := P_stay hO hkp (wo_n hq9)
    refine b_if_eq (tgt := 19) hx hb dL_canBuy_12 (by decide) (fun hb9 => ?_) (fun hb9 => ?_)
    · refine lv_lconst (v := 0) hx hb dL_canBuy_19 rfl ?_
      refine r_last Fx hK rfl hP hO hq9 hS dL_canBuy_20 (fun H locs f1 hP hO hf1 hS => ?_)
      refine lv_goto (tgt := 28) hx hb dL_canBuy_21 (by decide) ?_
      refine lv_iconst (v := nI 0) hx hb dL_canBuy_28 (by decide) ?_
      exact l_iret hx hb hr hlocks hS ⟨hP, f1, hO, fun _ => hf1.trans (by rw [hb9]; rfl)⟩ (congrArg nI hk0.symm) (Nat.le_refl _) (Nat.le_refl _) dL_canBuy_29
    · refine lv_lconst (v := 1) hx hb dL_canBuy_15 rfl ?_
      refine lv_goto (tgt := 20) hx hb dL_canBuy_16 (by decide) ?_
      refine r_last Fx hK rfl hP hO hq9 hS dL_canBuy_20 (fun H locs f1 hP hO hf1 hS => ?_)
      refine lv_goto (tgt := 28) hx hb dL_canBuy_21 (by decide) ?_
      refine lv_iconst (v := nI 0) hx hb dL_canBuy_28 (by decide) ?_
      exact l_iret hx hb hr hlocks hS ⟨hP, f1, hO, fun _ => hf1.trans (by rw [hb9]; rfl)⟩ (congrArg nI hk0.symm) (Nat.le_refl _) (Nat.le_refl _) dL_canBuy_29
  · have hP : va_P D vwCl (w0 ci cz q F P g) H := P_all hP hh
    have hO : va_P D vwCl (wo cj ob f0) H := P_all hO hh
    rcases j with _ | j
    · obtain rfl : xIO = E := Option.some.inj hxs
      refine l_catch (xs := [xIO]) 0 Fx hE hNC htab rfl rfl rfl (by decide +kernel) (by decide +kernel) (by decide +kernel) (by decide) hce hcv hcl ?_
      refine lv_astore (lv' := [(6, .ref q9), (0, .ref (q 0)), (1, .int a), (2, .int b), (3, .int f), (4, .int w), (5, .ref ob)]) hx hb dL_canBuy_24 hl (by decide) rfl (fun ls hl => ?_)
      refine lv_iconst (v := nI 1) hx hb dL_canBuy_26 (by decide) ?_
      exact l_iret hx hb hr hlocks hS ⟨hP, f0, hO, fun e => absurd (hj.symm.trans e) (by decide)⟩ (congrArg nI hj.symm) (Nat.le_refl _) (Nat.le_refl _) dL_canBuy_27
    · simp at hxs
theorem m_L_inheritance (l : Launch) (hl0 : l.stackTraces = false) {D : va_G} {ci cz cj : ClassId} {q : Nat → Nat} {F P : Nat} {g : Nat → Nat → Int32} {ob : Nat} {f0 : Nat → Int64} (hq9 : DQ (qo q ob) 9) (hF : F ≤ 6) (hP12 : P ≤ 12) (a : Int32) (b : Int32) (f : Int32) (w : Int32): Met l yL_inheritance wsL_inheritance ({ frames := 8, cells := 1, slots := 6, locals := 127 } : Room) (va_Pc [.ref (q 0), .int a, .int b, .int f, .int w, .ref ob] (BL D ci cz cj q F P g ob f0)) (WQ (some (.int (nI (k_ppfw F P a b f w)))) (LQ D cj ob (w0 ci cz q F P g) (k_ppfw F P a b f w) ((sInh g P (ix a) (ix b) (ix f) (ix w)).toInt64)) (aw (qo q ob) 9)) 1 6 (aw (qo q ob) 9) := by
  refine Met.ofL (cc := cL_inheritance) (maxL := 7) (ret := (some .int)) (hh := [(0, 14, 17, 24)]) (by decide) rfl (Nat.le_of_ble_eq_true rfl) ?_
  intro pg en s m bl mt cd ls Fx hr hlocks htab hB hl
  obtain ⟨⟨hP, hK, hE⟩, hNC, hO⟩ := hB
  have hl : lv_has ls 7 [(0, .ref (q 0)), (1, .int a), (2, .int b), (3, .int f), (4, .int w), (5, .ref ob)] := hl
  have Fx : CallFix pg m cd cL_inheritance 7 s _ wsL_inheritance RL := Fx
  have hx := Fx.1
  have hb := Fx.2.1
  have hP : va_P D vwCl (w0 ci cz q F P g) s.heap := hP
  refine lv_aload hx hb dL_inheritance_0 (lv_at hl 5 rfl) ?_
  refine lv_iconst (v := nI 0) hx hb dL_inheritance_2 (by decide) ?_
  refine lv_aload_n hx hb dL_inheritance_3 rfl (lv_at hl 0 rfl) ?_
  refine lv_iload_n hx hb dL_inheritance_4 rfl (lv_at hl 1 rfl) ?_
  refine lv_iload_n hx hb dL_inheritance_5 rfl (lv_at hl 2 rfl) ?_
  refine lv_iload_n hx hb dL_inheritance_6 rfl (lv_at hl 3 rfl) ?_
  refine lv_iload hx hb dL_inheritance_7 (lv_at hl 4 rfl) ?_
  refine r_callT (A0 := aw (qo q ob) 9) (H0 := s.heap) (rest := [.int (nI 0), .ref ob]) Fx (m_X0_inheritance l hl0 (D := D) (ci := ci) (cz := cz) (cj := cj) (q := q) (F := F) (P := P) (g := g) (qo_q hq9) hF hP12 a b f w) (cwV 4 Fx.2.2.2.2 gL_inheritance_X0_inheritance rfl rfl rfl (by decide +kernel) ⟨Nat.le_of_ble_eq_true rfl, Nat.le_of_ble_eq_true rfl⟩) BW.bl (va_recv hK hP (ci := 0) (q0 := 0) rfl rfl) (BW.at hP hK hE va_S.rf) rfl hl.1 rfl (Nat.le_of_ble_eq_true rfl) dL_inheritance_9 ⟨Nat.le_of_ble_eq_true rfl, Nat.le_of_ble_eq_true rfl⟩ va_S.rf (fun _ h => aw_o h) (fun H locs hk0 hP hS hkp => ?_) (fun j E ce q9 H locs hj hxs hh hS hce hcv hcl => ?_)
  · have hO : va_P D vwCl (wo cj ob f0) H := P_stay hO hkp (wo_n hq9)
    refine lv_i2l hx hb dL_inheritance_12 rfl ?_
    refine r_last Fx hK rfl hP hO hq9 hS dL_inheritance_13 (fun H locs f1 hP hO hf1 hS => ?_)
    refine lv_goto (tgt := 21) hx hb dL_inheritance_14 (by decide) ?_
    refine lv_iconst (v := nI 0) hx hb dL_inheritance_21 (by decide) ?_
    exact l_iret hx hb hr hlocks hS ⟨hP, f1, hO, fun _ => hf1⟩ (congrArg nI hk0.symm) (Nat.le_refl _) (Nat.le_refl _) dL_inheritance_22
  · have hP : va_P D vwCl (w0 ci cz q F P g) H := P_all hP hh
    have hO : va_P D vwCl (wo cj ob f0) H := P_all hO hh
    rcases j with _ | j
    · obtain rfl : xIO = E := Option.some.inj hxs
      refine l_catch (xs := [xIO]) 0 Fx hE hNC htab rfl rfl rfl (by decide +kernel) (by decide +kernel) (by decide +kernel) (by decide) hce hcv hcl ?_
      refine lv_astore (lv' := [(6, .ref q9), (0, .ref (q 0)), (1, .int a), (2, .int b), (3, .int f), (4, .int w), (5, .ref ob)]) hx hb dL_inheritance_17 hl (by decide) rfl (fun ls hl => ?_)
      refine lv_iconst (v := nI 1) hx hb dL_inheritance_19 (by decide) ?_
      exact l_iret hx hb hr hlocks hS ⟨hP, f0, hO, fun e => absurd (hj.symm.trans e) (by decide)⟩ (congrArg nI hj.symm) (Nat.le_refl _) (Nat.le_refl _) dL_inheritance_20
    · simp at hxs
theorem m_L_fare (l : Launch) (hl0 : l.stackTraces = false) {D : va_G} {ci cz cj : ClassId} {q : Nat → Nat} {F P : Nat} {g : Nat → Nat → Int32} {ob : Nat} {f0 : Nat → Int64} (hq9 : DQ (qo q ob) 9) (hF : F ≤ 6) (hP12 : P ≤ 12) (a : Int32) (f : Int32) (h : Int32) (x : Int32): Met l yL_fare wsL_fare ({ frames := 8, cells := 1, slots := 6, locals := 127 } : Room) (va_Pc [.ref (q 0), .int a, .int f, .int h, .int x, .ref ob] (BL D ci cz cj q F P g ob f0)) (WQ (some (.int (nI (k_fare F P a f h x)))) (LQ D cj ob (w0 ci cz q F P g) (k_fare F P a f h x) ((sFar g (ix f) (ix h / 6) (ix a) x).toInt64)) (aw (qo q ob) 9)) 1 6 (aw (qo q ob) 9) := by
  refine Met.ofL (cc := cL_fare) (maxL := 7) (ret := (some .int)) (hh := [(0, 14, 17, 24), (0, 14, 21, 13)]) (by decide) rfl (Nat.le_of_ble_eq_true rfl) ?_
  intro pg en s m bl mt cd ls Fx hr hlocks htab hB hl
  obtain ⟨⟨hP, hK, hE⟩, hNC, hO⟩ := hB
  have hl : lv_has ls 7 [(0, .ref (q 0)), (1, .int a), (2, .int f), (3, .int h), (4, .int x), (5, .ref ob)] := hl
  have Fx : CallFix pg m cd cL_fare 7 s _ wsL_fare RL := Fx
  have hx := Fx.1
  have hb := Fx.2.1
  have hP : va_P D vwCl (w0 ci cz q F P g) s.heap := hP
  refine lv_aload hx hb dL_fare_0 (lv_at hl 5 rfl) ?_
  refine lv_iconst (v := nI 0) hx hb dL_fare_2 (by decide) ?_
  refine lv_aload_n hx hb dL_fare_3 rfl (lv_at hl 0 rfl) ?_
  refine lv_iload_n hx hb dL_fare_4 rfl (lv_at hl 1 rfl) ?_
  refine lv_iload_n hx hb dL_fare_5 rfl (lv_at hl 2 rfl) ?_
  refine lv_iload_n hx hb dL_fare_6 rfl (lv_at hl 3 rfl) ?_
  refine lv_iload hx hb dL_fare_7 (lv_at hl 4 rfl) ?_
  refine r_callT (A0 := aw (qo q ob) 9) (H0 := s.heap) (rest := [.int (nI 0), .ref ob]) Fx (m_X0_fare l hl0 (D := D) (ci := ci) (cz := cz) (cj := cj) (q := q) (F := F) (P := P) (g := g) (qo_q hq9) hF hP12 a f h x) (cwV 4 Fx.2.2.2.2 gL_fare_X0_fare rfl rfl rfl (by decide +kernel) ⟨Nat.le_of_ble_eq_true rfl, Nat.le_of_ble_eq_true rfl⟩) BW.bl (va_recv hK hP (ci := 0) (q0 := 0) rfl rfl) (BW.at hP hK hE va_S.rf) rfl hl.1 rfl (Nat.le_of_ble_eq_true rfl) dL_fare_9 ⟨Nat.le_of_ble_eq_true rfl, Nat.le_of_ble_eq_true rfl⟩ va_S.rf (fun _ h => aw_o h) (fun H locs hk0 hP hS hkp => ?_) (fun j E ce q9 H locs hj hxs hh hS hce hcv hcl => ?_)
  · have hO : va_P D vwCl (wo cj ob f0) H := P_stay hO hkp (wo_n hq9)
    refine lv_i2l hx hb dL_fare_12 rfl ?_
    refine r_last Fx hK rfl hP hO hq9 hS dL_fare_13 (fun H locs f1 hP hO hf1 hS => ?_)
    refine lv_goto (tgt := 25) hx hb dL_fare_14 (by decide) ?_
    refine lv_iconst (v := nI 0) hx hb dL_fare_25 (by decide) ?_
    exact l_iret hx hb hr hlocks hS ⟨hP, f1, hO, fun _ => hf1⟩ (congrArg nI hk0.symm) (Nat.le_refl _) (Nat.le_refl _) dL_fare_26
  · have hP : va_P D vwCl (w0 ci cz q F P g) H := P_all hP hh
    have hO : va_P D vwCl (wo cj ob f0) H := P_all hO hh
    rcases j with _ | _ | j
    · obtain rfl : xIO = E := Option.some.inj hxs
      refine l_catch (xs := [xIO, xIA]) 0 Fx hE hNC htab rfl rfl rfl (by decide +kernel) (by decide +kernel) (by decide +kernel) (by decide) hce hcv hcl ?_
      refine lv_astore (lv' := [(6, .ref q9), (0, .ref (q 0)), (1, .int a), (2, .int f), (3, .int h), (4, .int x), (5, .ref ob)]) hx hb dL_fare_17 hl (by decide) rfl (fun ls hl => ?_)
      refine lv_iconst (v := nI 1) hx hb dL_fare_19 (by decide) ?_
      exact l_iret hx hb hr hlocks hS ⟨hP, f0, hO, fun e => absurd (hj.symm.trans e) (by decide)⟩ (congrArg nI hj.symm) (Nat.le_refl _) (Nat.le_refl _) dL_fare_20
    · obtain rfl : xIA = E := Option.some.inj hxs
      refine l_catch (xs := [xIO, xIA]) 1 Fx hE hNC htab rfl rfl rfl (by decide +kernel) (by decide +kernel) (by decide +kernel) (by decide) hce hcv hcl ?_
      refine lv_astore (lv' := [(6, .ref q9), (0, .ref (q 0)), (1, .int a), (2, .int f), (3, .int h), (4, .int x), (5, .ref ob)]) hx hb dL_fare_21 hl (by decide) rfl (fun ls hl => ?_)
      refine lv_iconst (v := nI 2) hx hb dL_fare_23 (by decide) ?_
      exact l_iret hx hb hr hlocks hS ⟨hP, f0, hO, fun e => absurd (hj.symm.trans e) (by decide)⟩ (congrArg nI hj.symm) (Nat.le_refl _) (Nat.le_refl _) dL_fare_24
    · simp at hxs
theorem m_L_richest (l : Launch) (hl0 : l.stackTraces = false) {D : va_G} {ci cz cj : ClassId} {q : Nat → Nat} {F P : Nat} {g : Nat → Nat → Int32} {ob : Nat} {f0 : Nat → Int64} (hq9 : DQ (qo q ob) 9) (hF : F ≤ 6) (hP12 : P ≤ 12) : Met l yL_richest wsL_richest ({ frames := 7, cells := 1, slots := 6, locals := 105 } : Room) (va_Pc [.ref (q 0), .ref ob] (BL D ci cz cj q F P g ob f0)) (WQ (some (.int (nI (k_richest P g)))) (LQ D cj ob (w0 ci cz q F P g) (k_richest P g) ((sRic g P).toInt64)) (aw (qo q ob) 9)) 1 6 (aw (qo q ob) 9) := by
  refine Met.ofL (cc := cL_richest) (maxL := 3) (ret := (some .int)) (hh := [(0, 8, 11, 15)]) (by decide) rfl (Nat.le_of_ble_eq_true rfl) ?_
  intro pg en s m bl mt cd ls Fx hr hlocks htab hB hl
  obtain ⟨⟨hP, hK, hE⟩, hNC, hO⟩ := hB
  have hl : lv_has ls 3 [(0, .ref (q 0)), (1, .ref ob)] := hl
  have Fx : CallFix pg m cd cL_richest 3 s _ wsL_richest RL := Fx
  have hx := Fx.1
  have hb := Fx.2.1
  have hP : va_P D vwCl (w0 ci cz q F P g) s.heap := hP
  refine lv_aload_n hx hb dL_richest_0 rfl (lv_at hl 1 rfl) ?_
  refine lv_iconst (v := nI 0) hx hb dL_richest_1 (by decide) ?_
  refine lv_aload_n hx hb dL_richest_2 rfl (lv_at hl 0 rfl) ?_
  refine r_callT (A0 := aw (qo q ob) 9) (H0 := s.heap) (rest := [.int (nI 0), .ref ob]) Fx (m_X0_richest l hl0 (D := D) (ci := ci) (cz := cz) (cj := cj) (q := q) (F := F) (P := P) (g := g) (qo_q hq9) hF hP12 ) (cwV 0 Fx.2.2.2.2 gL_richest_X0_richest rfl rfl rfl (by decide +kernel) ⟨Nat.le_of_ble_eq_true rfl, Nat.le_of_ble_eq_true rfl⟩) BW.bl (va_recv hK hP (ci := 0) (q0 := 0) rfl rfl) (BW.at hP hK hE va_S.rf) rfl hl.1 rfl (Nat.le_of_ble_eq_true rfl) dL_richest_3 ⟨Nat.le_of_ble_eq_true rfl, Nat.le_of_ble_eq_true rfl⟩ va_S.rf (fun _ h => aw_o h) (fun H locs hk0 hP hS hkp => ?_) (fun j E ce q9 H locs hj hxs hh hS hce hcv hcl => ?_)
  · have hO : va_P D vwCl (wo cj ob f0) H := P_stay hO hkp (wo_n hq9)
    refine lv_i2l hx hb dL_richest_6 rfl ?_
    refine r_last Fx hK rfl hP hO hq9 hS dL_richest_7 (fun H locs f1 hP hO hf1 hS => ?_)
    refine lv_goto (tgt := 14) hx hb dL_richest_8 (by decide) ?_
    refine lv_iconst (v := nI 0) hx hb dL_richest_14 (by decide) ?_
    exact l_iret hx hb hr hlocks hS ⟨hP, f1, hO, fun _ => hf1⟩ (congrArg nI hk0.symm) (Nat.le_refl _) (Nat.le_refl _) dL_richest_15
  · have hP : va_P D vwCl (w0 ci cz q F P g) H := P_all hP hh
    have hO : va_P D vwCl (wo cj ob f0) H := P_all hO hh
    rcases j with _ | j
    · obtain rfl : xIS = E := Option.some.inj hxs
      refine l_catch (xs := [xIS]) 0 Fx hE hNC htab rfl rfl rfl (by decide +kernel) (by decide +kernel) (by decide +kernel) (by decide) hce hcv hcl ?_
      refine lv_astore_n (lv' := [(2, .ref q9), (0, .ref (q 0)), (1, .ref ob)]) hx hb dL_richest_11 rfl hl (by decide) rfl (fun ls hl => ?_)
      refine lv_iconst (v := nI 1) hx hb dL_richest_12 (by decide) ?_
      exact l_iret hx hb hr hlocks hS ⟨hP, f0, hO, fun e => absurd (hj.symm.trans e) (by decide)⟩ (congrArg nI hj.symm) (Nat.le_refl _) (Nat.le_refl _) dL_richest_13
    · simp at hxs
end LII
