/-! PART 32: the catching methods of the law, I. -/
section LI
theorem m_L_addFerry (l : Launch) (hl0 : l.stackTraces = false) {D : va_G} {ci cz cj : ClassId} {q : Nat → Nat} {F P : Nat} {g : Nat → Nat → Int32} {ob : Nat} {f0 : Nat → Int64} (hq9 : DQ (qo q ob) 9) (hF : F ≤ 6) (hP12 : P ≤ 12) (a : Int32): Met l yL_addFerry wsL_addFerry ({ frames := 8, cells := 1, slots := 6, locals := 124 } : Room) (va_Pc [.ref (q 0), .int a, .ref ob] (BL D ci cz cj q F P g ob f0)) (WQ (some (.int (nI (k_addFerry F a)))) (LQ D cj ob (w0 ci cz q (sF (k_addFerry F a) (F + 1) F) (sF (k_addFerry F a) P P) (sF (k_addFerry F a) (gTol g F a) g)) (k_addFerry F a) ((nI F).toInt64)) (aw (qo q ob) 9)) 1 6 (aw (qo q ob) 9) := by
  refine Met.ofL (cc := cL_addFerry) (maxL := 4) (ret := (some .int)) (hh := [(0, 9, 12, 13), (0, 9, 15, 15)]) (by decide) rfl (Nat.le_of_ble_eq_true rfl) ?_
  intro pg en s m bl mt cd ls Fx hr hlocks htab hB hl
  obtain ⟨⟨hP, hK, hE⟩, hNC, hO⟩ := hB
  have hl : lv_has ls 4 [(0, .ref (q 0)), (1, .int a), (2, .ref ob)] := hl
  have Fx : CallFix pg m cd cL_addFerry 4 s _ wsL_addFerry RL := Fx
  have hx := Fx.1
  have hb := Fx.2.1
  have hP : va_P D vwCl (w0 ci cz q F P g) s.heap := hP
  refine lv_aload_n hx hb dL_addFerry_0 rfl (lv_at hl 2 rfl) ?_
  refine lv_iconst (v := nI 0) hx hb dL_addFerry_1 (by decide) ?_
  refine lv_aload_n hx hb dL_addFerry_2 rfl (lv_at hl 0 rfl) ?_
  refine lv_iload_n hx hb dL_addFerry_3 rfl (lv_at hl 1 rfl) ?_
  refine r_callT (A0 := aw (qo q ob) 9) (H0 := s.heap) (rest := [.int (nI 0), .ref ob]) Fx (m_X0_addFerry l hl0 (D := D) (ci := ci) (cz := cz) (cj := cj) (q := q) (F := F) (P := P) (g := g) (qo_q hq9) hF hP12 a) (cwV 1 Fx.2.2.2.2 gL_addFerry_X0_addFerry rfl rfl rfl (by decide +kernel) ⟨Nat.le_of_ble_eq_true rfl, Nat.le_of_ble_eq_true rfl⟩) BW.bl (va_recv hK hP (ci := 0) (q0 := 0) rfl rfl) (BW.at hP hK hE va_S.rf) rfl hl.1 rfl (Nat.le_of_ble_eq_true rfl) dL_addFerry_4 ⟨Nat.le_of_ble_eq_true rfl, Nat.le_of_ble_eq_true rfl⟩ va_S.rf (fun _ h => aw_o h) (fun H locs hk0 hP hS hkp => ?_) (fun j E ce q9 H locs hj hxs hh hS hce hcv hcl => ?_)
  · have hO : va_P D vwCl (wo cj ob f0) H := P_stay hO hkp (wo_n hq9)
    refine lv_i2l hx hb dL_addFerry_7 rfl ?_
    refine r_last Fx hK rfl hP hO hq9 hS dL_addFerry_8 (fun H locs f1 hP hO hf1 hS => ?_)
    refine lv_goto (tgt := 18) hx hb dL_addFerry_9 (by decide) ?_
    refine lv_iconst (v := nI 0) hx hb dL_addFerry_18 (by decide) ?_
    exact l_iret hx hb hr hlocks hS ⟨w0_0 hk0 hP, f1, hO, fun _ => hf1⟩ (congrArg nI hk0.symm) (Nat.le_refl _) (Nat.le_refl _) dL_addFerry_19
  · have hP : va_P D vwCl (w0 ci cz q F P g) H := P_all hP hh
    have hO : va_P D vwCl (wo cj ob f0) H := P_all hO hh
    rcases j with _ | _ | j
    · obtain rfl : xIA = E := Option.some.inj hxs
      refine l_catch (xs := [xIA, xIS]) 0 Fx hE hNC htab rfl rfl rfl (by decide +kernel) (by decide +kernel) (by decide +kernel) (by decide) hce hcv hcl ?_
      refine lv_astore_n (lv' := [(3, .ref q9), (0, .ref (q 0)), (1, .int a), (2, .ref ob)]) hx hb dL_addFerry_12 rfl hl (by decide) rfl (fun ls hl => ?_)
      refine lv_iconst (v := nI 1) hx hb dL_addFerry_13 (by decide) ?_
      exact l_iret hx hb hr hlocks hS ⟨w0_n 0 hj hP, f0, hO, fun e => absurd (hj.symm.trans e) (by decide)⟩ (congrArg nI hj.symm) (Nat.le_refl _) (Nat.le_refl _) dL_addFerry_14
    · obtain rfl : xIS = E := Option.some.inj hxs
      refine l_catch (xs := [xIA, xIS]) 1 Fx hE hNC htab rfl rfl rfl (by decide +kernel) (by decide +kernel) (by decide +kernel) (by decide) hce hcv hcl ?_
      refine lv_astore_n (lv' := [(3, .ref q9), (0, .ref (q 0)), (1, .int a), (2, .ref ob)]) hx hb dL_addFerry_15 rfl hl (by decide) rfl (fun ls hl => ?_)
      refine lv_iconst (v := nI 2) hx hb dL_addFerry_16 (by decide) ?_
      exact l_iret hx hb hr hlocks hS ⟨w0_n 1 hj hP, f0, hO, fun e => absurd (hj.symm.trans e) (by decide)⟩ (congrArg nI hj.symm) (Nat.le_refl _) (Nat.le_refl _) dL_addFerry_17
    · simp at hxs
theorem m_L_addPerson (l : Launch) (hl0 : l.stackTraces = false) {D : va_G} {ci cz cj : ClassId} {q : Nat → Nat} {F P : Nat} {g : Nat → Nat → Int32} {ob : Nat} {f0 : Nat → Int64} (hq9 : DQ (qo q ob) 9) (hF : F ≤ 6) (hP12 : P ≤ 12) (ha0 : ∀ z, P ≤ z → g 3 z = 0): Met l yL_addPerson wsL_addPerson ({ frames := 8, cells := 1, slots := 6, locals := 122 } : Room) (va_Pc [.ref (q 0), .ref ob] (BL D ci cz cj q F P g ob f0)) (WQ (some (.int (nI (k_addPerson P)))) (LQ D cj ob (w0 ci cz q (sF (k_addPerson P) F F) (sF (k_addPerson P) (P + 1) P) (sF (k_addPerson P) (gPar g P (-1)) g)) (k_addPerson P) ((nI P).toInt64)) (aw (qo q ob) 9)) 1 6 (aw (qo q ob) 9) := by
  refine Met.ofL (cc := cL_addPerson) (maxL := 3) (ret := (some .int)) (hh := [(0, 8, 11, 15)]) (by decide) rfl (Nat.le_of_ble_eq_true rfl) ?_
  intro pg en s m bl mt cd ls Fx hr hlocks htab hB hl
  obtain ⟨⟨hP, hK, hE⟩, hNC, hO⟩ := hB
  have hl : lv_has ls 3 [(0, .ref (q 0)), (1, .ref ob)] := hl
  have Fx : CallFix pg m cd cL_addPerson 3 s _ wsL_addPerson RL := Fx
  have hx := Fx.1
  have hb := Fx.2.1
  have hP : va_P D vwCl (w0 ci cz q F P g) s.heap := hP
  refine lv_aload_n hx hb dL_addPerson_0 rfl (lv_at hl 1 rfl) ?_
  refine lv_iconst (v := nI 0) hx hb dL_addPerson_1 (by decide) ?_
  refine lv_aload_n hx hb dL_addPerson_2 rfl (lv_at hl 0 rfl) ?_
  refine r_callT (A0 := aw (qo q ob) 9) (H0 := s.heap) (rest := [.int (nI 0), .ref ob]) Fx (m_X0_addPerson l hl0 (D := D) (ci := ci) (cz := cz) (cj := cj) (q := q) (F := F) (P := P) (g := g) (qo_q hq9) hF hP12 ha0) (cwV 0 Fx.2.2.2.2 gL_addPerson_X0_addPerson rfl rfl rfl (by decide +kernel) ⟨Nat.le_of_ble_eq_true rfl, Nat.le_of_ble_eq_true rfl⟩) BW.bl (va_recv hK hP (ci := 0) (q0 := 0) rfl rfl) (BW.at hP hK hE va_S.rf) rfl hl.1 rfl (Nat.le_of_ble_eq_true rfl) dL_addPerson_3 ⟨Nat.le_of_ble_eq_true rfl, Nat.le_of_ble_eq_true rfl⟩ va_S.rf (fun _ h => aw_o h) (fun H locs hk0 hP hS hkp => ?_) (fun j E ce q9 H locs hj hxs hh hS hce hcv hcl => ?_)
  · have hO : va_P D vwCl (wo cj ob f0) H := P_stay hO hkp (wo_n hq9)
    refine lv_i2l hx hb dL_addPerson_6 rfl ?_
    refine r_last Fx hK rfl hP hO hq9 hS dL_addPerson_7 (fun H locs f1 hP hO hf1 hS => ?_)
    refine lv_goto (tgt := 14) hx hb dL_addPerson_8 (by decide) ?_
    refine lv_iconst (v := nI 0) hx hb dL_addPerson_14 (by decide) ?_
    exact l_iret hx hb hr hlocks hS ⟨w0_0 hk0 hP, f1, hO, fun _ => hf1⟩ (congrArg nI hk0.symm) (Nat.le_refl _) (Nat.le_refl _) dL_addPerson_15
  · have hP : va_P D vwCl (w0 ci cz q F P g) H := P_all hP hh
    have hO : va_P D vwCl (wo cj ob f0) H := P_all hO hh
    rcases j with _ | j
    · obtain rfl : xIS = E := Option.some.inj hxs
      refine l_catch (xs := [xIS]) 0 Fx hE hNC htab rfl rfl rfl (by decide +kernel) (by decide +kernel) (by decide +kernel) (by decide) hce hcv hcl ?_
      refine lv_astore_n (lv' := [(2, .ref q9), (0, .ref (q 0)), (1, .ref ob)]) hx hb dL_addPerson_11 rfl hl (by decide) rfl (fun ls hl => ?_)
      refine lv_iconst (v := nI 1) hx hb dL_addPerson_12 (by decide) ?_
      exact l_iret hx hb hr hlocks hS ⟨w0_n 0 hj hP, f0, hO, fun e => absurd (hj.symm.trans e) (by decide)⟩ (congrArg nI hj.symm) (Nat.le_refl _) (Nat.le_refl _) dL_addPerson_13
    · simp at hxs
theorem m_L_addChild (l : Launch) (hl0 : l.stackTraces = false) {D : va_G} {ci cz cj : ClassId} {q : Nat → Nat} {F P : Nat} {g : Nat → Nat → Int32} {ob : Nat} {f0 : Nat → Int64} (hq9 : DQ (qo q ob) 9) (hF : F ≤ 6) (hP12 : P ≤ 12) (a : Int32) (ha0 : ∀ z, P ≤ z → g 3 z = 0): Met l yL_addChild wsL_addChild ({ frames := 8, cells := 1, slots := 6, locals := 124 } : Room) (va_Pc [.ref (q 0), .int a, .ref ob] (BL D ci cz cj q F P g ob f0)) (WQ (some (.int (nI (k_addChild P g a)))) (LQ D cj ob (w0 ci cz q (sF (k_addChild P g a) F F) (sF (k_addChild P g a) (P + 1) P) (sF (k_addChild P g a) (gPar g P a) g)) (k_addChild P g a) ((nI P).toInt64)) (aw (qo q ob) 9)) 1 6 (aw (qo q ob) 9) := by
  refine Met.ofL (cc := cL_addChild) (maxL := 4) (ret := (some .int)) (hh := [(0, 9, 12, 24), (0, 9, 15, 15)]) (by decide) rfl (Nat.le_of_ble_eq_true rfl) ?_
  intro pg en s m bl mt cd ls Fx hr hlocks htab hB hl
  obtain ⟨⟨hP, hK, hE⟩, hNC, hO⟩ := hB
  have hl : lv_has ls 4 [(0, .ref (q 0)), (1, .int a), (2, .ref ob)] := hl
  have Fx : CallFix pg m cd cL_addChild 4 s _ wsL_addChild RL := Fx
  have hx := Fx.1
  have hb := Fx.2.1
  have hP : va_P D vwCl (w0 ci cz q F P g) s.heap := hP
  refine lv_aload_n hx hb dL_addChild_0 rfl (lv_at hl 2 rfl) ?_
  refine lv_iconst (v := nI 0) hx hb dL_addChild_1 (by decide) ?_
  refine lv_aload_n hx hb dL_addChild_2 rfl (lv_at hl 0 rfl) ?_
  refine lv_iload_n hx hb dL_addChild_3 rfl (lv_at hl 1 rfl) ?_
  refine r_callT (A0 := aw (qo q ob) 9) (H0 := s.heap) (rest := [.int (nI 0), .ref ob]) Fx (m_X0_addChild l hl0 (D := D) (ci := ci) (cz := cz) (cj := cj) (q := q) (F := F) (P := P) (g := g) (qo_q hq9) hF hP12 a ha0) (cwV 1 Fx.2.2.2.2 gL_addChild_X0_addChild rfl rfl rfl (by decide +kernel) ⟨Nat.le_of_ble_eq_true rfl, Nat.le_of_ble_eq_true rfl⟩) BW.bl (va_recv hK hP (ci := 0) (q0 := 0) rfl rfl) (BW.at hP hK hE va_S.rf) rfl hl.1 rfl (Nat.le_of_ble_eq_true rfl) dL_addChild_4 ⟨Nat.le_of_ble_eq_true rfl, Nat.le_of_ble_eq_true rfl⟩ va_S.rf (fun _ h => aw_o h) (fun H locs hk0 hP hS hkp => ?_) (fun j E ce q9 H locs hj hxs hh hS hce hcv hcl => ?_)
  · have hO : va_P D vwCl (wo cj ob f0) H := P_stay hO hkp (wo_n hq9)
    refine lv_i2l hx hb dL_addChild_7 rfl ?_
    refine r_last Fx hK rfl hP hO hq9 hS dL_addChild_8 (fun H locs f1 hP hO hf1 hS => ?_)
    refine lv_goto (tgt := 18) hx hb dL_addChild_9 (by decide) ?_
    refine lv_iconst (v := nI 0) hx hb dL_addChild_18 (by decide) ?_
    exact l_iret hx hb hr hlocks hS ⟨w0_0 hk0 hP, f1, hO, fun _ => hf1⟩ (congrArg nI hk0.symm) (Nat.le_refl _) (Nat.le_refl _) dL_addChild_19
  · have hP : va_P D vwCl (w0 ci cz q F P g) H := P_all hP hh
    have hO : va_P D vwCl (wo cj ob f0) H := P_all hO hh
    rcases j with _ | _ | j
    · obtain rfl : xIO = E := Option.some.inj hxs
      refine l_catch (xs := [xIO, xIS]) 0 Fx hE hNC htab rfl rfl rfl (by decide +kernel) (by decide +kernel) (by decide +kernel) (by decide) hce hcv hcl ?_
      refine lv_astore_n (lv' := [(3, .ref q9), (0, .ref (q 0)), (1, .int a), (2, .ref ob)]) hx hb dL_addChild_12 rfl hl (by decide) rfl (fun ls hl => ?_)
      refine lv_iconst (v := nI 1) hx hb dL_addChild_13 (by decide) ?_
      exact l_iret hx hb hr hlocks hS ⟨w0_n 0 hj hP, f0, hO, fun e => absurd (hj.symm.trans e) (by decide)⟩ (congrArg nI hj.symm) (Nat.le_refl _) (Nat.le_refl _) dL_addChild_14
    · obtain rfl : xIS = E := Option.some.inj hxs
      refine l_catch (xs := [xIO, xIS]) 1 Fx hE hNC htab rfl rfl rfl (by decide +kernel) (by decide +kernel) (by decide +kernel) (by decide) hce hcv hcl ?_
      refine lv_astore_n (lv' := [(3, .ref q9), (0, .ref (q 0)), (1, .int a), (2, .ref ob)]) hx hb dL_addChild_15 rfl hl (by decide) rfl (fun ls hl => ?_)
      refine lv_iconst (v := nI 2) hx hb dL_addChild_16 (by decide) ?_
      exact l_iret hx hb hr hlocks hS ⟨w0_n 1 hj hP, f0, hO, fun e => absurd (hj.symm.trans e) (by decide)⟩ (congrArg nI hj.symm) (Nat.le_refl _) (Nat.le_refl _) dL_addChild_17
    · simp at hxs
theorem m_L_pay (l : Launch) (hl0 : l.stackTraces = false) {D : va_G} {ci cz cj : ClassId} {q : Nat → Nat} {F P : Nat} {g : Nat → Nat → Int32} {ob : Nat} {f0 : Nat → Int64} (hq9 : DQ (qo q ob) 9) (hF : F ≤ 6) (hP12 : P ≤ 12) (a : Int32) (b : Int32): Met l yL_pay wsL_pay ({ frames := 8, cells := 1, slots := 6, locals := 125 } : Room) (va_Pc [.ref (q 0), .int a, .int b, .ref ob] (BL D ci cz cj q F P g ob f0)) (WQ (some (.int (nI (k_pay P g a b)))) (LQ D cj ob (w0 ci cz q (sF (k_pay P g a b) F F) (sF (k_pay P g a b) P P) (sF (k_pay P g a b) (gGet g (ix a) b) g)) (k_pay P g a b) ((mn (g 4 (ix a) + b)).toInt64)) (aw (qo q ob) 9)) 1 6 (aw (qo q ob) 9) := by
  refine Met.ofL (cc := cL_pay) (maxL := 5) (ret := (some .int)) (hh := [(0, 10, 13, 24), (0, 10, 17, 13), (0, 10, 21, 15)]) (by decide) rfl (Nat.le_of_ble_eq_true rfl) ?_
  intro pg en s m bl mt cd ls Fx hr hlocks htab hB hl
  obtain ⟨⟨hP, hK, hE⟩, hNC, hO⟩ := hB
  have hl : lv_has ls 5 [(0, .ref (q 0)), (1, .int a), (2, .int b), (3, .ref ob)] := hl
  have Fx : CallFix pg m cd cL_pay 5 s _ wsL_pay RL := Fx
  have hx := Fx.1
  have hb := Fx.2.1
  have hP : va_P D vwCl (w0 ci cz q F P g) s.heap := hP
  refine lv_aload_n hx hb dL_pay_0 rfl (lv_at hl 3 rfl) ?_
  refine lv_iconst (v := nI 0) hx hb dL_pay_1 (by decide) ?_
  refine lv_aload_n hx hb dL_pay_2 rfl (lv_at hl 0 rfl) ?_
  refine lv_iload_n hx hb dL_pay_3 rfl (lv_at hl 1 rfl) ?_
  refine lv_iload_n hx hb dL_pay_4 rfl (lv_at hl 2 rfl) ?_
  refine r_callT (A0 := aw (qo q ob) 9) (H0 := s.heap) (rest := [.int (nI 0), .ref ob]) Fx (m_X0_pay l hl0 (D := D) (ci := ci) (cz := cz) (cj := cj) (q := q) (F := F) (P := P) (g := g) (qo_q hq9) hF hP12 a b) (cwV 2 Fx.2.2.2.2 gL_pay_X0_pay rfl rfl rfl (by decide +kernel) ⟨Nat.le_of_ble_eq_true rfl, Nat.le_of_ble_eq_true rfl⟩) BW.bl (va_recv hK hP (ci := 0) (q0 := 0) rfl rfl) (BW.at hP hK hE va_S.rf) rfl hl.1 rfl (Nat.le_of_ble_eq_true rfl) dL_pay_5 ⟨Nat.le_of_ble_eq_true rfl, Nat.le_of_ble_eq_true rfl⟩ va_S.rf (fun _ h => aw_o h) (fun H locs hk0 hP hS hkp => ?_) (fun j E ce q9 H locs hj hxs hh hS hce hcv hcl => ?_)
  · have hO : va_P D vwCl (wo cj ob f0) H := P_stay hO hkp (wo_n hq9)
    refine lv_i2l hx hb dL_pay_8 rfl ?_
    refine r_last Fx hK rfl hP hO hq9 hS dL_pay_9 (fun H locs f1 hP hO hf1 hS => ?_)
    refine lv_goto (tgt := 25) hx hb dL_pay_10 (by decide) ?_
    refine lv_iconst (v := nI 0) hx hb dL_pay_25 (by decide) ?_
    exact l_iret hx hb hr hlocks hS ⟨w0_0 hk0 hP, f1, hO, fun _ => hf1⟩ (congrArg nI hk0.symm) (Nat.le_refl _) (Nat.le_refl _) dL_pay_26
  · have hP : va_P D vwCl (w0 ci cz q F P g) H := P_all hP hh
    have hO : va_P D vwCl (wo cj ob f0) H := P_all hO hh
    rcases j with _ | _ | _ | j
    · obtain rfl : xIO = E := Option.some.inj hxs
      refine l_catch (xs := [xIO, xIA, xIS]) 0 Fx hE hNC htab rfl rfl rfl (by decide +kernel) (by decide +kernel) (by decide +kernel) (by decide) hce hcv hcl ?_
      refine lv_astore (lv' := [(4, .ref q9), (0, .ref (q 0)), (1, .int a), (2, .int b), (3, .ref ob)]) hx hb dL_pay_13 hl (by decide) rfl (fun ls hl => ?_)
      refine lv_iconst (v := nI 1) hx hb dL_pay_15 (by decide) ?_
      exact l_iret hx hb hr hlocks hS ⟨w0_n 0 hj hP, f0, hO, fun e => absurd (hj.symm.trans e) (by decide)⟩ (congrArg nI hj.symm) (Nat.le_refl _) (Nat.le_refl _) dL_pay_16
    · obtain rfl : xIA = E := Option.some.inj hxs
      refine l_catch (xs := [xIO, xIA, xIS]) 1 Fx hE hNC htab rfl rfl rfl (by decide +kernel) (by decide +kernel) (by decide +kernel) (by decide) hce hcv hcl ?_
      refine lv_astore (lv' := [(4, .ref q9), (0, .ref (q 0)), (1, .int a), (2, .int b), (3, .ref ob)]) hx hb dL_pay_17 hl (by decide) rfl (fun ls hl => ?_)
      refine lv_iconst (v := nI 2) hx hb dL_pay_19 (by decide) ?_
      exact l_iret hx hb hr hlocks hS ⟨w0_n 1 hj hP, f0, hO, fun e => absurd (hj.symm.trans e) (by decide)⟩ (congrArg nI hj.symm) (Nat.le_refl _) (Nat.le_refl _) dL_pay_20
    · obtain rfl : xIS = E := Option.some.inj hxs
      refine l_catch (xs := [xIO, xIA, xIS]) 2 Fx hE hNC htab rfl rfl rfl (by decide +kernel) (by decide +kernel) (by decide +kernel) (by decide) hce hcv hcl ?_
      refine lv_astore (lv' := [(4, .ref q9), (0, .ref (q 0)), (1, .int a), (2, .int b), (3, .ref ob)]) hx hb dL_pay_21 hl (by decide) rfl (fun ls hl => ?_)
      refine lv_iconst (v := nI 3) hx hb dL_pay_23 (by decide) ?_
      exact l_iret hx hb hr hlocks hS ⟨w0_n 2 hj hP, f0, hO, fun e => absurd (hj.symm.trans e) (by decide)⟩ (congrArg nI hj.symm) (Nat.le_refl _) (Nat.le_refl _) dL_pay_24
    · simp at hxs
theorem m_L_grant (l : Launch) (hl0 : l.stackTraces = false) {D : va_G} {ci cz cj : ClassId} {q : Nat → Nat} {F P : Nat} {g : Nat → Nat → Int32} {ob : Nat} {f0 : Nat → Int64} (hq9 : DQ (qo q ob) 9) (hF : F ≤ 6) (hP12 : P ≤ 12) (f : Int32) (w : Int32) (a : Int32) (b : Int32): Met l yL_grant wsL_grant ({ frames := 8, cells := 1, slots := 6, locals := 127 } : Room) (va_Pc [.ref (q 0), .int f, .int w, .int a, .int b, .ref ob] (BL D ci cz cj q F P g ob f0)) (WQ (some (.int (nI (k_grant F P g f w a b)))) (LQ D cj ob (w0 ci cz q (sF (k_grant F P g f w a b) F F) (sF (k_grant F P g f w a b) P P) (sF (k_grant F P g f w a b) (gAdd g (ix f) (ix w) (ix a) b) g)) (k_grant F P g f w a b) ((sCro (gAdd g (ix f) (ix w) (ix a) b) P (ix f) (ix w)).toInt64)) (aw (qo q ob) 9)) 1 6 (aw (qo q ob) 9) := by
  refine Met.ofL (cc := cL_grant) (maxL := 7) (ret := (some .int)) (hh := [(0, 14, 17, 24), (0, 14, 21, 13), (0, 14, 25, 15)]) (by decide) rfl (Nat.le_of_ble_eq_true rfl) ?_
  intro pg en s m bl mt cd ls Fx hr hlocks htab hB hl
  obtain ⟨⟨hP, hK, hE⟩, hNC, hO⟩ := hB
  have hl : lv_has ls 7 [(0, .ref (q 0)), (1, .int f), (2, .int w), (3, .int a), (4, .int b), (5, .ref ob)] := hl
  have Fx : CallFix pg m cd cL_grant 7 s _ wsL_grant RL := Fx
  have hx := Fx.1
  have hb := Fx.2.1
  have hP : va_P D vwCl (w0 ci cz q F P g) s.heap := hP
  refine lv_aload hx hb dL_grant_0 (lv_at hl 5 rfl) ?_
  refine lv_iconst (v := nI 0) hx hb dL_grant_2 (by decide) ?_
  refine lv_aload_n hx hb dL_grant_3 rfl (lv_at hl 0 rfl) ?_
  refine lv_iload_n hx hb dL_grant_4 rfl (lv_at hl 1 rfl) ?_
  refine lv_iload_n hx hb dL_grant_5 rfl (lv_at hl 2 rfl) ?_
  refine lv_iload_n hx hb dL_grant_6 rfl (lv_at hl 3 rfl) ?_
  refine lv_iload hx hb dL_grant_7 (lv_at hl 4 rfl) ?_
  refine r_callT (A0 := aw (qo q ob) 9) (H0 := s.heap) (rest := [.int (nI 0), .ref ob]) Fx (m_X0_grant l hl0 (D := D) (ci := ci) (cz := cz) (cj := cj) (q := q) (F := F) (P := P) (g := g) (qo_q hq9) hF hP12 f w a b) (cwV 4 Fx.2.2.2.2 gL_grant_X0_grant rfl rfl rfl (by decide +kernel) ⟨Nat.le_of_ble_eq_true rfl, Nat.le_of_ble_eq_true rfl⟩) BW.bl (va_recv hK hP (ci := 0) (q0 := 0) rfl rfl) (BW.at hP hK hE va_S.rf) rfl hl.1 rfl (Nat.le_of_ble_eq_true rfl) dL_grant_9 ⟨Nat.le_of_ble_eq_true rfl, Nat.le_of_ble_eq_true rfl⟩ va_S.rf (fun _ h => aw_o h) (fun H locs hk0 hP hS hkp => ?_) (fun j E ce q9 H locs hj hxs hh hS hce hcv hcl => ?_)
  · have hO : va_P D vwCl (wo cj ob f0) H := P_stay hO hkp (wo_n hq9)
    refine lv_i2l hx hb dL_grant_12 rfl ?_
    refine r_last Fx hK rfl hP hO hq9 hS dL_grant_13 (fun H locs f1 hP hO hf1 hS => ?_)
    refine lv_goto (tgt := 29) hx hb dL_grant_14 (by decide) ?_
    refine lv_iconst (v := nI 0) hx hb dL_grant_29 (by decide) ?_
    exact l_iret hx hb hr hlocks hS ⟨w0_0 hk0 hP, f1, hO, fun _ => hf1⟩ (congrArg nI hk0.symm) (Nat.le_refl _) (Nat.le_refl _) dL_grant_30
  · have hP : va_P D vwCl (w0 ci cz q F P g) H := P_all hP hh
    have hO : va_P D vwCl (wo cj ob f0) H := P_all hO hh
    rcases j with _ | _ | _ | j
    · obtain rfl : xIO = E := Option.some.inj hxs
      refine l_catch (xs := [xIO, xIA, xIS]) 0 Fx hE hNC htab rfl rfl rfl (by decide +kernel) (by decide +kernel) (by decide +kernel) (by decide) hce hcv hcl ?_
      refine lv_astore (lv' := [(6, .ref q9), (0, .ref (q 0)), (1, .int f), (2, .int w), (3, .int a), (4, .int b), (5, .ref ob)]) hx hb dL_grant_17 hl (by decide) rfl (fun ls hl => ?_)
      refine lv_iconst (v := nI 1) hx hb dL_grant_19 (by decide) ?_
      exact l_iret hx hb hr hlocks hS ⟨w0_n 0 hj hP, f0, hO, fun e => absurd (hj.symm.trans e) (by decide)⟩ (congrArg nI hj.symm) (Nat.le_refl _) (Nat.le_refl _) dL_grant_20
    · obtain rfl : xIA = E := Option.some.inj hxs
      refine l_catch (xs := [xIO, xIA, xIS]) 1 Fx hE hNC htab rfl rfl rfl (by decide +kernel) (by decide +kernel) (by decide +kernel) (by decide) hce hcv hcl ?_
      refine lv_astore (lv' := [(6, .ref q9), (0, .ref (q 0)), (1, .int f), (2, .int w), (3, .int a), (4, .int b), (5, .ref ob)]) hx hb dL_grant_21 hl (by decide) rfl (fun ls hl => ?_)
      refine lv_iconst (v := nI 2) hx hb dL_grant_23 (by decide) ?_
      exact l_iret hx hb hr hlocks hS ⟨w0_n 1 hj hP, f0, hO, fun e => absurd (hj.symm.trans e) (by decide)⟩ (congrArg nI hj.symm) (Nat.le_refl _) (Nat.le_refl _) dL_grant_24
    · obtain rfl : xIS = E := Option.some.inj hxs
      refine l_catch (xs := [xIO, xIA, xIS]) 2 Fx hE hNC htab rfl rfl rfl (by decide +kernel) (by decide +kernel) (by decide +kernel) (by decide) hce hcv hcl ?_
      refine lv_astore (lv' := [(6, .ref q9), (0, .ref (q 0)), (1, .int f), (2, .int w), (3, .int a), (4, .int b), (5, .ref ob)]) hx hb dL_grant_25 hl (by decide) rfl (fun ls hl => ?_)
      refine lv_iconst (v := nI 3) hx hb dL_grant_27 (by decide) ?_
      exact l_iret hx hb hr hlocks hS ⟨w0_n 2 hj hP, f0, hO, fun e => absurd (hj.symm.trans e) (by decide)⟩ (congrArg nI hj.symm) (Nat.le_refl _) (Nat.le_refl _) dL_grant_28
    · simp at hxs
theorem m_L_give (l : Launch) (hl0 : l.stackTraces = false) {D : va_G} {ci cz cj : ClassId} {q : Nat → Nat} {F P : Nat} {g : Nat → Nat → Int32} {ob : Nat} {f0 : Nat → Int64} (hq9 : DQ (qo q ob) 9) (hF : F ≤ 6) (hP12 : P ≤ 12) (a : Int32) (b : Int32) (f : Int32) (w : Int32) (n : Int32): Met l yL_give wsL_give ({ frames := 8, cells := 1, slots := 6, locals := 128 } : Room) (va_Pc [.ref (q 0), .int a, .int b, .int f, .int w, .int n, .ref ob] (BL D ci cz cj q F P g ob f0)) (WQ (some (.int (nI (k_give F P g a b f w n)))) (LQ D cj ob (w0 ci cz q (sF (k_give F P g a b f w n) F F) (sF (k_give F P g a b f w n) P P) (sF (k_give F P g a b f w n) (gGiv g (ix a) (ix b) (ix f) (ix w) n) g)) (k_give F P g a b f w n) ((own (gGiv g (ix a) (ix b) (ix f) (ix w) n) (ix f) (ix w) (ix b)).toInt64)) (aw (qo q ob) 9)) 1 6 (aw (qo q ob) 9) := by
  refine Met.ofL (cc := cL_give) (maxL := 8) (ret := (some .int)) (hh := [(0, 16, 19, 24), (0, 16, 23, 13), (0, 16, 27, 15)]) (by decide) rfl (Nat.le_of_ble_eq_true rfl) ?_
  intro pg en s m bl mt cd ls Fx hr hlocks htab hB hl
  obtain ⟨⟨hP, hK, hE⟩, hNC, hO⟩ := hB
  have hl : lv_has ls 8 [(0, .ref (q 0)), (1, .int a), (2, .int b), (3, .int f), (4, .int w), (5, .int n), (6, .ref ob)] := hl
  have Fx : CallFix pg m cd cL_give 8 s _ wsL_give RL := Fx
  have hx := Fx.1
  have hb := Fx.2.1
  have hP : va_P D vwCl (w0 ci cz q F P g) s.heap := hP
  refine lv_aload hx hb dL_give_0 (lv_at hl 6 rfl) ?_
  refine lv_iconst (v := nI 0) hx hb dL_give_2 (by decide) ?_
  refine lv_aload_n hx hb dL_give_3 rfl (lv_at hl 0 rfl) ?_
  refine lv_iload_n hx hb dL_give_4 rfl (lv_at hl 1 rfl) ?_
  refine lv_iload_n hx hb dL_give_5 rfl (lv_at hl 2 rfl) ?_
  refine lv_iload_n hx hb dL_give_6 rfl (lv_at hl 3 rfl) ?_
  refine lv_iload hx hb dL_give_7 (lv_at hl 4 rfl) ?_
  refine lv_iload hx hb dL_give_9 (lv_at hl 5 rfl) ?_
  refine r_callT (A0 := aw (qo q ob) 9) (H0 := s.heap) (rest := [.int (nI 0), .ref ob]) Fx (m_X0_give l hl0 (D := D) (ci := ci) (cz := cz) (cj := cj) (q := q) (F := F) (P := P) (g := g) (qo_q hq9) hF hP12 a b f w n) (cwV 5 Fx.2.2.2.2 gL_give_X0_give rfl rfl rfl (by decide +kernel) ⟨Nat.le_of_ble_eq_true rfl, Nat.le_of_ble_eq_true rfl⟩) BW.bl (va_recv hK hP (ci := 0) (q0 := 0) rfl rfl) (BW.at hP hK hE va_S.rf) rfl hl.1 rfl (Nat.le_of_ble_eq_true rfl) dL_give_11 ⟨Nat.le_of_ble_eq_true rfl, Nat.le_of_ble_eq_true rfl⟩ va_S.rf (fun _ h => aw_o h) (fun H locs hk0 hP hS hkp => ?_) (fun j E ce q9 H locs hj hxs hh hS hce hcv hcl => ?_)
  · have hO : va_P D vwCl (wo cj ob f0) H := P_stay hO hkp (wo_n hq9)
    refine lv_i2l hx hb dL_give_14 rfl ?_
    refine r_last Fx hK rfl hP hO hq9 hS dL_give_15 (fun H locs f1 hP hO hf1 hS => ?_)
    refine lv_goto (tgt := 31) hx hb dL_give_16 (by decide) ?_
    refine lv_iconst (v := nI 0) hx hb dL_give_31 (by decide) ?_
    exact l_iret hx hb hr hlocks hS ⟨w0_0 hk0 hP, f1, hO, fun _ => hf1⟩ (congrArg nI hk0.symm) (Nat.le_refl _) (Nat.le_refl _) dL_give_32
  · have hP : va_P D vwCl (w0 ci cz q F P g) H := P_all hP hh
    have hO : va_P D vwCl (wo cj ob f0) H := P_all hO hh
    rcases j with _ | _ | _ | j
    · obtain rfl : xIO = E := Option.some.inj hxs
      refine l_catch (xs := [xIO, xIA, xIS]) 0 Fx hE hNC htab rfl rfl rfl (by decide +kernel) (by decide +kernel) (by decide +kernel) (by decide) hce hcv hcl ?_
      refine lv_astore (lv' := [(7, .ref q9), (0, .ref (q 0)), (1, .int a), (2, .int b), (3, .int f), (4, .int w), (5, .int n), (6, .ref ob)]) hx hb dL_give_19 hl (by decide) rfl (fun ls hl => ?_)
      refine lv_iconst (v := nI 1) hx hb dL_give_21 (by decide) ?_
      exact l_iret hx hb hr hlocks hS ⟨w0_n 0 hj hP, f0, hO, fun e => absurd (hj.symm.trans e) (by decide)⟩ (congrArg nI hj.symm) (Nat.le_refl _) (Nat.le_refl _) dL_give_22
    · obtain rfl : xIA = E := Option.some.inj hxs
      refine l_catch (xs := [xIO, xIA, xIS]) 1 Fx hE hNC htab rfl rfl rfl (by decide +kernel) (by decide +kernel) (by decide +kernel) (by decide) hce hcv hcl ?_
      refine lv_astore (lv' := [(7, .ref q9), (0, .ref (q 0)), (1, .int a), (2, .int b), (3, .int f), (4, .int w), (5, .int n), (6, .ref ob)]) hx hb dL_give_23 hl (by decide) rfl (fun ls hl => ?_)
      refine lv_iconst (v := nI 2) hx hb dL_give_25 (by decide) ?_
      exact l_iret hx hb hr hlocks hS ⟨w0_n 1 hj hP, f0, hO, fun e => absurd (hj.symm.trans e) (by decide)⟩ (congrArg nI hj.symm) (Nat.le_refl _) (Nat.le_refl _) dL_give_26
    · obtain rfl : xIS = E := Option.some.inj hxs
      refine l_catch (xs := [xIO, xIA, xIS]) 2 Fx hE hNC htab rfl rfl rfl (by decide +kernel) (by decide +kernel) (by decide +kernel) (by decide) hce hcv hcl ?_
      refine lv_astore (lv' := [(7, .ref q9), (0, .ref (q 0)), (1, .int a), (2, .int b), (3, .int f), (4, .int w), (5, .int n), (6, .ref ob)]) hx hb dL_give_27 hl (by decide) rfl (fun ls hl => ?_)
      refine lv_iconst (v := nI 3) hx hb dL_give_29 (by decide) ?_
      exact l_iret hx hb hr hlocks hS ⟨w0_n 2 hj hP, f0, hO, fun e => absurd (hj.symm.trans e) (by decide)⟩ (congrArg nI hj.symm) (Nat.le_refl _) (Nat.le_refl _) dL_give_30
    · simp at hxs
theorem m_L_buy (l : Launch) (hl0 : l.stackTraces = false) {D : va_G} {ci cz cj : ClassId} {q : Nat → Nat} {F P : Nat} {g : Nat → Nat → Int32} {ob : Nat} {f0 : Nat → Int64} (hq9 : DQ (qo q ob) 9) (hF : F ≤ 6) (hP12 : P ≤ 12) (a : Int32) (b : Int32) (f : Int32) (w : Int32): Met l yL_buy wsL_buy ({ frames := 9, cells := 1, slots := 6, locals := 153 } : Room) (va_Pc [.ref (q 0), .int a, .int b, .int f, .int w, .ref ob] (BL D ci cz cj q F P g ob f0)) (WQ (some (.int (nI (k_buy F P g a b f w)))) (LQ D cj ob (w0 ci cz q (sF (k_buy F P g a b f w) F F) (sF (k_buy F P g a b f w) P P) (sF (k_buy F P g a b f w) (gBuy g (ix a) (ix b) (ix f) (ix w)) g)) (k_buy F P g a b f w) ((sPri g (ix f) (ix w) (ix b)).toInt64)) (aw (qo q ob) 9)) 1 6 (aw (qo q ob) 9) := by
  refine Met.ofL (cc := cL_buy) (maxL := 7) (ret := (some .int)) (hh := [(0, 14, 17, 24), (0, 14, 21, 15)]) (by decide) rfl (Nat.le_of_ble_eq_true rfl) ?_
  intro pg en s m bl mt cd ls Fx hr hlocks htab hB hl
  obtain ⟨⟨hP, hK, hE⟩, hNC, hO⟩ := hB
  have hl : lv_has ls 7 [(0, .ref (q 0)), (1, .int a), (2, .int b), (3, .int f), (4, .int w), (5, .ref ob)] := hl
  have Fx : CallFix pg m cd cL_buy 7 s _ wsL_buy RL := Fx
  have hx := Fx.1
  have hb := Fx.2.1
  have hP : va_P D vwCl (w0 ci cz q F P g) s.heap := hP
  refine lv_aload hx hb dL_buy_0 (lv_at hl 5 rfl) ?_
  refine lv_iconst (v := nI 0) hx hb dL_buy_2 (by decide) ?_
  refine lv_aload_n hx hb dL_buy_3 rfl (lv_at hl 0 rfl) ?_
  refine lv_iload_n hx hb dL_buy_4 rfl (lv_at hl 1 rfl) ?_
  refine lv_iload_n hx hb dL_buy_5 rfl (lv_at hl 2 rfl) ?_
  refine lv_iload_n hx hb dL_buy_6 rfl (lv_at hl 3 rfl) ?_
  refine lv_iload hx hb dL_buy_7 (lv_at hl 4 rfl) ?_
  refine r_callT (A0 := aw (qo q ob) 9) (H0 := s.heap) (rest := [.int (nI 0), .ref ob]) Fx (m_X0_buy l hl0 (D := D) (ci := ci) (cz := cz) (cj := cj) (q := q) (F := F) (P := P) (g := g) (qo_q hq9) hF hP12 a b f w) (cwV 4 Fx.2.2.2.2 gL_buy_X0_buy rfl rfl rfl (by decide +kernel) ⟨Nat.le_of_ble_eq_true rfl, Nat.le_of_ble_eq_true rfl⟩) BW.bl (va_recv hK hP (ci := 0) (q0 := 0) rfl rfl) (BW.at hP hK hE va_S.rf) rfl hl.1 rfl (Nat.le_of_ble_eq_true rfl) dL_buy_9 ⟨Nat.le_of_ble_eq_true rfl, Nat.le_of_ble_eq_true rfl⟩ va_S.rf (fun _ h => aw_o h) (fun H locs hk0 hP hS hkp => ?_) (fun j E ce q9 H locs hj hxs hh hS hce hcv hcl => ?_)
  · have hO : va_P D vwCl (wo cj ob f0) H := P_stay hO hkp (wo_n hq9)
    refine lv_i2l hx hb dL_buy_12 rfl ?_
    refine r_last Fx hK rfl hP hO hq9 hS dL_buy_13 (fun H locs f1 hP hO hf1 hS => ?_)
    refine lv_goto (tgt := 25) hx hb dL_buy_14 (by decide) ?_
    refine lv_iconst (v := nI 0) hx hb dL_buy_25 (by decide) ?_
    exact l_iret hx hb hr hlocks hS ⟨w0_0 hk0 hP, f1, hO, fun _ => hf1⟩ (congrArg nI hk0.symm) (Nat.le_refl _) (Nat.le_refl _) dL_buy_26
  · have hP : va_P D vwCl (w0 ci cz q F P g) H := P_all hP hh
    have hO : va_P D vwCl (wo cj ob f0) H := P_all hO hh
    rcases j with _ | _ | j
    · obtain rfl : xIO = E := Option.some.inj hxs
      refine l_catch (xs := [xIO, xIS]) 0 Fx hE hNC htab rfl rfl rfl (by decide +kernel) (by decide +kernel) (by decide +kernel) (by decide) hce hcv hcl ?_
      refine lv_astore (lv' := [(6, .ref q9), (0, .ref (q 0)), (1, .int a), (2, .int b), (3, .int f), (4, .int w), (5, .ref ob)]) hx hb dL_buy_17 hl (by decide) rfl (fun ls hl => ?_)
      refine lv_iconst (v := nI 1) hx hb dL_buy_19 (by decide) ?_
      exact l_iret hx hb hr hlocks hS ⟨w0_n 0 hj hP, f0, hO, fun e => absurd (hj.symm.trans e) (by decide)⟩ (congrArg nI hj.symm) (Nat.le_refl _) (Nat.le_refl _) dL_buy_20
    · obtain rfl : xIS = E := Option.some.inj hxs
      refine l_catch (xs := [xIO, xIS]) 1 Fx hE hNC htab rfl rfl rfl (by decide +kernel) (by decide +kernel) (by decide +kernel) (by decide) hce hcv hcl ?_
      refine lv_astore (lv' := [(6, .ref q9), (0, .ref (q 0)), (1, .int a), (2, .int b), (3, .int f), (4, .int w), (5, .ref ob)]) hx hb dL_buy_21 hl (by decide) rfl (fun ls hl => ?_)
      refine lv_iconst (v := nI 2) hx hb dL_buy_23 (by decide) ?_
      exact l_iret hx hb hr hlocks hS ⟨w0_n 1 hj hP, f0, hO, fun e => absurd (hj.symm.trans e) (by decide)⟩ (congrArg nI hj.symm) (Nat.le_refl _) (Nat.le_refl _) dL_buy_24
    · simp at hxs
theorem m_L_setToll (l : Launch) (hl0 : l.stackTraces = false) {D : va_G} {ci cz cj : ClassId} {q : Nat → Nat} {F P : Nat} {g : Nat → Nat → Int32} {ob : Nat} {f0 : Nat → Int64} (hq9 : DQ (qo q ob) 9) (hF : F ≤ 6) (hP12 : P ≤ 12) (f : Int32) (a : Int32) (n : Int32): Met l yL_setToll wsL_setToll ({ frames := 8, cells := 1, slots := 6, locals := 127 } : Room) (va_Pc [.ref (q 0), .int f, .int a, .int n, .ref ob] (BL D ci cz cj q F P g ob f0)) (WQ (some (.int (nI (k_setToll F P g f a n)))) (LQ D cj ob (w0 ci cz q (sF (k_setToll F P g f a n) F F) (sF (k_setToll F P g f a n) P P) (sF (k_setToll F P g f a n) (gTol g (ix f) n) g)) (k_setToll F P g f a n) ((g 0 (ix f)).toInt64)) (aw (qo q ob) 9)) 1 6 (aw (qo q ob) 9) := by
  refine Met.ofL (cc := cL_setToll) (maxL := 6) (ret := (some .int)) (hh := [(0, 12, 15, 24), (0, 12, 19, 13), (0, 12, 23, 15)]) (by decide) rfl (Nat.le_of_ble_eq_true rfl) ?_
  intro pg en s m bl mt cd ls Fx hr hlocks htab hB hl
  obtain ⟨⟨hP, hK, hE⟩, hNC, hO⟩ := hB
  have hl : lv_has ls 6 [(0, .ref (q 0)), (1, .int f), (2, .int a), (3, .int n), (4, .ref ob)] := hl
  have Fx : CallFix pg m cd cL_setToll 6 s _ wsL_setToll RL := Fx
  have hx := Fx.1
  have hb := Fx.2.1
  have hP : va_P D vwCl (w0 ci cz q F P g) s.heap := hP
  refine lv_aload hx hb dL_setToll_0 (lv_at hl 4 rfl) ?_
  refine lv_iconst (v := nI 0) hx hb dL_setToll_2 (by decide) ?_
  refine lv_aload_n hx hb dL_setToll_3 rfl (lv_at hl 0 rfl) ?_
  refine lv_iload_n hx hb dL_setToll_4 rfl (lv_at hl 1 rfl) ?_
  refine lv_iload_n hx hb dL_setToll_5 rfl (lv_at hl 2 rfl) ?_
  refine lv_iload_n hx hb dL_setToll_6 rfl (lv_at hl 3 rfl) ?_
  refine r_callT (A0 := aw (qo q ob) 9) (H0 := s.heap) (rest := [.int (nI 0), .ref ob]) Fx (m_X0_setToll l hl0 (D := D) (ci := ci) (cz := cz) (cj := cj) (q := q) (F := F) (P := P) (g := g) (qo_q hq9) hF hP12 f a n) (cwV 3 Fx.2.2.2.2 gL_setToll_X0_setToll rfl rfl rfl (by decide +kernel) ⟨Nat.le_of_ble_eq_true rfl, Nat.le_of_ble_eq_true rfl⟩) BW.bl (va_recv hK hP (ci := 0) (q0 := 0) rfl rfl) (BW.at hP hK hE va_S.rf) rfl hl.1 rfl (Nat.le_of_ble_eq_true rfl) dL_setToll_7 ⟨Nat.le_of_ble_eq_true rfl, Nat.le_of_ble_eq_true rfl⟩ va_S.rf (fun _ h => aw_o h) (fun H locs hk0 hP hS hkp => ?_) (fun j E ce q9 H locs hj hxs hh hS hce hcv hcl => ?_)
  · have hO : va_P D vwCl (wo cj ob f0) H := P_stay hO hkp (wo_n hq9)
    refine lv_i2l hx hb dL_setToll_10 rfl ?_
    refine r_last Fx hK rfl hP hO hq9 hS dL_setToll_11 (fun H locs f1 hP hO hf1 hS => ?_)
    refine lv_goto (tgt := 27) hx hb dL_setToll_12 (by decide) ?_
    refine lv_iconst (v := nI 0) hx hb dL_setToll_27 (by decide) ?_
    exact l_iret hx hb hr hlocks hS ⟨w0_0 hk0 hP, f1, hO, fun _ => hf1⟩ (congrArg nI hk0.symm) (Nat.le_refl _) (Nat.le_refl _) dL_setToll_28
  · have hP : va_P D vwCl (w0 ci cz q F P g) H := P_all hP hh
    have hO : va_P D vwCl (wo cj ob f0) H := P_all hO hh
    rcases j with _ | _ | _ | j
    · obtain rfl : xIO = E := Option.some.inj hxs
      refine l_catch (xs := [xIO, xIA, xIS]) 0 Fx hE hNC htab rfl rfl rfl (by decide +kernel) (by decide +kernel) (by decide +kernel) (by decide) hce hcv hcl ?_
      refine lv_astore (lv' := [(5, .ref q9), (0, .ref (q 0)), (1, .int f), (2, .int a), (3, .int n), (4, .ref ob)]) hx hb dL_setToll_15 hl (by decide) rfl (fun ls hl => ?_)
      refine lv_iconst (v := nI 1) hx hb dL_setToll_17 (by decide) ?_
      exact l_iret hx hb hr hlocks hS ⟨w0_n 0 hj hP, f0, hO, fun e => absurd (hj.symm.trans e) (by decide)⟩ (congrArg nI hj.symm) (Nat.le_refl _) (Nat.le_refl _) dL_setToll_18
    · obtain rfl : xIA = E := Option.some.inj hxs
      refine l_catch (xs := [xIO, xIA, xIS]) 1 Fx hE hNC htab rfl rfl rfl (by decide +kernel) (by decide +kernel) (by decide +kernel) (by decide) hce hcv hcl ?_
      refine lv_astore (lv' := [(5, .ref q9), (0, .ref (q 0)), (1, .int f), (2, .int a), (3, .int n), (4, .ref ob)]) hx hb dL_setToll_19 hl (by decide) rfl (fun ls hl => ?_)
      refine lv_iconst (v := nI 2) hx hb dL_setToll_21 (by decide) ?_
      exact l_iret hx hb hr hlocks hS ⟨w0_n 1 hj hP, f0, hO, fun e => absurd (hj.symm.trans e) (by decide)⟩ (congrArg nI hj.symm) (Nat.le_refl _) (Nat.le_refl _) dL_setToll_22
    · obtain rfl : xIS = E := Option.some.inj hxs
      refine l_catch (xs := [xIO, xIA, xIS]) 2 Fx hE hNC htab rfl rfl rfl (by decide +kernel) (by decide +kernel) (by decide +kernel) (by decide) hce hcv hcl ?_
      refine lv_astore (lv' := [(5, .ref q9), (0, .ref (q 0)), (1, .int f), (2, .int a), (3, .int n), (4, .ref ob)]) hx hb dL_setToll_23 hl (by decide) rfl (fun ls hl => ?_)
      refine lv_iconst (v := nI 3) hx hb dL_setToll_25 (by decide) ?_
      exact l_iret hx hb hr hlocks hS ⟨w0_n 2 hj hP, f0, hO, fun e => absurd (hj.symm.trans e) (by decide)⟩ (congrArg nI hj.symm) (Nat.le_refl _) (Nat.le_refl _) dL_setToll_26
    · simp at hxs
theorem m_L_carry (l : Launch) (hl0 : l.stackTraces = false) {D : va_G} {ci cz cj : ClassId} {q : Nat → Nat} {F P : Nat} {g : Nat → Nat → Int32} {ob : Nat} {f0 : Nat → Int64} (hq9 : DQ (qo q ob) 9) (hF : F ≤ 6) (hP12 : P ≤ 12) (f : Int32) (h : Int32) (x : Int32): Met l yL_carry wsL_carry ({ frames := 8, cells := 1, slots := 6, locals := 130 } : Room) (va_Pc [.ref (q 0), .int f, .int h, .int x, .ref ob] (BL D ci cz cj q F P g ob f0)) (WQ (some (.int (nI (k_carry F f h x)))) (LQ D cj ob (w0 ci cz q (sF (k_carry F f h x) F F) (sF (k_carry F f h x) P P) (sF (k_carry F f h x) (gCry g P (ix f) (ix h / 6) x) g)) (k_carry F f h x) ((lCar g (ix f) (ix h / 6) x P).toInt64)) (aw (qo q ob) 9)) 1 6 (aw (qo q ob) 9) := by
  refine Met.ofL (cc := cL_carry) (maxL := 6) (ret := (some .int)) (hh := [(0, 12, 15, 24), (0, 12, 19, 13)]) (by decide) rfl (Nat.le_of_ble_eq_true rfl) ?_
  intro pg en s m bl mt cd ls Fx hr hlocks htab hB hl
  obtain ⟨⟨hP, hK, hE⟩, hNC, hO⟩ := hB
  have hl : lv_has ls 6 [(0, .ref (q 0)), (1, .int f), (2, .int h), (3, .int x), (4, .ref ob)] := hl
  have Fx : CallFix pg m cd cL_carry 6 s _ wsL_carry RL := Fx
  have hx := Fx.1
  have hb := Fx.2.1
  have hP : va_P D vwCl (w0 ci cz q F P g) s.heap := hP
  refine lv_aload hx hb dL_carry_0 (lv_at hl 4 rfl) ?_
  refine lv_iconst (v := nI 0) hx hb dL_carry_2 (by decide) ?_
  refine lv_aload_n hx hb dL_carry_3 rfl (lv_at hl 0 rfl) ?_
  refine lv_iload_n hx hb dL_carry_4 rfl (lv_at hl 1 rfl) ?_
  refine lv_iload_n hx hb dL_carry_5 rfl (lv_at hl 2 rfl) ?_
  refine lv_iload_n hx hb dL_carry_6 rfl (lv_at hl 3 rfl) ?_
  refine r_callT (A0 := aw (qo q ob) 9) (H0 := s.heap) (rest := [.int (nI 0), .ref ob]) Fx (m_X0_carry l hl0 (D := D) (ci := ci) (cz := cz) (cj := cj) (q := q) (F := F) (P := P) (g := g) (qo_q hq9) hF hP12 f h x) (cwV 3 Fx.2.2.2.2 gL_carry_X0_carry rfl rfl rfl (by decide +kernel) ⟨Nat.le_of_ble_eq_true rfl, Nat.le_of_ble_eq_true rfl⟩) BW.bl (va_recv hK hP (ci := 0) (q0 := 0) rfl rfl) (BW.at hP hK hE va_S.rf) rfl hl.1 rfl (Nat.le_of_ble_eq_true rfl) dL_carry_7 ⟨Nat.le_of_ble_eq_true rfl, Nat.le_of_ble_eq_true rfl⟩ va_S.rf (fun _ h => aw_o h) (fun H locs hk0 hP hS hkp => ?_) (fun j E ce q9 H locs hj hxs hh hS hce hcv hcl => ?_)
  · have hO : va_P D vwCl (wo cj ob f0) H := P_stay hO hkp (wo_n hq9)
    refine lv_i2l hx hb dL_carry_10 rfl ?_
    refine r_last Fx hK rfl hP hO hq9 hS dL_carry_11 (fun H locs f1 hP hO hf1 hS => ?_)
    refine lv_goto (tgt := 23) hx hb dL_carry_12 (by decide) ?_
    refine lv_iconst (v := nI 0) hx hb dL_carry_23 (by decide) ?_
    exact l_iret hx hb hr hlocks hS ⟨w0_0 hk0 hP, f1, hO, fun _ => hf1⟩ (congrArg nI hk0.symm) (Nat.le_refl _) (Nat.le_refl _) dL_carry_24
  · have hP : va_P D vwCl (w0 ci cz q F P g) H := P_all hP hh
    have hO : va_P D vwCl (wo cj ob f0) H := P_all hO hh
    rcases j with _ | _ | j
    · obtain rfl : xIO = E := Option.some.inj hxs
      refine l_catch (xs := [xIO, xIA]) 0 Fx hE hNC htab rfl rfl rfl (by decide +kernel) (by decide +kernel) (by decide +kernel) (by decide) hce hcv hcl ?_
      refine lv_astore (lv' := [(5, .ref q9), (0, .ref (q 0)), (1, .int f), (2, .int h), (3, .int x), (4, .ref ob)]) hx hb dL_carry_15 hl (by decide) rfl (fun ls hl => ?_)
      refine lv_iconst (v := nI 1) hx hb dL_carry_17 (by decide) ?_
      exact l_iret hx hb hr hlocks hS ⟨w0_n 0 hj hP, f0, hO, fun e => absurd (hj.symm.trans e) (by decide)⟩ (congrArg nI hj.symm) (Nat.le_refl _) (Nat.le_refl _) dL_carry_18
    · obtain rfl : xIA = E := Option.some.inj hxs
      refine l_catch (xs := [xIO, xIA]) 1 Fx hE hNC htab rfl rfl rfl (by decide +kernel) (by decide +kernel) (by decide +kernel) (by decide) hce hcv hcl ?_
      refine lv_astore (lv' := [(5, .ref q9), (0, .ref (q 0)), (1, .int f), (2, .int h), (3, .int x), (4, .ref ob)]) hx hb dL_carry_19 hl (by decide) rfl (fun ls hl => ?_)
      refine lv_iconst (v := nI 2) hx hb dL_carry_21 (by decide) ?_
      exact l_iret hx hb hr hlocks hS ⟨w0_n 1 hj hP, f0, hO, fun e => absurd (hj.symm.trans e) (by decide)⟩ (congrArg nI hj.symm) (Nat.le_refl _) (Nat.le_refl _) dL_carry_22
    · simp at hxs
theorem m_L_die (l : Launch) (hl0 : l.stackTraces = false) {D : va_G} {ci cz cj : ClassId} {q : Nat → Nat} {F P : Nat} {g : Nat → Nat → Int32} {ob : Nat} {f0 : Nat → Int64} (hq9 : DQ (qo q ob) 9) (hF : F ≤ 6) (hP12 : P ≤ 12) (a : Int32): Met l yL_die wsL_die ({ frames := 8, cells := 1, slots := 6, locals := 127 } : Room) (va_Pc [.ref (q 0), .int a, .ref ob] (BL D ci cz cj q F P g ob f0)) (WQ (some (.int (nI (k_die P g a)))) (LQ D cj ob (w0 ci cz q (sF (k_die P g a) F F) (sF (k_die P g a) P P) (sF (k_die P g a) (gDie g F P (ix a)) g)) (k_die P g a) ((nI (sCHe g P (ix a))).toInt64)) (aw (qo q ob) 9)) 1 6 (aw (qo q ob) 9) := by
  refine Met.ofL (cc := cL_die) (maxL := 4) (ret := (some .int)) (hh := [(0, 9, 12, 24), (0, 9, 15, 15)]) (by decide) rfl (Nat.le_of_ble_eq_true rfl) ?_
  intro pg en s m bl mt cd ls Fx hr hlocks htab hB hl
  obtain ⟨⟨hP, hK, hE⟩, hNC, hO⟩ := hB
  have hl : lv_has ls 4 [(0, .ref (q 0)), (1, .int a), (2, .ref ob)] := hl
  have Fx : CallFix pg m cd cL_die 4 s _ wsL_die RL := Fx
  have hx := Fx.1
  have hb := Fx.2.1
  have hP : va_P D vwCl (w0 ci cz q F P g) s.heap := hP
  refine lv_aload_n hx hb dL_die_0 rfl (lv_at hl 2 rfl) ?_
  refine lv_iconst (v := nI 0) hx hb dL_die_1 (by decide) ?_
  refine lv_aload_n hx hb dL_die_2 rfl (lv_at hl 0 rfl) ?_
  refine lv_iload_n hx hb dL_die_3 rfl (lv_at hl 1 rfl) ?_
  refine r_callT (A0 := aw (qo q ob) 9) (H0 := s.heap) (rest := [.int (nI 0), .ref ob]) Fx (m_X0_die l hl0 (D := D) (ci := ci) (cz := cz) (cj := cj) (q := q) (F := F) (P := P) (g := g) (qo_q hq9) hF hP12 a) (cwV 1 Fx.2.2.2.2 gL_die_X0_die rfl rfl rfl (by decide +kernel) ⟨Nat.le_of_ble_eq_true rfl, Nat.le_of_ble_eq_true rfl⟩) BW.bl (va_recv hK hP (ci := 0) (q0 := 0) rfl rfl) (BW.at hP hK hE va_S.rf) rfl hl.1 rfl (Nat.le_of_ble_eq_true rfl) dL_die_4 ⟨Nat.le_of_ble_eq_true rfl, Nat.le_of_ble_eq_true rfl⟩ va_S.rf (fun _ h => aw_o h) (fun H locs hk0 hP hS hkp => ?_) (fun j E ce q9 H locs hj hxs hh hS hce hcv hcl => ?_)
  · have hO : va_P D vwCl (wo cj ob f0) H := P_stay hO hkp (wo_n hq9)
    refine lv_i2l hx hb dL_die_7 rfl ?_
    refine r_last Fx hK rfl hP hO hq9 hS dL_die_8 (fun H locs f1 hP hO hf1 hS => ?_)
    refine lv_goto (tgt := 18) hx hb dL_die_9 (by decide) ?_
    refine lv_iconst (v := nI 0) hx hb dL_die_18 (by decide) ?_
    exact l_iret hx hb hr hlocks hS ⟨w0_0 hk0 hP, f1, hO, fun _ => hf1⟩ (congrArg nI hk0.symm) (Nat.le_refl _) (Nat.le_refl _) dL_die_19
  · have hP : va_P D vwCl (w0 ci cz q F P g) H := P_all hP hh
    have hO : va_P D vwCl (wo cj ob f0) H := P_all hO hh
    rcases j with _ | _ | j
    · obtain rfl : xIO = E := Option.some.inj hxs
      refine l_catch (xs := [xIO, xIS]) 0 Fx hE hNC htab rfl rfl rfl (by decide +kernel) (by decide +kernel) (by decide +kernel) (by decide) hce hcv hcl ?_
      refine lv_astore_n (lv' := [(3, .ref q9), (0, .ref (q 0)), (1, .int a), (2, .ref ob)]) hx hb dL_die_12 rfl hl (by decide) rfl (fun ls hl => ?_)
      refine lv_iconst (v := nI 1) hx hb dL_die_13 (by decide) ?_
      exact l_iret hx hb hr hlocks hS ⟨w0_n 0 hj hP, f0, hO, fun e => absurd (hj.symm.trans e) (by decide)⟩ (congrArg nI hj.symm) (Nat.le_refl _) (Nat.le_refl _) dL_die_14
    · obtain rfl : xIS = E := Option.some.inj hxs
      refine l_catch (xs := [xIO, xIS]) 1 Fx hE hNC htab rfl rfl rfl (by decide +kernel) (by decide +kernel) (by decide +kernel) (by decide) hce hcv hcl ?_
      refine lv_astore_n (lv' := [(3, .ref q9), (0, .ref (q 0)), (1, .int a), (2, .ref ob)]) hx hb dL_die_15 rfl hl (by decide) rfl (fun ls hl => ?_)
      refine lv_iconst (v := nI 2) hx hb dL_die_16 (by decide) ?_
      exact l_iret hx hb hr hlocks hS ⟨w0_n 1 hj hP, f0, hO, fun e => absurd (hj.symm.trans e) (by decide)⟩ (congrArg nI hj.symm) (Nat.le_refl _) (Nat.le_refl _) dL_die_17
    · simp at hxs
theorem m_L_toll (l : Launch) (hl0 : l.stackTraces = false) {D : va_G} {ci cz cj : ClassId} {q : Nat → Nat} {F P : Nat} {g : Nat → Nat → Int32} {ob : Nat} {f0 : Nat → Int64} (hq9 : DQ (qo q ob) 9) (hF : F ≤ 6) (hP12 : P ≤ 12) (a : Int32): Met l yL_toll wsL_toll ({ frames := 8, cells := 1, slots := 6, locals := 124 } : Room) (va_Pc [.ref (q 0), .int a, .ref ob] (BL D ci cz cj q F P g ob f0)) (WQ (some (.int (nI (k_1 F a)))) (LQ D cj ob (w0 ci cz q F P g) (k_1 F a) ((g 0 (ix a)).toInt64)) (aw (qo q ob) 9)) 1 6 (aw (qo q ob) 9) := by
  refine Met.ofL (cc := cL_toll) (maxL := 4) (ret := (some .int)) (hh := [(0, 9, 12, 24)]) (by decide) rfl (Nat.le_of_ble_eq_true rfl) ?_
  intro pg en s m bl mt cd ls Fx hr hlocks htab hB hl
  obtain ⟨⟨hP, hK, hE⟩, hNC, hO⟩ := hB
  have hl : lv_has ls 4 [(0, .ref (q 0)), (1, .int a), (2, .ref ob)] := hl
  have Fx : CallFix pg m cd cL_toll 4 s _ wsL_toll RL := Fx
  have hx := Fx.1
  have hb := Fx.2.1
  have hP : va_P D vwCl (w0 ci cz q F P g) s.heap := hP
  refine lv_aload_n hx hb dL_toll_0 rfl (lv_at hl 2 rfl) ?_
  refine lv_iconst (v := nI 0) hx hb dL_toll_1 (by decide) ?_
  refine lv_aload_n hx hb dL_toll_2 rfl (lv_at hl 0 rfl) ?_
  refine lv_iload_n hx hb dL_toll_3 rfl (lv_at hl 1 rfl) ?_
  refine r_callT (A0 := aw (qo q ob) 9) (H0 := s.heap) (rest := [.int (nI 0), .ref ob]) Fx (m_X0_toll l hl0 (D := D) (ci := ci) (cz := cz) (cj := cj) (q := q) (F := F) (P := P) (g := g) (qo_q hq9) hF hP12 a) (cwV 1 Fx.2.2.2.2 gL_toll_X0_toll rfl rfl rfl (by decide +kernel) ⟨Nat.le_of_ble_eq_true rfl, Nat.le_of_ble_eq_true rfl⟩) BW.bl (va_recv hK hP (ci := 0) (q0 := 0) rfl rfl) (BW.at hP hK hE va_S.rf) rfl hl.1 rfl (Nat.le_of_ble_eq_true rfl) dL_toll_4 ⟨Nat.le_of_ble_eq_true rfl, Nat.le_of_ble_eq_true rfl⟩ va_S.rf (fun _ h => aw_o h) (fun H locs hk0 hP hS hkp => ?_) (fun j E ce q9 H locs hj hxs hh hS hce hcv hcl => ?_)
  · have hO : va_P D vwCl (wo cj ob f0) H := P_stay hO hkp (wo_n hq9)
    refine lv_i2l hx hb dL_toll_7 rfl ?_
    refine r_last Fx hK rfl hP hO hq9 hS dL_toll_8 (fun H locs f1 hP hO hf1 hS => ?_)
    refine lv_goto (tgt := 15) hx hb dL_toll_9 (by decide) ?_
    refine lv_iconst (v := nI 0) hx hb dL_toll_15 (by decide) ?_
    exact l_iret hx hb hr hlocks hS ⟨hP, f1, hO, fun _ => hf1⟩ (congrArg nI hk0.symm) (Nat.le_refl _) (Nat.le_refl _) dL_toll_16
  · have hP : va_P D vwCl (w0 ci cz q F P g) H := P_all hP hh
    have hO : va_P D vwCl (wo cj ob f0) H := P_all hO hh
    rcases j with _ | j
    · obtain rfl : xIO = E := Option.some.inj hxs
      refine l_catch (xs := [xIO]) 0 Fx hE hNC htab rfl rfl rfl (by decide +kernel) (by decide +kernel) (by decide +kernel) (by decide) hce hcv hcl ?_
      refine lv_astore_n (lv' := [(3, .ref q9), (0, .ref (q 0)), (1, .int a), (2, .ref ob)]) hx hb dL_toll_12 rfl hl (by decide) rfl (fun ls hl => ?_)
      refine lv_iconst (v := nI 1) hx hb dL_toll_13 (by decide) ?_
      exact l_iret hx hb hr hlocks hS ⟨hP, f0, hO, fun e => absurd (hj.symm.trans e) (by decide)⟩ (congrArg nI hj.symm) (Nat.le_refl _) (Nat.le_refl _) dL_toll_14
    · simp at hxs
theorem m_L_carried (l : Launch) (hl0 : l.stackTraces = false) {D : va_G} {ci cz cj : ClassId} {q : Nat → Nat} {F P : Nat} {g : Nat → Nat → Int32} {ob : Nat} {f0 : Nat → Int64} (hq9 : DQ (qo q ob) 9) (hF : F ≤ 6) (hP12 : P ≤ 12) (a : Int32): Met l yL_carried wsL_carried ({ frames := 8, cells := 1, slots := 6, locals := 124 } : Room) (va_Pc [.ref (q 0), .int a, .ref ob] (BL D ci cz cj q F P g ob f0)) (WQ (some (.int (nI (k_1 F a)))) (LQ D cj ob (w0 ci cz q F P g) (k_1 F a) ((g 1 (ix a)).toInt64)) (aw (qo q ob) 9)) 1 6 (aw (qo q ob) 9) := by
  refine Met.ofL (cc := cL_carried) (maxL := 4) (ret := (some .int)) (hh := [(0, 9, 12, 24)]) (by decide) rfl (Nat.le_of_ble_eq_true rfl) ?_
  intro pg en s m bl mt cd ls Fx hr hlocks htab hB hl
  obtain ⟨⟨hP, hK, hE⟩, hNC, hO⟩ := hB
  have hl : lv_has ls 4 [(0, .ref (q 0)), (1, .int a), (2, .ref ob)] := hl
  have Fx : CallFix pg m cd cL_carried 4 s _ wsL_carried RL := Fx
  have hx := Fx.1
  have hb := Fx.2.1
  have hP : va_P D vwCl (w0 ci cz q F P g) s.heap := hP
  refine lv_aload_n hx hb dL_carried_0 rfl (lv_at hl 2 rfl) ?_
  refine lv_iconst (v := nI 0) hx hb dL_carried_1 (by decide) ?_
  refine lv_aload_n hx hb dL_carried_2 rfl (lv_at hl 0 rfl) ?_
  refine lv_iload_n hx hb dL_carried_3 rfl (lv_at hl 1 rfl) ?_
  refine r_callT (A0 := aw (qo q ob) 9) (H0 := s.heap) (rest := [.int (nI 0), .ref ob]) Fx (m_X0_carried l hl0 (D := D) (ci := ci) (cz := cz) (cj := cj) (q := q) (F := F) (P := P) (g := g) (qo_q hq9) hF hP12 a) (cwV 1 Fx.2.2.2.2 gL_carried_X0_carried rfl rfl rfl (by decide +kernel) ⟨Nat.le_of_ble_eq_true rfl, Nat.le_of_ble_eq_true rfl⟩) BW.bl (va_recv hK hP (ci := 0) (q0 := 0) rfl rfl) (BW.at hP hK hE va_S.rf) rfl hl.1 rfl (Nat.le_of_ble_eq_true rfl) dL_carried_4 ⟨Nat.le_of_ble_eq_true rfl, Nat.le_of_ble_eq_true rfl⟩ va_S.rf (fun _ h => aw_o h) (fun H locs hk0 hP hS hkp => ?_) (fun j E ce q9 H locs hj hxs hh hS hce hcv hcl => ?_)
  · have hO : va_P D vwCl (wo cj ob f0) H := P_stay hO hkp (wo_n hq9)
    refine lv_i2l hx hb dL_carried_7 rfl ?_
    refine r_last Fx hK rfl hP hO hq9 hS dL_carried_8 (fun H locs f1 hP hO hf1 hS => ?_)
    refine lv_goto (tgt := 15) hx hb dL_carried_9 (by decide) ?_
    refine lv_iconst (v := nI 0) hx hb dL_carried_15 (by decide) ?_
    exact l_iret hx hb hr hlocks hS ⟨hP, f1, hO, fun _ => hf1⟩ (congrArg nI hk0.symm) (Nat.le_refl _) (Nat.le_refl _) dL_carried_16
  · have hP : va_P D vwCl (w0 ci cz q F P g) H := P_all hP hh
    have hO : va_P D vwCl (wo cj ob f0) H := P_all hO hh
    rcases j with _ | j
    · obtain rfl : xIO = E := Option.some.inj hxs
      refine l_catch (xs := [xIO]) 0 Fx hE hNC htab rfl rfl rfl (by decide +kernel) (by decide +kernel) (by decide +kernel) (by decide) hce hcv hcl ?_
      refine lv_astore_n (lv' := [(3, .ref q9), (0, .ref (q 0)), (1, .int a), (2, .ref ob)]) hx hb dL_carried_12 rfl hl (by decide) rfl (fun ls hl => ?_)
      refine lv_iconst (v := nI 1) hx hb dL_carried_13 (by decide) ?_
      exact l_iret hx hb hr hlocks hS ⟨hP, f0, hO, fun e => absurd (hj.symm.trans e) (by decide)⟩ (congrArg nI hj.symm) (Nat.le_refl _) (Nat.le_refl _) dL_carried_14
    · simp at hxs
theorem m_L_shares (l : Launch) (hl0 : l.stackTraces = false) {D : va_G} {ci cz cj : ClassId} {q : Nat → Nat} {F P : Nat} {g : Nat → Nat → Int32} {ob : Nat} {f0 : Nat → Int64} (hq9 : DQ (qo q ob) 9) (hF : F ≤ 6) (hP12 : P ≤ 12) (f : Int32) (w : Int32) (a : Int32): Met l yL_shares wsL_shares ({ frames := 8, cells := 1, slots := 6, locals := 126 } : Room) (va_Pc [.ref (q 0), .int f, .int w, .int a, .ref ob] (BL D ci cz cj q F P g ob f0)) (WQ (some (.int (nI (k_fwp F P f w a)))) (LQ D cj ob (w0 ci cz q F P g) (k_fwp F P f w a) ((own g (ix f) (ix w) (ix a)).toInt64)) (aw (qo q ob) 9)) 1 6 (aw (qo q ob) 9) := by
  refine Met.ofL (cc := cL_shares) (maxL := 6) (ret := (some .int)) (hh := [(0, 12, 15, 24)]) (by decide) rfl (Nat.le_of_ble_eq_true rfl) ?_
  intro pg en s m bl mt cd ls Fx hr hlocks htab hB hl
  obtain ⟨⟨hP, hK, hE⟩, hNC, hO⟩ := hB
  have hl : lv_has ls 6 [(0, .ref (q 0)), (1, .int f), (2, .int w), (3, .int a), (4, .ref ob)] := hl
  have Fx : CallFix pg m cd cL_shares 6 s _ wsL_shares RL := Fx
  have hx := Fx.1
  have hb := Fx.2.1
  have hP : va_P D vwCl (w0 ci cz q F P g) s.heap := hP
  refine lv_aload hx hb dL_shares_0 (lv_at hl 4 rfl) ?_
  refine lv_iconst (v := nI 0) hx hb dL_shares_2 (by decide) ?_
  refine lv_aload_n hx hb dL_shares_3 rfl (lv_at hl 0 rfl) ?_
  refine lv_iload_n hx hb dL_shares_4 rfl (lv_at hl 1 rfl) ?_
  refine lv_iload_n hx hb dL_shares_5 rfl (lv_at hl 2 rfl) ?_
  refine lv_iload_n hx hb dL_shares_6 rfl (lv_at hl 3 rfl) ?_
  refine r_callT (A0 := aw (qo q ob) 9) (H0 := s.heap) (rest := [.int (nI 0), .ref ob]) Fx (m_X0_shares l hl0 (D := D) (ci := ci) (cz := cz) (cj := cj) (q := q) (F := F) (P := P) (g := g) (qo_q hq9) hF hP12 f w a) (cwV 3 Fx.2.2.2.2 gL_shares_X0_shares rfl rfl rfl (by decide +kernel) ⟨Nat.le_of_ble_eq_true rfl, Nat.le_of_ble_eq_true rfl⟩) BW.bl (va_recv hK hP (ci := 0) (q0 := 0) rfl rfl) (BW.at hP hK hE va_S.rf) rfl hl.1 rfl (Nat.le_of_ble_eq_true rfl) dL_shares_7 ⟨Nat.le_of_ble_eq_true rfl, Nat.le_of_ble_eq_true rfl⟩ va_S.rf (fun _ h => aw_o h) (fun H locs hk0 hP hS hkp => ?_) (fun j E ce q9 H locs hj hxs hh hS hce hcv hcl => ?_)
  · have hO : va_P D vwCl (wo cj ob f0) H := P_stay hO hkp (wo_n hq9)
    refine lv_i2l hx hb dL_shares_10 rfl ?_
    refine r_last Fx hK rfl hP hO hq9 hS dL_shares_11 (fun H locs f1 hP hO hf1 hS => ?_)
    refine lv_goto (tgt := 19) hx hb dL_shares_12 (by decide) ?_
    refine lv_iconst (v := nI 0) hx hb dL_shares_19 (by decide) ?_
    exact l_iret hx hb hr hlocks hS ⟨hP, f1, hO, fun _ => hf1⟩ (congrArg nI hk0.symm) (Nat.le_refl _) (Nat.le_refl _) dL_shares_20
  · have hP : va_P D vwCl (w0 ci cz q F P g) H := P_all hP hh
    have hO : va_P D vwCl (wo cj ob f0) H := P_all hO hh
    rcases j with _ | j
    · obtain rfl : xIO = E := Option.some.inj hxs
      refine l_catch (xs := [xIO]) 0 Fx hE hNC htab rfl rfl rfl (by decide +kernel) (by decide +kernel) (by decide +kernel) (by decide) hce hcv hcl ?_
      refine lv_astore (lv' := [(5, .ref q9), (0, .ref (q 0)), (1, .int f), (2, .int w), (3, .int a), (4, .ref ob)]) hx hb dL_shares_15 hl (by decide) rfl (fun ls hl => ?_)
      refine lv_iconst (v := nI 1) hx hb dL_shares_17 (by decide) ?_
      exact l_iret hx hb hr hlocks hS ⟨hP, f0, hO, fun e => absurd (hj.symm.trans e) (by decide)⟩ (congrArg nI hj.symm) (Nat.le_refl _) (Nat.le_refl _) dL_shares_18
    · simp at hxs
theorem m_L_crownShares (l : Launch) (hl0 : l.stackTraces = false) {D : va_G} {ci cz cj : ClassId} {q : Nat → Nat} {F P : Nat} {g : Nat → Nat → Int32} {ob : Nat} {f0 : Nat → Int64} (hq9 : DQ (qo q ob) 9) (hF : F ≤ 6) (hP12 : P ≤ 12) (f : Int32) (w : Int32): Met l yL_crownShares wsL_crownShares ({ frames := 8, cells := 1, slots := 6, locals := 125 } : Room) (va_Pc [.ref (q 0), .int f, .int w, .ref ob] (BL D ci cz cj q F P g ob f0)) (WQ (some (.int (nI (k_fw F f w)))) (LQ D cj ob (w0 ci cz q F P g) (k_fw F f w) ((sCro g P (ix f) (ix w)).toInt64)) (aw (qo q ob) 9)) 1 6 (aw (qo q ob) 9) := by
  refine Met.ofL (cc := cL_crownShares) (maxL := 5) (ret := (some .int)) (hh := [(0, 10, 13, 24)]) (by decide) rfl (Nat.le_of_ble_eq_true rfl) ?_
  intro pg en s m bl mt cd ls Fx hr hlocks htab hB hl
  obtain ⟨⟨hP, hK, hE⟩, hNC, hO⟩ := hB
  have hl : lv_has ls 5 [(0, .ref (q 0)), (1, .int f), (2, .int w), (3, .ref ob)] := hl
  have Fx : CallFix pg m cd cL_crownShares 5 s _ wsL_crownShares RL := Fx
  have hx := Fx.1
  have hb := Fx.2.1
  have hP : va_P D vwCl (w0 ci cz q F P g) s.heap := hP
  refine lv_aload_n hx hb dL_crownShares_0 rfl (lv_at hl 3 rfl) ?_
  refine lv_iconst (v := nI 0) hx hb dL_crownShares_1 (by decide) ?_
  refine lv_aload_n hx hb dL_crownShares_2 rfl (lv_at hl 0 rfl) ?_
  refine lv_iload_n hx hb dL_crownShares_3 rfl (lv_at hl 1 rfl) ?_
  refine lv_iload_n hx hb dL_crownShares_4 rfl (lv_at hl 2 rfl) ?_
  refine r_callT (A0 := aw (qo q ob) 9) (H0 := s.heap) (rest := [.int (nI 0), .ref ob]) Fx (m_X0_crownShares l hl0 (D := D) (ci := ci) (cz := cz) (cj := cj) (q := q) (F := F) (P := P) (g := g) (qo_q hq9) hF hP12 f w) (cwV 2 Fx.2.2.2.2 gL_crownShares_X0_crownShares rfl rfl rfl (by decide +kernel) ⟨Nat.le_of_ble_eq_true rfl, Nat.le_of_ble_eq_true rfl⟩) BW.bl (va_recv hK hP (ci := 0) (q0 := 0) rfl rfl) (BW.at hP hK hE va_S.rf) rfl hl.1 rfl (Nat.le_of_ble_eq_true rfl) dL_crownShares_5 ⟨Nat.le_of_ble_eq_true rfl, Nat.le_of_ble_eq_true rfl⟩ va_S.rf (fun _ h => aw_o h) (fun H locs hk0 hP hS hkp => ?_) (fun j E ce q9 H locs hj hxs hh hS hce hcv hcl => ?_)
  · have hO : va_P D vwCl (wo cj ob f0) H := P_stay hO hkp (wo_n hq9)
    refine lv_i2l hx hb dL_crownShares_8 rfl ?_
    refine r_last Fx hK rfl hP hO hq9 hS dL_crownShares_9 (fun H locs f1 hP hO hf1 hS => ?_)
    refine lv_goto (tgt := 17) hx hb dL_crownShares_10 (by decide) ?_
    refine lv_iconst (v := nI 0) hx hb dL_crownShares_17 (by decide) ?_
    exact l_iret hx hb hr hlocks hS ⟨hP, f1, hO, fun _ => hf1⟩ (congrArg nI hk0.symm) (Nat.le_refl _) (Nat.le_refl _) dL_crownShares_18
  · have hP : va_P D vwCl (w0 ci cz q F P g) H := P_all hP hh
    have hO : va_P D vwCl (wo cj ob f0) H := P_all hO hh
    rcases j with _ | j
    · obtain rfl : xIO = E := Option.some.inj hxs
      refine l_catch (xs := [xIO]) 0 Fx hE hNC htab rfl rfl rfl (by decide +kernel) (by decide +kernel) (by decide +kernel) (by decide) hce hcv hcl ?_
      refine lv_astore (lv' := [(4, .ref q9), (0, .ref (q 0)), (1, .int f), (2, .int w), (3, .ref ob)]) hx hb dL_crownShares_13 hl (by decide) rfl (fun ls hl => ?_)
      refine lv_iconst (v := nI 1) hx hb dL_crownShares_15 (by decide) ?_
      exact l_iret hx hb hr hlocks hS ⟨hP, f0, hO, fun e => absurd (hj.symm.trans e) (by decide)⟩ (congrArg nI hj.symm) (Nat.le_refl _) (Nat.le_refl _) dL_crownShares_16
    · simp at hxs
theorem m_L_owners (l : Launch) (hl0 : l.stackTraces = false) {D : va_G} {ci cz cj : ClassId} {q : Nat → Nat} {F P : Nat} {g : Nat → Nat → Int32} {ob : Nat} {f0 : Nat → Int64} (hq9 : DQ (qo q ob) 9) (hF : F ≤ 6) (hP12 : P ≤ 12) (f : Int32) (w : Int32): Met l yL_owners wsL_owners ({ frames := 8, cells := 1, slots := 6, locals := 127 } : Room) (va_Pc [.ref (q 0), .int f, .int w, .ref ob] (BL D ci cz cj q F P g ob f0)) (WQ (some (.int (nI (k_fw F f w)))) (LQ D cj ob (w0 ci cz q F P g) (k_fw F f w) ((nI (sOwn g P (ix f) (ix w))).toInt64)) (aw (qo q ob) 9)) 1 6 (aw (qo q ob) 9) := by
  refine Met.ofL (cc := cL_owners) (maxL := 5) (ret := (some .int)) (hh := [(0, 10, 13, 24)]) (by decide) rfl (Nat.le_of_ble_eq_true rfl) ?_
  intro pg en s m bl mt cd ls Fx hr hlocks htab hB hl
  obtain ⟨⟨hP, hK, hE⟩, hNC, hO⟩ := hB
  have hl : lv_has ls 5 [(0, .ref (q 0)), (1, .int f), (2, .int w), (3, .ref ob)] := hl
  have Fx : CallFix pg m cd cL_owners 5 s _ wsL_owners RL := Fx
  have hx := Fx.1
  have hb := Fx.2.1
  have hP : va_P D vwCl (w0 ci cz q F P g) s.heap := hP
  refine lv_aload_n hx hb dL_owners_0 rfl (lv_at hl 3 rfl) ?_
  refine lv_iconst (v := nI 0) hx hb dL_owners_1 (by decide) ?_
  refine lv_aload_n hx hb dL_owners_2 rfl (lv_at hl 0 rfl) ?_
  refine lv_iload_n hx hb dL_owners_3 rfl (lv_at hl 1 rfl) ?_
  refine lv_iload_n hx hb dL_owners_4 rfl (lv_at hl 2 rfl) ?_
  refine r_callT (A0 := aw (qo q ob) 9) (H0 := s.heap) (rest := [.int (nI 0), .ref ob]) Fx (m_X0_owners l hl0 (D := D) (ci := ci) (cz := cz) (cj := cj) (q := q) (F := F) (P := P) (g := g) (qo_q hq9) hF hP12 f w) (cwV 2 Fx.2.2.2.2 gL_owners_X0_owners rfl rfl rfl (by decide +kernel) ⟨Nat.le_of_ble_eq_true rfl, Nat.le_of_ble_eq_true rfl⟩) BW.bl (va_recv hK hP (ci := 0) (q0 := 0) rfl rfl) (BW.at hP hK hE va_S.rf) rfl hl.1 rfl (Nat.le_of_ble_eq_true rfl) dL_owners_5 ⟨Nat.le_of_ble_eq_true rfl, Nat.le_of_ble_eq_true rfl⟩ va_S.rf (fun _ h => aw_o h) (fun H locs hk0 hP hS hkp => ?_) (fun j E ce q9 H locs hj hxs hh hS hce hcv hcl => ?_)
  · have hO : va_P D vwCl (wo cj ob f0) H := P_stay hO hkp (wo_n hq9)
    refine lv_i2l hx hb dL_owners_8 rfl ?_
    refine r_last Fx hK rfl hP hO hq9 hS dL_owners_9 (fun H locs f1 hP hO hf1 hS => ?_)
    refine lv_goto (tgt := 17) hx hb dL_owners_10 (by decide) ?_
    refine lv_iconst (v := nI 0) hx hb dL_owners_17 (by decide) ?_
    exact l_iret hx hb hr hlocks hS ⟨hP, f1, hO, fun _ => hf1⟩ (congrArg nI hk0.symm) (Nat.le_refl _) (Nat.le_refl _) dL_owners_18
  · have hP : va_P D vwCl (w0 ci cz q F P g) H := P_all hP hh
    have hO : va_P D vwCl (wo cj ob f0) H := P_all hO hh
    rcases j with _ | j
    · obtain rfl : xIO = E := Option.some.inj hxs
      refine l_catch (xs := [xIO]) 0 Fx hE hNC htab rfl rfl rfl (by decide +kernel) (by decide +kernel) (by decide +kernel) (by decide) hce hcv hcl ?_
      refine lv_astore (lv' := [(4, .ref q9), (0, .ref (q 0)), (1, .int f), (2, .int w), (3, .ref ob)]) hx hb dL_owners_13 hl (by decide) rfl (fun ls hl => ?_)
      refine lv_iconst (v := nI 1) hx hb dL_owners_15 (by decide) ?_
      exact l_iret hx hb hr hlocks hS ⟨hP, f0, hO, fun e => absurd (hj.symm.trans e) (by decide)⟩ (congrArg nI hj.symm) (Nat.le_refl _) (Nat.le_refl _) dL_owners_16
    · simp at hxs
theorem m_L_holder (l : Launch) (hl0 : l.stackTraces = false) {D : va_G} {ci cz cj : ClassId} {q : Nat → Nat} {F P : Nat} {g : Nat → Nat → Int32} {ob : Nat} {f0 : Nat → Int64} (hq9 : DQ (qo q ob) 9) (hF : F ≤ 6) (hP12 : P ≤ 12) (f : Int32) (w : Int32): Met l yL_holder wsL_holder ({ frames := 8, cells := 1, slots := 6, locals := 129 } : Room) (va_Pc [.ref (q 0), .int f, .int w, .ref ob] (BL D ci cz cj q F P g ob f0)) (WQ (some (.int (nI (k_holder F P g f w)))) (LQ D cj ob (w0 ci cz q F P g) (k_holder F P g f w) ((sHol g P (ix f) (ix w)).toInt64)) (aw (qo q ob) 9)) 1 6 (aw (qo q ob) 9) := by
  refine Met.ofL (cc := cL_holder) (maxL := 5) (ret := (some .int)) (hh := [(0, 10, 13, 24), (0, 10, 17, 15)]) (by decide) rfl (Nat.le_of_ble_eq_true rfl) ?_
  intro pg en s m bl mt cd ls Fx hr hlocks htab hB hl
  obtain ⟨⟨hP, hK, hE⟩, hNC, hO⟩ := hB
  have hl : lv_has ls 5 [(0, .ref (q 0)), (1, .int f), (2, .int w), (3, .ref ob)] := hl
  have Fx : CallFix pg m cd cL_holder 5 s _ wsL_holder RL := Fx
  have hx := Fx.1
  have hb := Fx.2.1
  have hP : va_P D vwCl (w0 ci cz q F P g) s.heap := hP
  refine lv_aload_n hx hb dL_holder_0 rfl (lv_at hl 3 rfl) ?_
  refine lv_iconst (v := nI 0) hx hb dL_holder_1 (by decide) ?_
  refine lv_aload_n hx hb dL_holder_2 rfl (lv_at hl 0 rfl) ?_
  refine lv_iload_n hx hb dL_holder_3 rfl (lv_at hl 1 rfl) ?_
  refine lv_iload_n hx hb dL_holder_4 rfl (lv_at hl 2 rfl) ?_
  refine r_callT (A0 := aw (qo q ob) 9) (H0 := s.heap) (rest := [.int (nI 0), .ref ob]) Fx (m_X0_holder l hl0 (D := D) (ci := ci) (cz := cz) (cj := cj) (q := q) (F := F) (P := P) (g := g) (qo_q hq9) hF hP12 f w) (cwV 2 Fx.2.2.2.2 gL_holder_X0_holder rfl rfl rfl (by decide +kernel) ⟨Nat.le_of_ble_eq_true rfl, Nat.le_of_ble_eq_true rfl⟩) BW.bl (va_recv hK hP (ci := 0) (q0 := 0) rfl rfl) (BW.at hP hK hE va_S.rf) rfl hl.1 rfl (Nat.le_of_ble_eq_true rfl) dL_holder_5 ⟨Nat.le_of_ble_eq_true rfl, Nat.le_of_ble_eq_true rfl⟩ va_S.rf (fun _ h => aw_o h) (fun H locs hk0 hP hS hkp => ?_) (fun j E ce q9 H locs hj hxs hh hS hce hcv hcl => ?_)
  · have hO : va_P D vwCl (wo cj ob f0) H := P_stay hO hkp (wo_n hq9)
    refine lv_i2l hx hb dL_holder_8 rfl ?_
    refine r_last Fx hK rfl hP hO hq9 hS dL_holder_9 (fun H locs f1 hP hO hf1 hS => ?_)
    refine lv_goto (tgt := 21) hx hb dL_holder_10 (by decide) ?_
    refine lv_iconst (v := nI 0) hx hb dL_holder_21 (by decide) ?_
    exact l_iret hx hb hr hlocks hS ⟨hP, f1, hO, fun _ => hf1⟩ (congrArg nI hk0.symm) (Nat.le_refl _) (Nat.le_refl _) dL_holder_22
  · have hP : va_P D vwCl (w0 ci cz q F P g) H := P_all hP hh
    have hO : va_P D vwCl (wo cj ob f0) H := P_all hO hh
    rcases j with _ | _ | j
    · obtain rfl : xIO = E := Option.some.inj hxs
      refine l_catch (xs := [xIO, xIS]) 0 Fx hE hNC htab rfl rfl rfl (by decide +kernel) (by decide +kernel) (by decide +kernel) (by decide) hce hcv hcl ?_
      refine lv_astore (lv' := [(4, .ref q9), (0, .ref (q 0)), (1, .int f), (2, .int w), (3, .ref ob)]) hx hb dL_holder_13 hl (by decide) rfl (fun ls hl => ?_)
      refine lv_iconst (v := nI 1) hx hb dL_holder_15 (by decide) ?_
      exact l_iret hx hb hr hlocks hS ⟨hP, f0, hO, fun e => absurd (hj.symm.trans e) (by decide)⟩ (congrArg nI hj.symm) (Nat.le_refl _) (Nat.le_refl _) dL_holder_16
    · obtain rfl : xIS = E := Option.some.inj hxs
      refine l_catch (xs := [xIO, xIS]) 1 Fx hE hNC htab rfl rfl rfl (by decide +kernel) (by decide +kernel) (by decide +kernel) (by decide) hce hcv hcl ?_
      refine lv_astore (lv' := [(4, .ref q9), (0, .ref (q 0)), (1, .int f), (2, .int w), (3, .ref ob)]) hx hb dL_holder_17 hl (by decide) rfl (fun ls hl => ?_)
      refine lv_iconst (v := nI 2) hx hb dL_holder_19 (by decide) ?_
      exact l_iret hx hb hr hlocks hS ⟨hP, f0, hO, fun e => absurd (hj.symm.trans e) (by decide)⟩ (congrArg nI hj.symm) (Nat.le_refl _) (Nat.le_refl _) dL_holder_20
    · simp at hxs
theorem m_L_master (l : Launch) (hl0 : l.stackTraces = false) {D : va_G} {ci cz cj : ClassId} {q : Nat → Nat} {F P : Nat} {g : Nat → Nat → Int32} {ob : Nat} {f0 : Nat → Int64} (hq9 : DQ (qo q ob) 9) (hF : F ≤ 6) (hP12 : P ≤ 12) (f : Int32): Met l yL_master wsL_master ({ frames := 8, cells := 1, slots := 6, locals := 125 } : Room) (va_Pc [.ref (q 0), .int f, .ref ob] (BL D ci cz cj q F P g ob f0)) (WQ (some (.int (nI (k_master F P g f)))) (LQ D cj ob (w0 ci cz q F P g) (k_master F P g f) ((sMas g P (ix f)).toInt64)) (aw (qo q ob) 9)) 1 6 (aw (qo q ob) 9) := by
  refine Met.ofL (cc := cL_master) (maxL := 4) (ret := (some .int)) (hh := [(0, 9, 12, 24), (0, 9, 15, 15)]) (by decide) rfl (Nat.le_of_ble_eq_true rfl) ?_
  intro pg en s m bl mt cd ls Fx hr hlocks htab hB hl
  obtain ⟨⟨hP, hK, hE⟩, hNC, hO⟩ := hB
  have hl : lv_has ls 4 [(0, .ref (q 0)), (1, .int f), (2, .ref ob)] := hl
  have Fx : CallFix pg m cd cL_master 4 s _ wsL_master RL := Fx
  have hx := Fx.1
  have hb := Fx.2.1
  have hP : va_P D vwCl (w0 ci cz q F P g) s.heap := hP
  refine lv_aload_n hx hb dL_master_0 rfl (lv_at hl 2 rfl) ?_
  refine lv_iconst (v := nI 0) hx hb dL_master_1 (by decide) ?_
  refine lv_aload_n hx hb dL_master_2 rfl (lv_at hl 0 rfl) ?_
  refine lv_iload_n hx hb dL_master_3 rfl (lv_at hl 1 rfl) ?_
  refine r_callT (A0 := aw (qo q ob) 9) (H0 := s.heap) (rest := [.int (nI 0), .ref ob]) Fx (m_X0_master l hl0 (D := D) (ci := ci) (cz := cz) (cj := cj) (q := q) (F := F) (P := P) (g := g) (qo_q hq9) hF hP12 f) (cwV 1 Fx.2.2.2.2 gL_master_X0_master rfl rfl rfl (by decide +kernel) ⟨Nat.le_of_ble_eq_true rfl, Nat.le_of_ble_eq_true rfl⟩) BW.bl (va_recv hK hP (ci := 0) (q0 := 0) rfl rfl) (BW.at hP hK hE va_S.rf) rfl hl.1 rfl (Nat.le_of_ble_eq_true rfl) dL_master_4 ⟨Nat.le_of_ble_eq_true rfl, Nat.le_of_ble_eq_true rfl⟩ va_S.rf (fun _ h => aw_o h) (fun H locs hk0 hP hS hkp => ?_) (fun j E ce q9 H locs hj hxs hh hS hce hcv hcl => ?_)
  · have hO : va_P D vwCl (wo cj ob f0) H := P_stay hO hkp (wo_n hq9)
    refine lv_i2l hx hb dL_master_7 rfl ?_
    refine r_last Fx hK rfl hP hO hq9 hS dL_master_8 (fun H locs f1 hP hO hf1 hS => ?_)
    refine lv_goto (tgt := 18) hx hb dL_master_9 (by decide) ?_
    refine lv_iconst (v := nI 0) hx hb dL_master_18 (by decide) ?_
    exact l_iret hx hb hr hlocks hS ⟨hP, f1, hO, fun _ => hf1⟩ (congrArg nI hk0.symm) (Nat.le_refl _) (Nat.le_refl _) dL_master_19
  · have hP : va_P D vwCl (w0 ci cz q F P g) H := P_all hP hh
    have hO : va_P D vwCl (wo cj ob f0) H := P_all hO hh
    rcases j with _ | _ | j
    · obtain rfl : xIO = E := Option.some.inj hxs
      refine l_catch (xs := [xIO, xIS]) 0 Fx hE hNC htab rfl rfl rfl (by decide +kernel) (by decide +kernel) (by decide +kernel) (by decide) hce hcv hcl ?_
      refine lv_astore_n (lv' := [(3, .ref q9), (0, .ref (q 0)), (1, .int f), (2, .ref ob)]) hx hb dL_master_12 rfl hl (by decide) rfl (fun ls hl => ?_)
      refine lv_iconst (v := nI 1) hx hb dL_master_13 (by decide) ?_
      exact l_iret hx hb hr hlocks hS ⟨hP, f0, hO, fun e => absurd (hj.symm.trans e) (by decide)⟩ (congrArg nI hj.symm) (Nat.le_refl _) (Nat.le_refl _) dL_master_14
    · obtain rfl : xIS = E := Option.some.inj hxs
      refine l_catch (xs := [xIO, xIS]) 1 Fx hE hNC htab rfl rfl rfl (by decide +kernel) (by decide +kernel) (by decide +kernel) (by decide) hce hcv hcl ?_
      refine lv_astore_n (lv' := [(3, .ref q9), (0, .ref (q 0)), (1, .int f), (2, .ref ob)]) hx hb dL_master_15 rfl hl (by decide) rfl (fun ls hl => ?_)
      refine lv_iconst (v := nI 2) hx hb dL_master_16 (by decide) ?_
      exact l_iret hx hb hr hlocks hS ⟨hP, f0, hO, fun e => absurd (hj.symm.trans e) (by decide)⟩ (congrArg nI hj.symm) (Nat.le_refl _) (Nat.le_refl _) dL_master_17
    · simp at hxs
end LI
