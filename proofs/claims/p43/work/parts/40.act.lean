/-! PART 40: act, case by case. -/
section ACT
set_option maxHeartbeats 8000000 in
set_option maxRecDepth 100000 in
theorem ac_0 {pg : Program} {l : Launch} {en : Env} {s : State} {m : MethodId} {args : Array Value} {bl : List Frame} {mt : Method} {cd : Code} {ls : Array Slot} {D : va_G} {ci cz : ClassId} {cj : ClassId × ClassId} {q : Nat → Nat} {sz : Nat} {A : Nat → Nat} {F P : Nat} {g : Nat → Nat → Int32} {nn : Nat} {x : Int32} {f w k o n : Nat} (hl0 : l.stackTraces = false) (Fx : CallFix pg m cd cL_act 11 s args wsL_act RL) (hr : mt.sig.returnType = some .boolean) (hlocks : mt.locks = false) (htab : cd.exceptionTable.toList = tableOf [(96, 236, 889, 95), (237, 288, 889, 95), (289, 346, 889, 95), (347, 420, 889, 95), (421, 493, 889, 95), (494, 502, 889, 95), (503, 580, 889, 95), (581, 679, 889, 95), (680, 779, 889, 95), (780, 792, 889, 95), (793, 834, 889, 95), (835, 888, 889, 95)]) (hL : EL D ci cz cj sz s) (hq : DQ q 8) (hqs : ∀ k, k < 8 → sz ≤ q k) (hAD : AD q sz A F P) (hsz : sz ≤ s.heap.size) (hI : Ix nn F P g) (hnn : nn ≤ 900) (hP : va_P D vwCl (w0 ci cz q F P g) s.heap) (hQX : SS D ci cj A F P g s.heap) (hf : f < F) (hw : w < 4) (hk : k < P) (ho : o < P) (hn1 : 1 ≤ n) (hn2 : n ≤ 64) (hl : lv_has ls 11 [(0, .ref (q 0)), (1, .ref (A 0)), (2, .int x), (3, .int (nI f)), (4, .int (nI w)), (5, .int (nI k)), (6, .int (nI o)), (7, .int (nI n)), (8, .int (bI (lv g k)))]) : W pg l en ({ frames := 9, cells := 100, slots := 1300, locals := 153 } : Room) s m args bl mt cd s.heap [] 0 0 (MQ bl (MQv (fun v H => v = some (.int (bI true)) ∧ ∃ A' F' P' g', A' 0 = A 0 ∧ AD q sz A' F' P' ∧ Ix (nn + 1) F' P' g' ∧ F ≤ F' ∧ P ≤ P' ∧ LH D ci cz cj q A' F' P' g' H) (bg sz)) args s 100 1300 (bg sz)) (F0 m 176 ls []) := by
  have hx := Fx.1
  have hb := Fx.2.1
  obtain ⟨hK, hE, hNC⟩ := id hL
  have hO := hE.2.2.2.2
  have hFb := hI.b.1
  have hPb := hI.b.2
  have hin : ∀ w ∈ wsX10, w ∈ wsL_act := by decide +kernel
  have hS : va_S (bg sz) s.heap s.heap [] := va_S.rf
  have sabg : ∀ q9, SA A F P q9 → bg sz q9 := by
    rintro q9 ⟨j, hj, rfl⟩
    exact (hAD.2 j hj).1
  refine lv_aload_n hx hb dL_act_176 rfl (lv_at hl 1 rfl) ?_
  obtain ⟨T9, hR9, hQ⟩ := id hQX
  refine g_get Fx hin hK 1 hQ.o rfl 0 (by decide) (by decide +kernel) rfl dL_act_177 ?_
  obtain ⟨T9, hR9, hQ⟩ := id hQX
  refine g_alenI Fx hK hQ.to 0 rfl dL_act_180 ?_
  refine lv_bipush (v := nI 6) hx hb dL_act_181 (by decide) ?_
  refine n_icmp_ge (tgt := 190) hx hb (by omega) (by omega) dL_act_183 (by decide) (fun h1 => ?_) (fun h1 => ?_)
  · refine lv_iconst (v := nI 0) hx hb dL_act_190 (by decide) ?_
    refine lv_istore (lv' := [(8, .int (nI 0)), (0, .ref (q 0)), (1, .ref (A 0)), (2, .int x), (3, .int (nI f)), (4, .int (nI w)), (5, .int (nI k)), (6, .int (nI o)), (7, .int (nI n))]) hx hb dL_act_191 hl (by decide) rfl (fun ls hl => ?_)
    refine lv_iload hx hb dL_act_193 (lv_at hl 0 rfl) ?_
    refine n_if_eq (tgt := 207) hx hb (by omega) dL_act_195 (by decide) (fun h2 => ?_) (fun h2 => by omega)
    refine lv_aload_n hx hb dL_act_207 rfl (lv_at hl 1 rfl) ?_
    refine lv_iload hx hb dL_act_208 (lv_at hl 8 rfl) ?_
    refine lv_bipush (v := nI 21) hx hb dL_act_210 (by decide) ?_
    refine lv_irem hx hb dL_act_212 (by decide) ?_
    rw [rem_n (by omega) (by decide) (by decide)]
    have hK9 : k_addFerry F (nI (n % 21)) = 2 := by unfold k_addFerry; rw [if_pos ⟨nI_pos' (by omega), nI_le (by omega) (by omega)⟩, if_neg (by omega)]
    refine r_callT (rest := []) Fx (t_addFerry l hl0 (D := D) (ci := ci) (cz := cz) (cj := cj) (q := q) (F := F) (P := P) (g := g) hq (by omega) (by omega) (nI (n % 21))  ) (cwV 1 Fx.2.2.2.2 gL_act_X0_addFerry rfl rfl rfl (by decide +kernel) ⟨Nat.le_of_ble_eq_true rfl, Nat.le_of_ble_eq_true rfl⟩) BW.bl (va_recv hK hP (ci := 0) (q0 := 0) rfl rfl) (BWb hqs hP hL hS) rfl hl.1 rfl (Nat.le_of_ble_eq_true rfl) dL_act_213 ⟨by show _ ≤ 100; omega, by show _ ≤ 1300; omega⟩ hS (fun q9 h9 => bg_aw hqs q9 h9) (fun H locs hk0 _ _ _ => absurd (hK9.symm.trans hk0) (Nat.succ_ne_zero _)) (fun j E ce q9 H locs hj hxs hh hS hce hcv hcl => ?_)
    obtain rfl : j = 1 := by have := hK9.symm.trans hj; omega
    obtain rfl : xIS = E := Option.some.inj hxs
    have kp := KP.of hh
    have hQX : SS D ci cj A F P g H := hQX.mv kp (fun _ _ h9 => h9.elim)
    have hP : va_P D vwCl (w0 ci cz q F P g) H := P_all hP hh
    refine l_ise (i := 96) (n := 236) (b := 889) (k := 95) 0 Fx hE htab (by decide) (by decide +kernel) rfl (by decide) (by decide) hce hcv hcl ?_
    refine lv_astore (lv' := [(9, .ref q9), (8, .int (nI 0)), (0, .ref (q 0)), (1, .ref (A 0)), (2, .int x), (3, .int (nI f)), (4, .int (nI w)), (5, .int (nI k)), (6, .int (nI o)), (7, .int (nI n))]) hx hb dL_act_889 hl (by decide) rfl (fun ls hl => ?_)
    refine lv_iload hx hb dL_act_891 (lv_at hl 1 rfl) ?_
    refine n_if_ne (tgt := 900) hx hb (by omega) dL_act_893 (by decide) (fun h3 => by omega) (fun h3 => ?_)
    refine lv_iconst (v := nI 1) hx hb dL_act_896 (by decide) ?_
    refine lv_goto (tgt := 901) hx hb dL_act_897 (by decide) ?_
    exact m_zret (b := true) hx hb hr hlocks hS ⟨rfl, A, F, P, g, rfl, hAD, hI.mono (Nat.le_succ _), by omega, by omega, ⟨hP, hQX⟩⟩ (by omega) (by omega) dL_act_901
  · refine lv_iconst (v := nI 1) hx hb dL_act_186 (by decide) ?_
    refine lv_goto (tgt := 191) hx hb dL_act_187 (by decide) ?_
    refine lv_istore (lv' := [(8, .int (nI 1)), (0, .ref (q 0)), (1, .ref (A 0)), (2, .int x), (3, .int (nI f)), (4, .int (nI w)), (5, .int (nI k)), (6, .int (nI o)), (7, .int (nI n))]) hx hb dL_act_191 hl (by decide) rfl (fun ls hl => ?_)
    refine lv_iload hx hb dL_act_193 (lv_at hl 0 rfl) ?_
    refine n_if_eq (tgt := 207) hx hb (by omega) dL_act_195 (by decide) (fun h4 => by omega) (fun h4 => ?_)
    refine lv_aload_n hx hb dL_act_198 rfl (lv_at hl 2 rfl) ?_
    refine lv_iload hx hb dL_act_199 (lv_at hl 8 rfl) ?_
    refine lv_bipush (v := nI 21) hx hb dL_act_201 (by decide) ?_
    refine lv_irem hx hb dL_act_203 (by decide) ?_
    rw [rem_n (by omega) (by decide) (by decide)]
    have hz8 := Nat.le_trans hsz hS.1
    have hql := q_lt hP
    refine r_callM (rest := []) Fx (m_X1_addFerry l (D := D) (ci := ci) (cz := cz) (cj := cj) (A := A) (F := F) (P := P) (g := g) _ hz8 hql hAD (by omega) (by omega) (nI (n % 21)) (hI.c1 _ (Nat.le_refl _)) hI.iv) (cwV 1 Fx.2.2.2.2 gL_act_X1_addFerry rfl rfl rfl (by decide +kernel) ⟨Nat.le_of_ble_eq_true rfl, Nat.le_of_ble_eq_true rfl⟩) (fun U fr mk a h9 => ⟨h9.1, BX.bl U fr mk a h9.2⟩) (hQX.rc hK) (fun U hU hW => ⟨by rw [hU], BX.at hQX hK hO U hU hW⟩) rfl hl.1 rfl (Nat.le_of_ble_eq_true rfl) dL_act_204 ⟨by show _ ≤ 100; omega, by show _ ≤ 1300; omega⟩ hS (fun q9 h9 => bg_f hAD hz8 q9 h9) (fun v H locs hv kp hS => ?_)
    have hP : va_P D vwCl (w0 ci cz q F P g) H := w0_f hAD hP (Nat.le_refl _) kp
    obtain ⟨rfl, A', eA, hAD, hQX⟩ := hv
    rw [← eA] at hl
    have hQX : SS D ci cj A' (F + 1) P (gTol g F (nI (n % 21))) H := hQX
    refine lv_aload_n hx hb dL_act_207 rfl (lv_at hl 1 rfl) ?_
    refine lv_iload hx hb dL_act_208 (lv_at hl 8 rfl) ?_
    refine lv_bipush (v := nI 21) hx hb dL_act_210 (by decide) ?_
    refine lv_irem hx hb dL_act_212 (by decide) ?_
    rw [rem_n (by omega) (by decide) (by decide)]
    have hK9 : k_addFerry F (nI (n % 21)) = 0 := by unfold k_addFerry; rw [if_pos ⟨nI_pos' (by omega), nI_le (by omega) (by omega)⟩, if_pos (by omega)]
    refine r_callT (rest := []) Fx (t_addFerry l hl0 (D := D) (ci := ci) (cz := cz) (cj := cj) (q := q) (F := F) (P := P) (g := g) hq (by omega) (by omega) (nI (n % 21))  ) (cwV 1 Fx.2.2.2.2 gL_act_X0_addFerry rfl rfl rfl (by decide +kernel) ⟨Nat.le_of_ble_eq_true rfl, Nat.le_of_ble_eq_true rfl⟩) BW.bl (va_recv hK hP (ci := 0) (q0 := 0) rfl rfl) (BWb hqs hP hL hS) rfl hl.1 rfl (Nat.le_of_ble_eq_true rfl) dL_act_213 ⟨by show _ ≤ 100; omega, by show _ ≤ 1300; omega⟩ hS (fun q9 h9 => bg_aw hqs q9 h9) (fun H locs hk0 hP kp hS => ?_) (fun j E ce q9 H locs hj _ _ _ _ _ _ => absurd (hK9.symm.trans hj) (Nat.succ_ne_zero j).symm)
    have hQX : SS D ci cj A' (F + 1) P (gTol g F (nI (n % 21))) H := SS_m hAD hQX kp
    have hP : va_P D vwCl (w0 ci cz q (F + 1) P (gTol g F (nI (n % 21)))) H := hP
    refine lv_aload_n hx hb dL_act_216 rfl (lv_at hl 2 rfl) ?_
    obtain ⟨T9, hR9, hQ⟩ := id hQX
    refine g_get Fx hin hK 1 hQ.o rfl 0 (by decide) (by decide +kernel) rfl dL_act_217 ?_
    obtain ⟨T9, hR9, hQ⟩ := id hQX
    refine g_alenI Fx hK hQ.to 0 rfl dL_act_220 ?_
    refine lv_iconst (v := nI 1) hx hb dL_act_221 (by decide) ?_
    refine r_isub_n hx hb (by omega) dL_act_222 ?_
    refine n_icmp_ne (tgt := 235) hx hb (by omega) (by omega) dL_act_223 (by decide) (fun h5 => by omega) (fun h5 => ?_)
    refine lv_iload hx hb dL_act_226 (lv_at hl 0 rfl) ?_
    refine n_if_eq (tgt := 235) hx hb (by omega) dL_act_228 (by decide) (fun h6 => by omega) (fun h6 => ?_)
    refine lv_iconst (v := nI 1) hx hb dL_act_231 (by decide) ?_
    refine lv_goto (tgt := 236) hx hb dL_act_232 (by decide) ?_
    exact m_zret (b := true) hx hb hr hlocks hS ⟨rfl, A', F + 1, P, (gTol g F (nI (n % 21))), eA, hAD, (ix_ferry hI (by omega) (by rw [nI_toInt (by omega)]; omega) (by rw [nI_toInt (by omega)]; omega)).mono (Nat.le_succ _), by omega, by omega, ⟨hP, hQX⟩⟩ (by omega) (by omega) dL_act_236
set_option maxHeartbeats 8000000 in
set_option maxRecDepth 100000 in
theorem ac_1 {pg : Program} {l : Launch} {en : Env} {s : State} {m : MethodId} {args : Array Value} {bl : List Frame} {mt : Method} {cd : Code} {ls : Array Slot} {D : va_G} {ci cz : ClassId} {cj : ClassId × ClassId} {q : Nat → Nat} {sz : Nat} {A : Nat → Nat} {F P : Nat} {g : Nat → Nat → Int32} {nn : Nat} {x : Int32} {f w k o n : Nat} (hl0 : l.stackTraces = false) (Fx : CallFix pg m cd cL_act 11 s args wsL_act RL) (hr : mt.sig.returnType = some .boolean) (hlocks : mt.locks = false) (htab : cd.exceptionTable.toList = tableOf [(96, 236, 889, 95), (237, 288, 889, 95), (289, 346, 889, 95), (347, 420, 889, 95), (421, 493, 889, 95), (494, 502, 889, 95), (503, 580, 889, 95), (581, 679, 889, 95), (680, 779, 889, 95), (780, 792, 889, 95), (793, 834, 889, 95), (835, 888, 889, 95)]) (hL : EL D ci cz cj sz s) (hq : DQ q 8) (hqs : ∀ k, k < 8 → sz ≤ q k) (hAD : AD q sz A F P) (hsz : sz ≤ s.heap.size) (hI : Ix nn F P g) (hnn : nn ≤ 900) (hP : va_P D vwCl (w0 ci cz q F P g) s.heap) (hQX : SS D ci cj A F P g s.heap) (hf : f < F) (hw : w < 4) (hk : k < P) (ho : o < P) (hn1 : 1 ≤ n) (hn2 : n ≤ 64) (hl : lv_has ls 11 [(0, .ref (q 0)), (1, .ref (A 0)), (2, .int x), (3, .int (nI f)), (4, .int (nI w)), (5, .int (nI k)), (6, .int (nI o)), (7, .int (nI n)), (8, .int (bI (lv g k)))]) : W pg l en ({ frames := 9, cells := 100, slots := 1300, locals := 153 } : Room) s m args bl mt cd s.heap [] 0 0 (MQ bl (MQv (fun v H => v = some (.int (bI true)) ∧ ∃ A' F' P' g', A' 0 = A 0 ∧ AD q sz A' F' P' ∧ Ix (nn + 1) F' P' g' ∧ F ≤ F' ∧ P ≤ P' ∧ LH D ci cz cj q A' F' P' g' H) (bg sz)) args s 100 1300 (bg sz)) (F0 m 237 ls []) := by
  have hx := Fx.1
  have hb := Fx.2.1
  obtain ⟨hK, hE, hNC⟩ := id hL
  have hO := hE.2.2.2.2
  have hFb := hI.b.1
  have hPb := hI.b.2
  have hin : ∀ w ∈ wsX10, w ∈ wsL_act := by decide +kernel
  have hS : va_S (bg sz) s.heap s.heap [] := va_S.rf
  have sabg : ∀ q9, SA A F P q9 → bg sz q9 := by
    rintro q9 ⟨j, hj, rfl⟩
    exact (hAD.2 j hj).1
  refine lv_aload_n hx hb dL_act_237 rfl (lv_at hl 1 rfl) ?_
  obtain ⟨T9, hR9, hQ⟩ := id hQX
  refine g_get Fx hin hK 1 hQ.o rfl 3 (by decide) (by decide +kernel) rfl dL_act_238 ?_
  obtain ⟨T9, hR9, hQ⟩ := id hQX
  refine g_alenR Fx hK hQ.pe 2 rfl dL_act_241 ?_
  refine lv_bipush (v := nI 12) hx hb dL_act_242 (by decide) ?_
  refine n_icmp_ge (tgt := 251) hx hb (by omega) (by omega) dL_act_244 (by decide) (fun h1 => ?_) (fun h1 => ?_)
  · refine lv_iconst (v := nI 0) hx hb dL_act_251 (by decide) ?_
    refine lv_istore (lv' := [(8, .int (nI 0)), (0, .ref (q 0)), (1, .ref (A 0)), (2, .int x), (3, .int (nI f)), (4, .int (nI w)), (5, .int (nI k)), (6, .int (nI o)), (7, .int (nI n))]) hx hb dL_act_252 hl (by decide) rfl (fun ls hl => ?_)
    refine lv_iload hx hb dL_act_254 (lv_at hl 0 rfl) ?_
    refine n_if_eq (tgt := 264) hx hb (by omega) dL_act_256 (by decide) (fun h2 => ?_) (fun h2 => by omega)
    refine lv_aload_n hx hb dL_act_264 rfl (lv_at hl 1 rfl) ?_
    have hK9 : k_addPerson P = 1 := by unfold k_addPerson; rw [if_neg (by omega)]
    refine r_callT (rest := []) Fx (t_addPerson l hl0 (D := D) (ci := ci) (cz := cz) (cj := cj) (q := q) (F := F) (P := P) (g := g) hq (by omega) (by omega)   hI.p3) (cwV 0 Fx.2.2.2.2 gL_act_X0_addPerson rfl rfl rfl (by decide +kernel) ⟨Nat.le_of_ble_eq_true rfl, Nat.le_of_ble_eq_true rfl⟩) BW.bl (va_recv hK hP (ci := 0) (q0 := 0) rfl rfl) (BWb hqs hP hL hS) rfl hl.1 rfl (Nat.le_of_ble_eq_true rfl) dL_act_265 ⟨by show _ ≤ 100; omega, by show _ ≤ 1300; omega⟩ hS (fun q9 h9 => bg_aw hqs q9 h9) (fun H locs hk0 _ _ _ => absurd (hK9.symm.trans hk0) (Nat.succ_ne_zero _)) (fun j E ce q9 H locs hj hxs hh hS hce hcv hcl => ?_)
    obtain rfl : j = 0 := by have := hK9.symm.trans hj; omega
    obtain rfl : xIS = E := Option.some.inj hxs
    have kp := KP.of hh
    have hQX : SS D ci cj A F P g H := hQX.mv kp (fun _ _ h9 => h9.elim)
    have hP : va_P D vwCl (w0 ci cz q F P g) H := P_all hP hh
    refine l_ise (i := 237) (n := 288) (b := 889) (k := 95) 1 Fx hE htab (by decide) (by decide +kernel) rfl (by decide) (by decide) hce hcv hcl ?_
    refine lv_astore (lv' := [(9, .ref q9), (8, .int (nI 0)), (0, .ref (q 0)), (1, .ref (A 0)), (2, .int x), (3, .int (nI f)), (4, .int (nI w)), (5, .int (nI k)), (6, .int (nI o)), (7, .int (nI n))]) hx hb dL_act_889 hl (by decide) rfl (fun ls hl => ?_)
    refine lv_iload hx hb dL_act_891 (lv_at hl 1 rfl) ?_
    refine n_if_ne (tgt := 900) hx hb (by omega) dL_act_893 (by decide) (fun h3 => by omega) (fun h3 => ?_)
    refine lv_iconst (v := nI 1) hx hb dL_act_896 (by decide) ?_
    refine lv_goto (tgt := 901) hx hb dL_act_897 (by decide) ?_
    exact m_zret (b := true) hx hb hr hlocks hS ⟨rfl, A, F, P, g, rfl, hAD, hI.mono (Nat.le_succ _), by omega, by omega, ⟨hP, hQX⟩⟩ (by omega) (by omega) dL_act_901
  · refine lv_iconst (v := nI 1) hx hb dL_act_247 (by decide) ?_
    refine lv_goto (tgt := 252) hx hb dL_act_248 (by decide) ?_
    refine lv_istore (lv' := [(8, .int (nI 1)), (0, .ref (q 0)), (1, .ref (A 0)), (2, .int x), (3, .int (nI f)), (4, .int (nI w)), (5, .int (nI k)), (6, .int (nI o)), (7, .int (nI n))]) hx hb dL_act_252 hl (by decide) rfl (fun ls hl => ?_)
    refine lv_iload hx hb dL_act_254 (lv_at hl 0 rfl) ?_
    refine n_if_eq (tgt := 264) hx hb (by omega) dL_act_256 (by decide) (fun h4 => by omega) (fun h4 => ?_)
    refine lv_aload_n hx hb dL_act_259 rfl (lv_at hl 2 rfl) ?_
    refine lv_iconst (v := -1) hx hb dL_act_260 (by decide) ?_
    have hz8 := Nat.le_trans hsz hS.1
    have hql := q_lt hP
    refine r_callM (rest := []) Fx (m_X1_addPerson l (D := D) (ci := ci) (cz := cz) (cj := cj) (A := A) (F := F) (P := P) (g := g) _ hz8 hql hAD (by omega) (by omega) (-1) (hI.p3 _ (Nat.le_refl _)) (hI.c45 _ (Nat.le_refl _)).1 (hI.c45 _ (Nat.le_refl _)).2 hI.iv) (cwV 1 Fx.2.2.2.2 gL_act_X1_addPerson rfl rfl rfl (by decide +kernel) ⟨Nat.le_of_ble_eq_true rfl, Nat.le_of_ble_eq_true rfl⟩) (fun U fr mk a h9 => ⟨h9.1, BX.bl U fr mk a h9.2⟩) (hQX.rc hK) (fun U hU hW => ⟨by rw [hU], BX.at hQX hK hO U hU hW⟩) rfl hl.1 rfl (Nat.le_of_ble_eq_true rfl) dL_act_261 ⟨by show _ ≤ 100; omega, by show _ ≤ 1300; omega⟩ hS (fun q9 h9 => bg_f hAD hz8 q9 h9) (fun v H locs hv kp hS => ?_)
    have hP : va_P D vwCl (w0 ci cz q F P g) H := w0_f hAD hP (Nat.le_refl _) kp
    obtain ⟨rfl, A', eA, hAD, hQX⟩ := hv
    rw [← eA] at hl
    have hQX : SS D ci cj A' F (P + 1) (gPar g P (-1)) H := hQX
    refine lv_aload_n hx hb dL_act_264 rfl (lv_at hl 1 rfl) ?_
    have hK9 : k_addPerson P = 0 := by unfold k_addPerson; rw [if_pos (by omega)]
    refine r_callT (rest := []) Fx (t_addPerson l hl0 (D := D) (ci := ci) (cz := cz) (cj := cj) (q := q) (F := F) (P := P) (g := g) hq (by omega) (by omega)   hI.p3) (cwV 0 Fx.2.2.2.2 gL_act_X0_addPerson rfl rfl rfl (by decide +kernel) ⟨Nat.le_of_ble_eq_true rfl, Nat.le_of_ble_eq_true rfl⟩) BW.bl (va_recv hK hP (ci := 0) (q0 := 0) rfl rfl) (BWb hqs hP hL hS) rfl hl.1 rfl (Nat.le_of_ble_eq_true rfl) dL_act_265 ⟨by show _ ≤ 100; omega, by show _ ≤ 1300; omega⟩ hS (fun q9 h9 => bg_aw hqs q9 h9) (fun H locs hk0 hP kp hS => ?_) (fun j E ce q9 H locs hj _ _ _ _ _ _ => absurd (hK9.symm.trans hj) (Nat.succ_ne_zero j).symm)
    have hQX : SS D ci cj A' F (P + 1) (gPar g P (-1)) H := SS_m hAD hQX kp
    have hP : va_P D vwCl (w0 ci cz q F (P + 1) (gPar g P (-1))) H := hP
    refine lv_aload_n hx hb dL_act_268 rfl (lv_at hl 2 rfl) ?_
    obtain ⟨T9, hR9, hQ⟩ := id hQX
    refine g_get Fx hin hK 1 hQ.o rfl 3 (by decide) (by decide +kernel) rfl dL_act_269 ?_
    obtain ⟨T9, hR9, hQ⟩ := id hQX
    refine g_alenR Fx hK hQ.pe 2 rfl dL_act_272 ?_
    refine lv_iconst (v := nI 1) hx hb dL_act_273 (by decide) ?_
    refine r_isub_n hx hb (by omega) dL_act_274 ?_
    refine n_icmp_ne (tgt := 287) hx hb (by omega) (by omega) dL_act_275 (by decide) (fun h5 => by omega) (fun h5 => ?_)
    refine lv_iload hx hb dL_act_278 (lv_at hl 0 rfl) ?_
    refine n_if_eq (tgt := 287) hx hb (by omega) dL_act_280 (by decide) (fun h6 => by omega) (fun h6 => ?_)
    refine lv_iconst (v := nI 1) hx hb dL_act_283 (by decide) ?_
    refine lv_goto (tgt := 288) hx hb dL_act_284 (by decide) ?_
    exact m_zret (b := true) hx hb hr hlocks hS ⟨rfl, A', F, P + 1, (gPar g P (-1)), eA, hAD, (ix_person hI (by omega) (Or.inl rfl)).mono (Nat.le_succ _), by omega, by omega, ⟨hP, hQX⟩⟩ (by omega) (by omega) dL_act_288
set_option maxHeartbeats 8000000 in
set_option maxRecDepth 100000 in
theorem ac_2 {pg : Program} {l : Launch} {en : Env} {s : State} {m : MethodId} {args : Array Value} {bl : List Frame} {mt : Method} {cd : Code} {ls : Array Slot} {D : va_G} {ci cz : ClassId} {cj : ClassId × ClassId} {q : Nat → Nat} {sz : Nat} {A : Nat → Nat} {F P : Nat} {g : Nat → Nat → Int32} {nn : Nat} {x : Int32} {f w k o n : Nat} (hl0 : l.stackTraces = false) (Fx : CallFix pg m cd cL_act 11 s args wsL_act RL) (hr : mt.sig.returnType = some .boolean) (hlocks : mt.locks = false) (htab : cd.exceptionTable.toList = tableOf [(96, 236, 889, 95), (237, 288, 889, 95), (289, 346, 889, 95), (347, 420, 889, 95), (421, 493, 889, 95), (494, 502, 889, 95), (503, 580, 889, 95), (581, 679, 889, 95), (680, 779, 889, 95), (780, 792, 889, 95), (793, 834, 889, 95), (835, 888, 889, 95)]) (hL : EL D ci cz cj sz s) (hq : DQ q 8) (hqs : ∀ k, k < 8 → sz ≤ q k) (hAD : AD q sz A F P) (hsz : sz ≤ s.heap.size) (hI : Ix nn F P g) (hnn : nn ≤ 900) (hP : va_P D vwCl (w0 ci cz q F P g) s.heap) (hQX : SS D ci cj A F P g s.heap) (hf : f < F) (hw : w < 4) (hk : k < P) (ho : o < P) (hn1 : 1 ≤ n) (hn2 : n ≤ 64) (hl : lv_has ls 11 [(0, .ref (q 0)), (1, .ref (A 0)), (2, .int x), (3, .int (nI f)), (4, .int (nI w)), (5, .int (nI k)), (6, .int (nI o)), (7, .int (nI n)), (8, .int (bI (lv g k)))]) : W pg l en ({ frames := 9, cells := 100, slots := 1300, locals := 153 } : Room) s m args bl mt cd s.heap [] 0 0 (MQ bl (MQv (fun v H => v = some (.int (bI true)) ∧ ∃ A' F' P' g', A' 0 = A 0 ∧ AD q sz A' F' P' ∧ Ix (nn + 1) F' P' g' ∧ F ≤ F' ∧ P ≤ P' ∧ LH D ci cz cj q A' F' P' g' H) (bg sz)) args s 100 1300 (bg sz)) (F0 m 289 ls []) := by
  have hx := Fx.1
  have hb := Fx.2.1
  obtain ⟨hK, hE, hNC⟩ := id hL
  have hO := hE.2.2.2.2
  have hFb := hI.b.1
  have hPb := hI.b.2
  have hin : ∀ w ∈ wsX10, w ∈ wsL_act := by decide +kernel
  have hS : va_S (bg sz) s.heap s.heap [] := va_S.rf
  have sabg : ∀ q9, SA A F P q9 → bg sz q9 := by
    rintro q9 ⟨j, hj, rfl⟩
    exact (hAD.2 j hj).1
  refine lv_iload hx hb dL_act_289 (lv_at hl 8 rfl) ?_
  refine lv_aload_n hx hb dL_act_291 rfl (lv_at hl 1 rfl) ?_
  obtain ⟨T9, hR9, hQ⟩ := id hQX
  refine g_get Fx hin hK 1 hQ.o rfl 3 (by decide) (by decide +kernel) rfl dL_act_292 ?_
  obtain ⟨T9, hR9, hQ⟩ := id hQX
  refine g_alenR Fx hK hQ.pe 2 rfl dL_act_295 ?_
  refine lv_bipush (v := nI 12) hx hb dL_act_296 (by decide) ?_
  refine n_icmp_ge (tgt := 305) hx hb (by omega) (by omega) dL_act_298 (by decide) (fun h1 => ?_) (fun h1 => ?_)
  · refine lv_iconst (v := nI 0) hx hb dL_act_305 (by decide) ?_
    refine lv_iand hx hb dL_act_306 ?_
    rw [bI_a0]
    refine lv_istore (lv' := [(8, .int (nI 0)), (0, .ref (q 0)), (1, .ref (A 0)), (2, .int x), (3, .int (nI f)), (4, .int (nI w)), (5, .int (nI k)), (6, .int (nI o)), (7, .int (nI n))]) hx hb dL_act_307 hl (by decide) rfl (fun ls hl => ?_)
    refine lv_iload hx hb dL_act_309 (lv_at hl 0 rfl) ?_
    refine n_if_eq (tgt := 320) hx hb (by omega) dL_act_311 (by decide) (fun h2 => ?_) (fun h2 => by omega)
    refine lv_aload_n hx hb dL_act_320 rfl (lv_at hl 1 rfl) ?_
    refine lv_iload hx hb dL_act_321 (lv_at hl 6 rfl) ?_
    have hK9 : k_addChild P g (nI k) = 2 := by unfold k_addChild; rw [if_pos (inR_nI hk (by omega)), ix_nI (by omega)]; split; · rw [if_neg (by omega)]
        · rfl
    refine r_callT (rest := []) Fx (t_addChild l hl0 (D := D) (ci := ci) (cz := cz) (cj := cj) (q := q) (F := F) (P := P) (g := g) hq (by omega) (by omega) k (by omega) hI.p3) (cwV 1 Fx.2.2.2.2 gL_act_X0_addChild rfl rfl rfl (by decide +kernel) ⟨Nat.le_of_ble_eq_true rfl, Nat.le_of_ble_eq_true rfl⟩) BW.bl (va_recv hK hP (ci := 0) (q0 := 0) rfl rfl) (BWb hqs hP hL hS) rfl hl.1 rfl (Nat.le_of_ble_eq_true rfl) dL_act_323 ⟨by show _ ≤ 100; omega, by show _ ≤ 1300; omega⟩ hS (fun q9 h9 => bg_aw hqs q9 h9) (fun H locs hk0 _ _ _ => absurd (hK9.symm.trans hk0) (Nat.succ_ne_zero _)) (fun j E ce q9 H locs hj hxs hh hS hce hcv hcl => ?_)
    obtain rfl : j = 1 := by have := hK9.symm.trans hj; omega
    obtain rfl : xIS = E := Option.some.inj hxs
    have kp := KP.of hh
    have hQX : SS D ci cj A F P g H := hQX.mv kp (fun _ _ h9 => h9.elim)
    have hP : va_P D vwCl (w0 ci cz q F P g) H := P_all hP hh
    refine l_ise (i := 289) (n := 346) (b := 889) (k := 95) 2 Fx hE htab (by decide) (by decide +kernel) rfl (by decide) (by decide) hce hcv hcl ?_
    refine lv_astore (lv' := [(9, .ref q9), (8, .int (nI 0)), (0, .ref (q 0)), (1, .ref (A 0)), (2, .int x), (3, .int (nI f)), (4, .int (nI w)), (5, .int (nI k)), (6, .int (nI o)), (7, .int (nI n))]) hx hb dL_act_889 hl (by decide) rfl (fun ls hl => ?_)
    refine lv_iload hx hb dL_act_891 (lv_at hl 1 rfl) ?_
    refine n_if_ne (tgt := 900) hx hb (by omega) dL_act_893 (by decide) (fun h3 => by omega) (fun h3 => ?_)
    refine lv_iconst (v := nI 1) hx hb dL_act_896 (by decide) ?_
    refine lv_goto (tgt := 901) hx hb dL_act_897 (by decide) ?_
    exact m_zret (b := true) hx hb hr hlocks hS ⟨rfl, A, F, P, g, rfl, hAD, hI.mono (Nat.le_succ _), by omega, by omega, ⟨hP, hQX⟩⟩ (by omega) (by omega) dL_act_901
  · refine lv_iconst (v := nI 1) hx hb dL_act_301 (by decide) ?_
    refine lv_goto (tgt := 306) hx hb dL_act_302 (by decide) ?_
    refine lv_iand hx hb dL_act_306 ?_
    rw [bI_a1]
    refine lv_istore (lv' := [(8, .int (bI (lv g k))), (0, .ref (q 0)), (1, .ref (A 0)), (2, .int x), (3, .int (nI f)), (4, .int (nI w)), (5, .int (nI k)), (6, .int (nI o)), (7, .int (nI n))]) hx hb dL_act_307 hl (by decide) rfl (fun ls hl => ?_)
    refine lv_iload hx hb dL_act_309 (lv_at hl 0 rfl) ?_
    refine b_if_eq (tgt := 320) hx hb dL_act_311 (by decide) (fun h4 => ?_) (fun h4 => ?_)
    · rw [h4] at hl
      have hl : lv_has ls 11 [(8, .int (nI 0)), (0, .ref (q 0)), (1, .ref (A 0)), (2, .int x), (3, .int (nI f)), (4, .int (nI w)), (5, .int (nI k)), (6, .int (nI o)), (7, .int (nI n))] := hl
      refine lv_aload_n hx hb dL_act_320 rfl (lv_at hl 1 rfl) ?_
      refine lv_iload hx hb dL_act_321 (lv_at hl 6 rfl) ?_
      have hK9 : k_addChild P g (nI k) = 2 := by unfold k_addChild; rw [if_pos (inR_nI hk (by omega)), ix_nI (by omega)]; split; · rw [if_neg (by omega)]
        · rfl
      refine r_callT (rest := []) Fx (t_addChild l hl0 (D := D) (ci := ci) (cz := cz) (cj := cj) (q := q) (F := F) (P := P) (g := g) hq (by omega) (by omega) k (by omega) hI.p3) (cwV 1 Fx.2.2.2.2 gL_act_X0_addChild rfl rfl rfl (by decide +kernel) ⟨Nat.le_of_ble_eq_true rfl, Nat.le_of_ble_eq_true rfl⟩) BW.bl (va_recv hK hP (ci := 0) (q0 := 0) rfl rfl) (BWb hqs hP hL hS) rfl hl.1 rfl (Nat.le_of_ble_eq_true rfl) dL_act_323 ⟨by show _ ≤ 100; omega, by show _ ≤ 1300; omega⟩ hS (fun q9 h9 => bg_aw hqs q9 h9) (fun H locs hk0 _ _ _ => absurd (hK9.symm.trans hk0) (Nat.succ_ne_zero _)) (fun j E ce q9 H locs hj hxs hh hS hce hcv hcl => ?_)
      obtain rfl : j = 1 := by have := hK9.symm.trans hj; omega
      obtain rfl : xIS = E := Option.some.inj hxs
      have kp := KP.of hh
      have hQX : SS D ci cj A F P g H := hQX.mv kp (fun _ _ h9 => h9.elim)
      have hP : va_P D vwCl (w0 ci cz q F P g) H := P_all hP hh
      refine l_ise (i := 289) (n := 346) (b := 889) (k := 95) 2 Fx hE htab (by decide) (by decide +kernel) rfl (by decide) (by decide) hce hcv hcl ?_
      refine lv_astore (lv' := [(9, .ref q9), (8, .int (nI 0)), (0, .ref (q 0)), (1, .ref (A 0)), (2, .int x), (3, .int (nI f)), (4, .int (nI w)), (5, .int (nI k)), (6, .int (nI o)), (7, .int (nI n))]) hx hb dL_act_889 hl (by decide) rfl (fun ls hl => ?_)
      refine lv_iload hx hb dL_act_891 (lv_at hl 1 rfl) ?_
      refine n_if_ne (tgt := 900) hx hb (by omega) dL_act_893 (by decide) (fun h5 => by omega) (fun h5 => ?_)
      refine lv_iconst (v := nI 1) hx hb dL_act_896 (by decide) ?_
      refine lv_goto (tgt := 901) hx hb dL_act_897 (by decide) ?_
      exact m_zret (b := true) hx hb hr hlocks hS ⟨rfl, A, F, P, g, rfl, hAD, hI.mono (Nat.le_succ _), by omega, by omega, ⟨hP, hQX⟩⟩ (by omega) (by omega) dL_act_901
    · rw [h4] at hl
      have hl : lv_has ls 11 [(8, .int (nI 1)), (0, .ref (q 0)), (1, .ref (A 0)), (2, .int x), (3, .int (nI f)), (4, .int (nI w)), (5, .int (nI k)), (6, .int (nI o)), (7, .int (nI n))] := hl
      refine lv_aload_n hx hb dL_act_314 rfl (lv_at hl 2 rfl) ?_
      refine lv_iload hx hb dL_act_315 (lv_at hl 6 rfl) ?_
      have hz8 := Nat.le_trans hsz hS.1
      have hql := q_lt hP
      refine r_callM (rest := []) Fx (m_X1_addPerson l (D := D) (ci := ci) (cz := cz) (cj := cj) (A := A) (F := F) (P := P) (g := g) _ hz8 hql hAD (by omega) (by omega) (nI k) (hI.p3 _ (Nat.le_refl _)) (hI.c45 _ (Nat.le_refl _)).1 (hI.c45 _ (Nat.le_refl _)).2 hI.iv) (cwV 1 Fx.2.2.2.2 gL_act_X1_addPerson rfl rfl rfl (by decide +kernel) ⟨Nat.le_of_ble_eq_true rfl, Nat.le_of_ble_eq_true rfl⟩) (fun U fr mk a h9 => ⟨h9.1, BX.bl U fr mk a h9.2⟩) (hQX.rc hK) (fun U hU hW => ⟨by rw [hU], BX.at hQX hK hO U hU hW⟩) rfl hl.1 rfl (Nat.le_of_ble_eq_true rfl) dL_act_317 ⟨by show _ ≤ 100; omega, by show _ ≤ 1300; omega⟩ hS (fun q9 h9 => bg_f hAD hz8 q9 h9) (fun v H locs hv kp hS => ?_)
      have hP : va_P D vwCl (w0 ci cz q F P g) H := w0_f hAD hP (Nat.le_refl _) kp
      obtain ⟨rfl, A', eA, hAD, hQX⟩ := hv
      rw [← eA] at hl
      have hQX : SS D ci cj A' F (P + 1) (gPar g P (nI k)) H := hQX
      refine lv_aload_n hx hb dL_act_320 rfl (lv_at hl 1 rfl) ?_
      refine lv_iload hx hb dL_act_321 (lv_at hl 6 rfl) ?_
      have hK9 : k_addChild P g (nI k) = 0 := by unfold k_addChild; rw [if_pos (inR_nI hk (by omega)), ix_nI (by omega), if_pos h4, if_pos (by omega)]
      refine r_callT (rest := []) Fx (t_addChild l hl0 (D := D) (ci := ci) (cz := cz) (cj := cj) (q := q) (F := F) (P := P) (g := g) hq (by omega) (by omega) k (by omega) hI.p3) (cwV 1 Fx.2.2.2.2 gL_act_X0_addChild rfl rfl rfl (by decide +kernel) ⟨Nat.le_of_ble_eq_true rfl, Nat.le_of_ble_eq_true rfl⟩) BW.bl (va_recv hK hP (ci := 0) (q0 := 0) rfl rfl) (BWb hqs hP hL hS) rfl hl.1 rfl (Nat.le_of_ble_eq_true rfl) dL_act_323 ⟨by show _ ≤ 100; omega, by show _ ≤ 1300; omega⟩ hS (fun q9 h9 => bg_aw hqs q9 h9) (fun H locs hk0 hP kp hS => ?_) (fun j E ce q9 H locs hj _ _ _ _ _ _ => absurd (hK9.symm.trans hj) (Nat.succ_ne_zero j).symm)
      have hQX : SS D ci cj A' F (P + 1) (gPar g P (nI k)) H := SS_m hAD hQX kp
      have hP : va_P D vwCl (w0 ci cz q F (P + 1) (gPar g P (nI k))) H := hP
      refine lv_aload_n hx hb dL_act_326 rfl (lv_at hl 2 rfl) ?_
      obtain ⟨T9, hR9, hQ⟩ := id hQX
      refine g_get Fx hin hK 1 hQ.o rfl 3 (by decide) (by decide +kernel) rfl dL_act_327 ?_
      obtain ⟨T9, hR9, hQ⟩ := id hQX
      refine g_alenR Fx hK hQ.pe 2 rfl dL_act_330 ?_
      refine lv_iconst (v := nI 1) hx hb dL_act_331 (by decide) ?_
      refine r_isub_n hx hb (by omega) dL_act_332 ?_
      refine n_icmp_ne (tgt := 345) hx hb (by omega) (by omega) dL_act_333 (by decide) (fun h6 => by omega) (fun h6 => ?_)
      refine lv_iload hx hb dL_act_336 (lv_at hl 0 rfl) ?_
      refine n_if_eq (tgt := 345) hx hb (by omega) dL_act_338 (by decide) (fun h7 => by omega) (fun h7 => ?_)
      refine lv_iconst (v := nI 1) hx hb dL_act_341 (by decide) ?_
      refine lv_goto (tgt := 346) hx hb dL_act_342 (by decide) ?_
      exact m_zret (b := true) hx hb hr hlocks hS ⟨rfl, A', F, P + 1, (gPar g P (nI k)), eA, hAD, (ix_person hI (by omega) (Or.inr ⟨k, hk, rfl⟩)).mono (Nat.le_succ _), by omega, by omega, ⟨hP, hQX⟩⟩ (by omega) (by omega) dL_act_346
set_option maxHeartbeats 8000000 in
set_option maxRecDepth 100000 in
theorem ac_4 {pg : Program} {l : Launch} {en : Env} {s : State} {m : MethodId} {args : Array Value} {bl : List Frame} {mt : Method} {cd : Code} {ls : Array Slot} {D : va_G} {ci cz : ClassId} {cj : ClassId × ClassId} {q : Nat → Nat} {sz : Nat} {A : Nat → Nat} {F P : Nat} {g : Nat → Nat → Int32} {nn : Nat} {x : Int32} {f w k o n : Nat} (hl0 : l.stackTraces = false) (Fx : CallFix pg m cd cL_act 11 s args wsL_act RL) (hr : mt.sig.returnType = some .boolean) (hlocks : mt.locks = false) (htab : cd.exceptionTable.toList = tableOf [(96, 236, 889, 95), (237, 288, 889, 95), (289, 346, 889, 95), (347, 420, 889, 95), (421, 493, 889, 95), (494, 502, 889, 95), (503, 580, 889, 95), (581, 679, 889, 95), (680, 779, 889, 95), (780, 792, 889, 95), (793, 834, 889, 95), (835, 888, 889, 95)]) (hL : EL D ci cz cj sz s) (hq : DQ q 8) (hqs : ∀ k, k < 8 → sz ≤ q k) (hAD : AD q sz A F P) (hsz : sz ≤ s.heap.size) (hI : Ix nn F P g) (hnn : nn ≤ 900) (hP : va_P D vwCl (w0 ci cz q F P g) s.heap) (hQX : SS D ci cj A F P g s.heap) (hf : f < F) (hw : w < 4) (hk : k < P) (ho : o < P) (hn1 : 1 ≤ n) (hn2 : n ≤ 64) (hl : lv_has ls 11 [(0, .ref (q 0)), (1, .ref (A 0)), (2, .int x), (3, .int (nI f)), (4, .int (nI w)), (5, .int (nI k)), (6, .int (nI o)), (7, .int (nI n)), (8, .int (bI (lv g k)))]) : W pg l en ({ frames := 9, cells := 100, slots := 1300, locals := 153 } : Room) s m args bl mt cd s.heap [] 0 0 (MQ bl (MQv (fun v H => v = some (.int (bI true)) ∧ ∃ A' F' P' g', A' 0 = A 0 ∧ AD q sz A' F' P' ∧ Ix (nn + 1) F' P' g' ∧ F ≤ F' ∧ P ≤ P' ∧ LH D ci cz cj q A' F' P' g' H) (bg sz)) args s 100 1300 (bg sz)) (F0 m 347 ls []) := by
  have hx := Fx.1
  have hb := Fx.2.1
  obtain ⟨hK, hE, hNC⟩ := id hL
  have hO := hE.2.2.2.2
  have hFb := hI.b.1
  have hPb := hI.b.2
  have hin : ∀ w ∈ wsX10, w ∈ wsL_act := by decide +kernel
  have hS : va_S (bg sz) s.heap s.heap [] := va_S.rf
  have sabg : ∀ q9, SA A F P q9 → bg sz q9 := by
    rintro q9 ⟨j, hj, rfl⟩
    exact (hAD.2 j hj).1
  refine lv_iconst (v := nI 1) hx hb dL_act_347 (by decide) ?_
  refine lv_iload_n hx hb dL_act_348 rfl (lv_at hl 2 rfl) ?_
  refine lv_bipush (v := nI 7) hx hb dL_act_349 (by decide) ?_
  refine lv_ishr hx hb dL_act_351 ?_
  refine lv_iload_n hx hb dL_act_352 rfl (lv_at hl 2 rfl) ?_
  refine lv_iconst (v := nI 5) hx hb dL_act_353 (by decide) ?_
  refine lv_ishr hx hb dL_act_354 ?_
  refine lv_iconst (v := nI 4) hx hb dL_act_355 (by decide) ?_
  refine r_callRS (rest := [.int (x >>> ((nI 7) &&& 31)), .int (nI 1)]) Fx (m_L_below l (x >>> ((nI 5) &&& 31)) 4 (by omega) (by omega)) (va_cwS 2 Fx.2.2.2.2 gL_act_L_below rfl rfl rfl (by decide +kernel) ⟨Nat.le_of_ble_eq_true rfl, Nat.le_of_ble_eq_true rfl⟩) (fun _ _ _ _ h => h) (fun _ _ _ => trivial) rfl hl.1 rfl (Nat.le_of_ble_eq_true rfl) dL_act_356 ⟨by show _ ≤ 100; omega, by show _ ≤ 1300; omega⟩ ?_
  obtain ⟨z, hz, ez⟩ : ∃ j, j < 4 ∧ bw (x >>> ((nI 5) &&& 31)) 4 = j := ⟨_, bw_lt (by omega), rfl⟩
  rw [ez]
  refine r_selS hx hb (by omega) rfl rfl dL_act_359 dL_act_362 dL_act_365 dL_act_368 (fun M hM => ?_)
  refine r_callRS (rest := [.int (nI 1)]) Fx (m_L_below l (x >>> ((nI 7) &&& 31)) M (by omega) (by omega)) (va_cwS 2 Fx.2.2.2.2 gL_act_L_below rfl rfl rfl (by decide +kernel) ⟨Nat.le_of_ble_eq_true rfl, Nat.le_of_ble_eq_true rfl⟩) (fun _ _ _ _ h => h) (fun _ _ _ => trivial) rfl hl.1 rfl (Nat.le_of_ble_eq_true rfl) dL_act_371 ⟨by show _ ≤ 100; omega, by show _ ≤ 1300; omega⟩ ?_
  obtain ⟨c0, hc0, ec0⟩ : ∃ j, j < M ∧ bw (x >>> ((nI 7) &&& 31)) M = j := ⟨_, bw_lt (by omega), rfl⟩
  rw [ec0]
  refine r_iadd_n hx hb dL_act_374 ?_
  refine lv_istore (lv' := [(9, .int (nI (1 + c0))), (0, .ref (q 0)), (1, .ref (A 0)), (2, .int x), (3, .int (nI f)), (4, .int (nI w)), (5, .int (nI k)), (6, .int (nI o)), (7, .int (nI n)), (8, .int (bI (lv g k)))]) hx hb dL_act_375 hl (by decide) rfl (fun ls hl => ?_)
  refine lv_iload hx hb dL_act_377 (lv_at hl 9 rfl) ?_
  refine b_if_eq (tgt := 390) hx hb dL_act_379 (by decide) (fun h1 => ?_) (fun h1 => ?_)
  · rw [h1] at hl
    have hl : lv_has ls 11 [(9, .int (nI (1 + c0))), (0, .ref (q 0)), (1, .ref (A 0)), (2, .int x), (3, .int (nI f)), (4, .int (nI w)), (5, .int (nI k)), (6, .int (nI o)), (7, .int (nI n)), (8, .int (nI 0))] := hl
    refine lv_aload_n hx hb dL_act_390 rfl (lv_at hl 1 rfl) ?_
    refine lv_iload hx hb dL_act_391 (lv_at hl 6 rfl) ?_
    refine lv_iload hx hb dL_act_393 (lv_at hl 0 rfl) ?_
    have hK9 : k_pay P g (nI k) (nI (1 + c0)) = 3 := by unfold k_pay; rw [if_pos (inR_nI hk (by omega)), if_pos ⟨nI_le (by omega) (by omega), nI_le (by omega) (by omega)⟩, ix_nI (by omega), if_neg (by rw [h1]; decide)]
    refine r_callT (rest := []) Fx (t_pay l hl0 (D := D) (ci := ci) (cz := cz) (cj := cj) (q := q) (F := F) (P := P) (g := g) hq (by omega) (by omega) k (nI (1 + c0)) (by omega) ) (cwV 2 Fx.2.2.2.2 gL_act_X0_pay rfl rfl rfl (by decide +kernel) ⟨Nat.le_of_ble_eq_true rfl, Nat.le_of_ble_eq_true rfl⟩) BW.bl (va_recv hK hP (ci := 0) (q0 := 0) rfl rfl) (BWb hqs hP hL hS) rfl hl.1 rfl (Nat.le_of_ble_eq_true rfl) dL_act_395 ⟨by show _ ≤ 100; omega, by show _ ≤ 1300; omega⟩ hS (fun q9 h9 => bg_aw hqs q9 h9) (fun H locs hk0 _ _ _ => absurd (hK9.symm.trans hk0) (Nat.succ_ne_zero _)) (fun j E ce q9 H locs hj hxs hh hS hce hcv hcl => ?_)
    obtain rfl : j = 2 := by have := hK9.symm.trans hj; omega
    obtain rfl : xIS = E := Option.some.inj hxs
    have kp := KP.of hh
    have hQX : SS D ci cj A F P g H := hQX.mv kp (fun _ _ h9 => h9.elim)
    have hP : va_P D vwCl (w0 ci cz q F P g) H := P_all hP hh
    refine l_ise (i := 347) (n := 420) (b := 889) (k := 95) 3 Fx hE htab (by decide) (by decide +kernel) rfl (by decide) (by decide) hce hcv hcl ?_
    refine lv_astore (lv' := [(9, .ref q9), (0, .ref (q 0)), (1, .ref (A 0)), (2, .int x), (3, .int (nI f)), (4, .int (nI w)), (5, .int (nI k)), (6, .int (nI o)), (7, .int (nI n)), (8, .int (nI 0))]) hx hb dL_act_889 hl (by decide) rfl (fun ls hl => ?_)
    refine lv_iload hx hb dL_act_891 (lv_at hl 9 rfl) ?_
    refine n_if_ne (tgt := 900) hx hb (by omega) dL_act_893 (by decide) (fun h2 => by omega) (fun h2 => ?_)
    refine lv_iconst (v := nI 1) hx hb dL_act_896 (by decide) ?_
    refine lv_goto (tgt := 901) hx hb dL_act_897 (by decide) ?_
    exact m_zret (b := true) hx hb hr hlocks hS ⟨rfl, A, F, P, g, rfl, hAD, hI.mono (Nat.le_succ _), by omega, by omega, ⟨hP, hQX⟩⟩ (by omega) (by omega) dL_act_901
  · rw [h1] at hl
    have hl : lv_has ls 11 [(9, .int (nI (1 + c0))), (0, .ref (q 0)), (1, .ref (A 0)), (2, .int x), (3, .int (nI f)), (4, .int (nI w)), (5, .int (nI k)), (6, .int (nI o)), (7, .int (nI n)), (8, .int (nI 1))] := hl
    refine lv_aload_n hx hb dL_act_382 rfl (lv_at hl 2 rfl) ?_
    refine lv_iload hx hb dL_act_383 (lv_at hl 6 rfl) ?_
    refine lv_iload hx hb dL_act_385 (lv_at hl 0 rfl) ?_
    refine r_callW (rest := []) Fx (m_X1_get l (D := D) (ci := ci) (cz := cz) (cj := cj) (A := A) (F := F) (P := P) (g := g) (by omega) (by omega) k (nI (1 + c0)) (by omega) hAD.1) (cwV 2 Fx.2.2.2.2 gL_act_X1_get rfl rfl rfl (by decide +kernel) ⟨Nat.le_of_ble_eq_true rfl, Nat.le_of_ble_eq_true rfl⟩) BX.bl (hQX.rc hK) (BX.at hQX hK hO) rfl hl.1 rfl (Nat.le_of_ble_eq_true rfl) dL_act_387 ⟨by show _ ≤ 100; omega, by show _ ≤ 1300; omega⟩ hS (fun q9 h9 => sabg q9 h9) (fun H locs hQ9 hS hsz9 hk9 => ?_)
    have kp : KP (SA A F P) _ H := ⟨hsz9, hk9⟩
    have hQX : SS D ci cj A F P (gGet g k (nI (1 + c0))) H := hQ9
    have hP : va_P D vwCl (w0 ci cz q F P g) H := w0_s hAD hP kp
    refine lv_aload_n hx hb dL_act_390 rfl (lv_at hl 1 rfl) ?_
    refine lv_iload hx hb dL_act_391 (lv_at hl 6 rfl) ?_
    refine lv_iload hx hb dL_act_393 (lv_at hl 0 rfl) ?_
    have hK9 : k_pay P g (nI k) (nI (1 + c0)) = 0 := by unfold k_pay; rw [if_pos (inR_nI hk (by omega)), if_pos ⟨nI_le (by omega) (by omega), nI_le (by omega) (by omega)⟩, ix_nI (by omega), if_pos h1]
    refine r_callT (rest := []) Fx (t_pay l hl0 (D := D) (ci := ci) (cz := cz) (cj := cj) (q := q) (F := F) (P := P) (g := g) hq (by omega) (by omega) k (nI (1 + c0)) (by omega) ) (cwV 2 Fx.2.2.2.2 gL_act_X0_pay rfl rfl rfl (by decide +kernel) ⟨Nat.le_of_ble_eq_true rfl, Nat.le_of_ble_eq_true rfl⟩) BW.bl (va_recv hK hP (ci := 0) (q0 := 0) rfl rfl) (BWb hqs hP hL hS) rfl hl.1 rfl (Nat.le_of_ble_eq_true rfl) dL_act_395 ⟨by show _ ≤ 100; omega, by show _ ≤ 1300; omega⟩ hS (fun q9 h9 => bg_aw hqs q9 h9) (fun H locs hk0 hP kp hS => ?_) (fun j E ce q9 H locs hj _ _ _ _ _ _ => absurd (hK9.symm.trans hj) (Nat.succ_ne_zero j).symm)
    have hQX : SS D ci cj A F P (gGet g k (nI (1 + c0))) H := SS_m hAD hQX kp
    have hP : va_P D vwCl (w0 ci cz q F P (gGet g k (nI (1 + c0)))) H := hP
    refine lv_aload_n hx hb dL_act_398 rfl (lv_at hl 2 rfl) ?_
    obtain ⟨T9, hR9, hQ⟩ := id hQX
    refine g_get Fx hin hK 1 hQ.o rfl 3 (by decide) (by decide +kernel) rfl dL_act_399 ?_
    refine lv_iload hx hb dL_act_402 (lv_at hl 6 rfl) ?_
    obtain ⟨T9, hR9, hQ⟩ := id hQX
    refine g_aald Fx hK hQ.pe 2 rfl rfl (i := k) (by omega) (by omega) rfl dL_act_404 ?_
    refine lv_iconst (v := nI 0) hx hb dL_act_405 (by decide) ?_
    obtain ⟨T9, hR9, hQ⟩ := id hQX
    refine g_iald Fx hK (hQ.pp (k := k) (by omega)) 0 rfl (i := 0) (by decide) (by decide) dL_act_406 ?_
    refine r_as ((gGet g k (nI (1 + c0))) 4 k) rfl ?_
    refine lv_icmp_ne (tgt := 419) hx hb dL_act_407 (by decide) (fun h3 => absurd (by simp [gGet, va_up, upd]) h3) (fun h3 => ?_)
    refine lv_iload hx hb dL_act_410 (lv_at hl 9 rfl) ?_
    refine n_if_eq (tgt := 419) hx hb (by omega) dL_act_412 (by decide) (fun h4 => by omega) (fun h4 => ?_)
    refine lv_iconst (v := nI 1) hx hb dL_act_415 (by decide) ?_
    refine lv_goto (tgt := 420) hx hb dL_act_416 (by decide) ?_
    exact m_zret (b := true) hx hb hr hlocks hS ⟨rfl, A, F, P, (gGet g k (nI (1 + c0))), rfl, hAD, (ix_get hI hk (by rw [nI_toInt (by omega)]; omega) (by rw [nI_toInt (by omega)]; omega) h1).mono (Nat.le_succ _), by omega, by omega, ⟨hP, hQX⟩⟩ (by omega) (by omega) dL_act_420
end ACT
