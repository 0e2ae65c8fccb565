/-! PART 40: act, case by case. -/
section ACT
set_option maxHeartbeats 8000000 in
set_option maxRecDepth 100000 in
theorem ac_0 {pg : Program} {l : Launch} {en : Env} {s : State} {m : MethodId} {args : Array Value} {bl : List Frame} {mt : Method} {cd : Code} {ls : Array Slot} {D : va_G} {ci cz : ClassId} {cj : ClassId × ClassId} {q : Nat → Nat} {sz : Nat} {A : Nat → Nat} {F P : Nat} {g : Nat → Nat → Int32} {nn : Nat} {x : Int32} {f w k o n : Nat} (hl0 : l.stackTraces = false) (Fx : CallFix pg m cd cL_act 11 s args wsL_act RL) (hr : mt.sig.returnType = some .boolean) (hlocks : mt.locks = false) (htab : cd.exceptionTable.toList = tableOf [(96, 236, 889, 95), (237, 288, 889, 95), (289, 346, 889, 95), (347, 420, 889, 95), (421, 493, 889, 95), (494, 502, 889, 95), (503, 580, 889, 95), (581, 679, 889, 95), (680, 779, 889, 95), (780, 792, 889, 95), (793, 834, 889, 95), (835, 888, 889, 95)]) (hL : EL D ci cz cj sz s) (hq : DQ q 8) (hqs : ∀ k, k < 8 → sz ≤ q k) (hAD : AD q sz A F P) (hsz : sz ≤ s.heap.size) (hI : Ix nn F P g) (hnn : nn ≤ 900) (hP : va_P D vwCl (w0 ci cz q F P g) s.heap) (hQX : SS D ci cj A F P g s.heap) (hf : f < F) (hw : w < 4) (hk : k < P) (ho : o < P) (hn1 : 1 ≤ n) (hn2 : n ≤ 64) (hl : lv_has ls 11 [(0, .ref (q 0)), (1, .ref (A 0)), (2, .int x), (3, .int (nI f)), (4, .int (nI w)), (5, .int (nI k)), (6, .int (nI o)), (7, .int (nI n)), (8, .int (bI (lv g k)))]) : W pg l en ({ frames := 9, cells := 100, slots := 1300, locals := 153 } : Room) s m args bl mt cd s.heap [] 0 0 (MQ bl (MQv (fun v H => v = some (.int (bI true)) ∧ ∃ A' F' P' g', A' 0 = A 0 ∧ AD q sz A' F' P' ∧ Ix (nn + 1) F' P' g' ∧ F ≤ F' ∧ P ≤ P' ∧ LH D ci cz cj q A' F' P' g' H) (bg sz)) args s 100 1300 (bg sz)) (F0 m 176 ls []) := by
  have hx := Fx.1
  have hb := Fx.2.1
  obtain ⟨hK, hE, hNC⟩ := id hL
  have hO := hE.2.2.2.2
  have hFb := hI.b.1
  have hPb := hI.b.2
  have hin : ∀ w ∈ wsX10, w ∈ wsL_act := by decide +kernel
  have hS : va_S (bg sz) s.heap s.heap [] := va_S.rf
  have sabg : ∀ q9, SA A F P q9 → bg sz q9 := by
    rintro q9 ⟨j, hj, rfl⟩
    exact (hAD.2 j hj).1
  refine lv_aload_n hx hb dL_act_176 rfl (lv_at hl 1 rfl) ?_
  obtain ⟨T9, hR9, hQ⟩ := id hQX
  refine g_get Fx hin hK 1 hQ.o rfl 0 (by decide) (by decide +kernel) rfl dL_act_177 ?_
  obtain ⟨T9, hR9, hQ⟩ := id hQX
  refine g_alenI Fx hK hQ.to 0 rfl dL_act_180 ?_
  refine lv_bipush (v := nI 6) hx hb dL_act_181 (by decide) ?_
  refine n_icmp_ge (tgt := 190) hx hb (by omega) (by omega) dL_act_183 (by decide) (fun h1 => ?_) (fun h1 => ?_)
  · refine lv_iconst (v := nI 0) hx hb dL_act_190 (by decide) ?_
    refine lv_istore (lv' := [(8, .int (nI 0)), (0, .ref (q 0)), (1, .ref (A 0)), (2, .int x), (3, .int (nI f)), (4, .int (nI w)), (5, .int (nI k)), (6, .int (nI o)), (7, .int (nI n))]) hx hb dL_act_191 hl (by decide) rfl (fun ls hl => ?_)
    refine lv_iload hx hb dL_act_193 (lv_at hl 0 rfl) ?_
    refine n_if_eq (tgt := 207) hx hb (by omega) dL_act_195 (by decide) (fun h2 => ?_) (fun h2 => by omega)
    refine lv_aload_n hx hb dL_act_207 rfl (lv_at hl 1 rfl) ?_
    refine lv_iload hx hb dL_act_208 (lv_at hl 8 rfl) ?_
    refine lv_bipush (v := nI 21) hx hb dL_act_210 (by decide) ?_
    refine lv_irem hx hb dL_act_212 (by decide) ?_
    rw [rem_n (by omega) (by decide) (by decide)]
    have hK9 : k_addFerry F (nI (n % 21)) = 2 := by unfold k_addFerry; rw [if_pos ⟨nI_pos' (by omega), nI_le (by omega) (by omega)⟩, if_neg (by omega)]
    refine r_callT (rest := []) Fx (t_addFerry l hl0 (D := D) (ci := ci) (cz := cz) (cj := cj) (q := q) (F := F) (P := P) (g := g) hq (by omega) (by omega) (nI (n % 21))  ) (cwV 1 Fx.2.2.2.2 gL_act_X0_addFerry rfl rfl rfl (by decide +kernel) ⟨Nat.le_of_ble_eq_true rfl, Nat.le_of_ble_eq_true rfl⟩) BW.bl (va_recv hK hP (ci := 0) (q0 := 0) rfl rfl) (BWb hqs hP hL hS) rfl hl.1 rfl (Nat.le_of_ble_eq_true rfl) dL_act_213 ⟨by show _ ≤ 100; omega, by show _ ≤ 1300; omega⟩ hS (fun q9 h9 => bg_aw hqs q9 h9) (fun H locs hk0 _ _ _ => absurd (hK9.symm.trans hk0) (Nat.succ_ne_zero _)) (fun j E ce q9 H locs hj hxs hh hS hce hcv hcl => ?_)
    obtain rfl : j = 1 := by have := hK9.symm.trans hj; omega
    obtain rfl : xIS = E := Option.some.inj hxs
    have kp := KP.of hh
    have hQX : SS D ci cj A F P g H := hQX.mv kp (fun _ _ h9 => h9.elim)
    have hP : va_P D vwCl (w0 ci cz q F P g) H := P_all hP hh
    refine l_ise (i := 96) (n := 236) (b := 889) (k := 95) 0 Fx hE htab (by decide) (by decide +kernel) rfl (by decide) (by decide) hce hcv hcl ?_
    refine lv_astore (lv' := [(9, .ref q9), (8, .int (nI 0)), (0, .ref (q 0)), (1, .ref (A 0)), (2, .int x), (3, .int (nI f)), (4, .int (nI w)), (5, .int (nI k)), (6, .int (nI o)), (7, .int (nI n))]) hx hb dL_act_889 hl (by decide) rfl (fun ls hl => ?_)
    refine lv_iload hx hb dL_act_891 (lv_at hl 1 rfl) ?_
    refine n_if_ne (tgt := 900) hx hb (by omega) dL_act_893 (by decide) (fun h3 => by omega) (fun h3 => ?_)
    refine lv_iconst (v := nI 1) hx hb dL_act_896 (by decide) ?_
    refine lv_goto (tgt := 901) hx hb dL_act_897 (by decide) ?_
    exact m_zret (b := true) hx hb hr hlocks hS ⟨rfl, A, F, P, g, rfl, hAD, hI.mono (Nat.le_succ _), by omega, by omega, ⟨hP, hQX⟩⟩ (by omega) (by omega) dL_act_901
  · refine lv_iconst (v := nI 1) hx hb dL_act_186 (by decide) ?_
    refine lv_goto (tgt := 191) hx hb dL_act_187 (by decide) ?_
    refine lv_istore (lv' := [(8, .int (nI 1)), (0, .ref (q 0)), (1, .ref (A 0)), (2, .int x), (3, .int (nI f)), (4, .int (nI w)), (5, .int (nI k)), (6, .int (nI o)), (7, .int (nI n))]) hx hb dL_act_191 hl (by decide) rfl (fun ls hl => ?_)
    refine lv_iload hx hb dL_act_193 (lv_at hl 0 rfl) ?_
    refine n_if_eq (tgt := 207) hx hb (by omega) dL_act_195 (by decide) (fun h4 => by omega) (fun h4 => ?_)
    refine lv_aload_n hx hb dL_act_198 rfl (lv_at hl 2 rfl) ?_
    refine lv_iload hx hb dL_act_199 (lv_at hl 8 rfl) ?_
    refine lv_bipush (v := nI 21) hx hb dL_act_201 (by decide) ?_
    refine lv_irem hx hb dL_act_203 (by decide) ?_
    rw [rem_n (by omega) (by decide) (by decide)]
    have hz8 := Nat.le_trans hsz hS.1
    have hql := q_lt hP
    refine r_callM (rest := []) Fx (m_X1_addFerry l (D := D) (ci := ci) (cz := cz) (cj := cj) (A := A) (F := F) (P := P) (g := g) _ hz8 hql hAD (by omega) (by omega) (nI (n % 21)) (hI.c1 _ (Nat.le_refl _)) hI.iv) (cwV 1 Fx.2.2.2.2 gL_act_X1_addFerry rfl rfl rfl (by decide +kernel) ⟨Nat.le_of_ble_eq_true rfl, Nat.le_of_ble_eq_true rfl⟩) (fun U fr mk a h9 => ⟨h9.1, BX.bl U fr mk a h9.2⟩) (hQX.rc hK) (fun U hU hW => ⟨by rw [hU], BX.at hQX hK hO U hU hW⟩) rfl hl.1 rfl (Nat.le_of_ble_eq_true rfl) dL_act_204 ⟨by show _ ≤ 100; omega, by show _ ≤ 1300; omega⟩ hS (fun q9 h9 => bg_f hAD hz8 q9 h9) (fun v H locs hv kp hS => ?_)
    have hP : va_P D vwCl (w0 ci cz q F P g) H := w0_f hAD hP (Nat.le_refl _) kp
    obtain ⟨rfl, A', eA, hAD, hQX⟩ := hv
    rw [← eA] at hl
    have hQX : SS D ci cj A' (F + 1) P (gTol g F (nI (n % 21))) H := hQX
    refine lv_aload_n hx hb dL_act_207 rfl (lv_at hl 1 rfl) ?_
    refine lv_iload hx hb dL_act_208 (lv_at hl 8 rfl) ?_
    refine lv_bipush (v := nI 21) hx hb dL_act_210 (by decide) ?_
    refine lv_irem hx hb dL_act_212 (by decide) ?_
    rw [rem_n (by omega) (by decide) (by decide)]
    have hK9 : k_addFerry F (nI (n % 21)) = 0 := by unfold k_addFerry; rw [if_pos ⟨nI_pos' (by omega), nI_le (by omega) (by omega)⟩, if_pos (by omega)]
    refine r_callT (rest := []) Fx (t_addFerry l hl0 (D := D) (ci := ci) (cz := cz) (cj := cj) (q := q) (F := F) (P := P) (g := g) hq (by omega) (by omega) (nI (n % 21))  ) (cwV 1 Fx.2.2.2.2 gL_act_X0_addFerry rfl rfl rfl (by decide +kernel) ⟨Nat.le_of_ble_eq_true rfl, Nat.le_of_ble_eq_true rfl⟩) BW.bl (va_recv hK hP (ci := 0) (q0 := 0) rfl rfl) (BWb hqs hP hL hS) rfl hl.1 rfl (Nat.le_of_ble_eq_true rfl) dL_act_213 ⟨by show _ ≤ 100; omega, by show _ ≤ 1300; omega⟩ hS (fun q9 h9 => bg_aw hqs q9 h9) (fun H locs hk0 hP kp hS => ?_) (fun j E ce q9 H locs hj _ _ _ _ _ _ => absurd (hK9.symm.trans hj) (Nat.succ_ne_zero j).symm)
    have hQX : SS D ci cj A' (F + 1) P (gTol g F (nI (n % 21))) H := SS_m hAD hQX kp
    have hP : va_P D vwCl (w0 ci cz q (F + 1) P (gTol g F (nI (n % 21)))) H := hP
    refine lv_aload_n hx hb dL_act_216 rfl (lv_at hl 2 rfl) ?_
    obtain ⟨T9, hR9, hQ⟩ := id hQX
    refine g_get Fx hin hK 1 hQ.o rfl 0 (by decide) (by decide +kernel) rfl dL_act_217 ?_
    obtain ⟨T9, hR9, hQ⟩ := id hQX
    refine g_alenI Fx hK hQ.to 0 rfl dL_act_220 ?_
    refine lv_iconst (v := nI 1) hx hb dL_act_221 (by decide) ?_
    refine r_isub_n hx hb (by omega) dL_act_222 ?_
    refine n_icmp_ne (tgt := 235) hx hb (by omega) (by omega) dL_act_223 (by decide) (fun h5 => by omega) (fun h5 => ?_)
    refine lv_iload hx hb dL_act_226 (lv_at hl 0 rfl) ?_
    refine n_if_eq (tgt := 235) hx hb (by omega) dL_act_228 (by decide) (fun h6 => by omega) (fun h6 => ?_)
    refine lv_iconst (v := nI 1) hx hb dL_act_231 (by decide) ?_
    refine lv_goto (tgt := 236) hx hb dL_act_232 (by decide) ?_
    exact m_zret (b := true) hx hb hr hlocks hS ⟨rfl, A', F + 1, P, (gTol g F (nI (n % 21))), eA, hAD, (ix_ferry hI (by omega) (by rw [nI_toInt (by omega)]; omega) (by rw [nI_toInt (by omega)]; omega)).mono (Nat.le_succ _), by omega, by omega, ⟨hP, hQX⟩⟩ (by omega) (by omega) dL_act_236
set_option maxHeartbeats 8000000 in
set_option maxRecDepth 100000 in
theorem ac_1 {pg : Program} {l : Launch} {en : Env} {s : State} {m : MethodId} {args : Array Value} {bl : List Frame} {mt : Method} {cd : Code} {ls : Array Slot} {D : va_G} {ci cz : ClassId} {cj : ClassId × ClassId} {q : Nat → Nat} {sz : Nat} {A : Nat → Nat} {F P : Nat} {g : Nat → Nat → Int32} {nn : Nat} {x : Int32} {f w k o n : Nat} (hl0 : l.stackTraces = false) (Fx : CallFix pg m cd cL_act 11 s args wsL_act RL) (hr : mt.sig.returnType = some .boolean) (hlocks : mt.locks = false) (htab : cd.exceptionTable.toList = tableOf [(96, 236, 889, 95), (237, 288, 889, 95), (289, 346, 889, 95), (347, 420, 889, 95), (421, 493, 889, 95), (494, 502, 889, 95), (503, 580, 889, 95), (581, 679, 889, 95), (680, 779, 889, 95), (780, 792, 889, 95), (793, 834, 889, 95), (835, 888, 889, 95)]) (hL : EL D ci cz cj sz s) (hq : DQ q 8) (hqs : ∀ k, k < 8 → sz ≤ q k) (hAD : AD q sz A F P) (hsz : sz ≤ s.heap.size) (hI : Ix nn F P g) (hnn : nn ≤ 900) (hP : va_P D vwCl (w0 ci cz q F P g) s.heap) (hQX : SS D ci cj A F P g s.heap) (hf : f < F) (hw : w < 4) (hk : k < P) (ho : o < P) (hn1 : 1 ≤ n) (hn2 : n ≤ 64) (hl : lv_has ls 11 [(0, .ref (q 0)), (1, .ref (A 0)), (2, .int x), (3, .int (nI f)), (4, .int (nI w)), (5, .int (nI k)), (6, .int (nI o)), (7, .int (nI n)), (8, .int (bI (lv g k)))]) : W pg l en ({ frames := 9, cells := 100, slots := 1300, locals := 153 } : Room) s m args bl mt cd s.heap [] 0 0 (MQ bl (MQv (fun v H => v = some (.int (bI true)) ∧ ∃ A' F' P' g', A' 0 = A 0 ∧ AD q sz A' F' P' ∧ Ix (nn + 1) F' P' g' ∧ F ≤ F' ∧ P ≤ P' ∧ LH D ci cz cj q A' F' P' g' H) (bg sz)) args s 100 1300 (bg sz)) (F0 m 237 ls []) := by
  have hx := Fx.1
  have hb := Fx.2.1
  obtain ⟨hK, hE, hNC⟩ := id hL
  have hO := hE.2.2.2.2
  have hFb := hI.b.1
  have hPb := hI.b.2
  have hin : ∀ w ∈ wsX10, w ∈ wsL_act := by decide +kernel
  have hS : va_S (bg sz) s.heap s.heap [] := va_S.rf
  have sabg : ∀ q9, SA A F P q9 → bg sz q9 := by
    rintro q9 ⟨j, hj, rfl⟩
    exact (hAD.2 j hj).1
  refine lv_aload_n hx hb dL_act_237 rfl (lv_at hl 1 rfl) ?_
  obtain ⟨T9, hR9, hQ⟩ := id hQX
  refine g_get Fx hin hK 1 hQ.o rfl 3 (by decide) (by decide +kernel) rfl dL_act_238 ?_
  obtain ⟨T9, hR9, hQ⟩ := id hQX
  refine g_alenR Fx hK hQ.pe 2 rfl dL_act_241 ?_
  refine lv_bipush (v := nI 12) hx hb dL_act_242 (by decide) ?_
  refine n_icmp_ge (tgt := 251) hx hb (by omega) (by omega) dL_act_244 (by decide) (fun h1 => ?_) (fun h1 => ?_)
  · refine lv_iconst (v := nI 0) hx hb dL_act_251 (by decide) ?_
    refine lv_istore (lv' := [(8, .int (nI 0)), (0, .ref (q 0)), (1, .ref (A 0)), (2, .int x), (3, .int (nI f)), (4, .int (nI w)), (5, .int (nI k)), (6, .int (nI o)), (7, .int (nI n))]) hx hb dL_act_252 hl (by decide) rfl (fun ls hl => ?_)
    refine lv_iload hx hb dL_act_254 (lv_at hl 0 rfl) ?_
    refine n_if_eq (tgt := 264) hx hb (by omega) dL_act_256 (by decide) (fun h2 => ?_) (fun h2 => by omega)
    refine lv_aload_n hx hb dL_act_264 rfl (lv_at hl 1 rfl) ?_
    have hK9 : k_addPerson P = 1 := by unfold k_addPerson; rw [if_neg (by omega)]
    refine r_callT (rest := []) Fx (t_addPerson l hl0 (D := D) (ci := ci) (cz := cz) (cj := cj) (q := q) (F := F) (P := P) (g := g) hq (by omega) (by omega)   hI.p3) (cwV 0 Fx.2.2.2.2 gL_act_X0_addPerson rfl rfl rfl (by decide +kernel) ⟨Nat.le_of_ble_eq_true rfl, Nat.le_of_ble_eq_true rfl⟩) BW.bl (va_recv hK hP (ci := 0) (q0 := 0) rfl rfl) (BWb hqs hP hL hS) rfl hl.1 rfl (Nat.le_of_ble_eq_true rfl) dL_act_265 ⟨by show _ ≤ 100; omega, by show _ ≤ 1300; omega⟩ hS (fun q9 h9 => bg_aw hqs q9 h9) (fun H locs hk0 _ _ _ => absurd (hK9.symm.trans hk0) (Nat.succ_ne_zero _)) (fun j E ce q9 H locs hj hxs hh hS hce hcv hcl => ?_)
    obtain rfl : j = 0 := by have := hK9.symm.trans hj; omega
    obtain rfl : xIS = E := Option.some.inj hxs
    have kp := KP.of hh
    have hQX : SS D ci cj A F P g H := hQX.mv kp (fun _ _ h9 => h9.elim)
    have hP : va_P D vwCl (w0 ci cz q F P g) H := P_all hP hh
    refine l_ise (i := 237) (n := 288) (b := 889) (k := 95) 1 Fx hE htab (by decide) (by decide +kernel) rfl (by decide) (by decide) hce hcv hcl ?_
    refine lv_astore (lv' := [(9, .ref q9), (8, .int (nI 0)), (0, .ref (q 0)), (1, .ref (A 0)), (2, .int x), (3, .int (nI f)), (4, .int (nI w)), (5, .int (nI k)), (6, .int (nI o)), (7, .int (nI n))]) hx hb dL_act_889 hl (by decide) rfl (fun ls hl => ?_)
    refine lv_iload hx hb dL_act_891 (lv_at hl 1 rfl) ?_
    refine n_if_ne (tgt := 900) hx hb (by omega) dL_act_893 (by decide) (fun h3 => by omega) (fun h3 => ?_)
    refine lv_iconst (v := nI 1) hx hb dL_act_896 (by decide) ?_
    refine lv_goto (tgt := 901) hx hb dL_act_897 (by decide) ?_
    exact m_zret (b := true) hx hb hr hlocks hS ⟨rfl, A, F, P, g, rfl, hAD, hI.mono (Nat.le_succ _), by omega, by omega, ⟨hP, hQX⟩⟩ (by omega) (by omega) dL_act_901
  · refine lv_iconst (v := nI 1) hx hb dL_act_247 (by decide) ?_
    refine lv_goto (tgt := 252) hx hb dL_act_248 (by decide) ?_
    refine lv_istore (lv' := [(8, .int (nI 1)), (0, .ref (q 0)), (1, .ref (A 0)), (2, .int x), (3, .int (nI f)), (4, .int (nI w)), (5, .int (nI k)), (6, .int (nI o)), (7, .int (nI n))]) hx hb dL_act_252 hl (by decide) rfl (fun ls hl => ?_)
    refine lv_iload hx hb dL_act_254 (lv_at hl 0 rfl) ?_
    refine n_if_eq (tgt := 264) hx hb (by omega) dL_act_256 (by decide) (fun h4 => by omega) (fun h4 => ?_)
    refine lv_aload_n hx hb dL_act_259 rfl (lv_at hl 2 rfl) ?_
    refine lv_iconst (v := -1) hx hb dL_act_260 (by decide) ?_
    have hz8 := Nat.le_trans hsz hS.1
    have hql := q_lt hP
    refine r_callM (rest := []) Fx (m_X1_addPerson l (D := D) (ci := ci) (cz := cz) (cj := cj) (A := A) (F := F) (P := P) (g := g) _ hz8 hql hAD (by omega) (by omega) (-1) (hI.p3 _ (Nat.le_refl _)) (hI.c45 _ (Nat.le_refl _)).1 (hI.c45 _ (Nat.le_refl _)).2 hI.iv) (cwV 1 Fx.2.2.2.2 gL_act_X1_addPerson rfl rfl rfl (by decide +kernel) ⟨Nat.le_of_ble_eq_true rfl, Nat.le_of_ble_eq_true rfl⟩) (fun U fr mk a h9 => ⟨h9.1, BX.bl U fr mk a h9.2⟩) (hQX.rc hK) (fun U hU hW => ⟨by rw [hU], BX.at hQX hK hO U hU hW⟩) rfl hl.1 rfl (Nat.le_of_ble_eq_true rfl) dL_act_261 ⟨by show _ ≤ 100; omega, by show _ ≤ 1300; omega⟩ hS (fun q9 h9 => bg_f hAD hz8 q9 h9) (fun v H locs hv kp hS => ?_)
    have hP : va_P D vwCl (w0 ci cz q F P g) H := w0_f hAD hP (Nat.le_refl _) kp
    obtain ⟨rfl, A', eA, hAD, hQX⟩ := hv
    rw [← eA] at hl
    have hQX : SS D ci cj A' F (P + 1) (gPar g P (-1)) H := hQX
    refine lv_aload_n hx hb dL_act_264 rfl (lv_at hl 1 rfl) ?_
    have hK9 : k_addPerson P = 0 := by unfold k_addPerson; rw [if_pos (by omega)]
    refine r_callT (rest := []) Fx (t_addPerson l hl0 (D := D) (ci := ci) (cz := cz) (cj := cj) (q := q) (F := F) (P := P) (g := g) hq (by omega) (by omega)   hI.p3) (cwV 0 Fx.2.2.2.2 gL_act_X0_addPerson rfl rfl rfl (by decide +kernel) ⟨Nat.le_of_ble_eq_true rfl, Nat.le_of_ble_eq_true rfl⟩) BW.bl (va_recv hK hP (ci := 0) (q0 := 0) rfl rfl) (BWb hqs hP hL hS) rfl hl.1 rfl (Nat.le_of_ble_eq_true rfl) dL_act_265 ⟨by show _ ≤ 100; omega, by show _ ≤ 1300; omega⟩ hS (fun q9 h9 => bg_aw hqs q9 h9) (fun H locs hk0 hP kp hS => ?_) (fun j E ce q9 H locs hj _ _ _ _ _ _ => absurd (hK9.symm.trans hj) (Nat.succ_ne_zero j).symm)
    have hQX : SS D ci cj A' F (P + 1) (gPar g P (-1)) H := SS_m hAD hQX kp
    have hP : va_P D vwCl (w0 ci cz q F (P + 1) (gPar g P (-1))) H := hP
    refine lv_aload_n hx hb dL_act_268 rfl (lv_at hl 2 rfl) ?_
    obtain ⟨T9, hR9, hQ⟩ := id hQX
    refine g_get Fx hin hK 1 hQ.o rfl 3 (by decide) (by decide +kernel) rfl dL_act_269 ?_
    obtain ⟨T9, hR9, hQ⟩ := id hQX
    refine g_alenR Fx hK hQ.pe 2 rfl dL_act_272 ?_
    refine lv_iconst (v := nI 1) hx hb dL_act_273 (by decide) ?_
    refine r_isub_n hx hb (by omega) dL_act_274 ?_
    refine n_icmp_ne (tgt := 287) hx hb (by omega) (by omega) dL_act_275 (by decide) (fun h5 => by omega) (fun h5 => ?_)
    refine lv_iload hx hb dL_act_278 (lv_at hl 0 rfl) ?_
    refine n_if_eq (tgt := 287) hx hb (by omega) dL_act_280 (by decide) (fun h6 => by omega) (fun h6 => ?_)
    refine lv_iconst (v := nI 1) hx hb dL_act_283 (by decide) ?_
    refine lv_goto (tgt := 288) hx hb dL_act_284 (by decide) ?_
    exact m_zret (b := true) hx hb hr hlocks hS ⟨rfl, A', F, P + 1, (gPar g P (-1)), eA, hAD, (ix_person hI (by omega) (Or.inl rfl)).mono (Nat.le_succ _), by omega, by omega, ⟨hP, hQX⟩⟩ (by omega) (by omega) dL_act_288
set_option maxHeartbeats 8000000 in
set_option maxRecDepth 100000 in
theorem ac_2 {pg : Program} {l : Launch} {en : Env} {s : State} {m : MethodId} {args : Array Value} {bl : List Frame} {mt : Method} {cd : Code} {ls : Array Slot} {D : va_G} {ci cz : ClassId} {cj : ClassId × ClassId} {q : Nat → Nat} {sz : Nat} {A : Nat → Nat} {F P : Nat} {g : Nat → Nat → Int32} {nn : Nat} {x : Int32} {f w k o n : Nat} (hl0 : l.stackTraces = false) (Fx : CallFix pg m cd cL_act 11 s args wsL_act RL) (hr : mt.sig.returnType = some .boolean) (hlocks : mt.locks = false) (htab : cd.exceptionTable.toList = tableOf [(96, 236, 889, 95), (237, 288, 889, 95), (289, 346, 889, 95), (347, 420, 889, 95), (421, 493, 889, 95), (494, 502, 889, 95), (503, 580, 889, 95), (581, 679, 889, 95), (680, 779, 889, 95), (780, 792, 889, 95), (793, 834, 889, 95), (835, 888, 889, 95)]) (hL : EL D ci cz cj sz s) (hq : DQ q 8) (hqs : ∀ k, k < 8 → sz ≤ q k) (hAD : AD q sz A F P) (hsz : sz ≤ s.heap.size) (hI : Ix nn F P g) (hnn : nn ≤ 900) (hP : va_P D vwCl (w0 ci cz q F P g) s.heap) (hQX : SS D ci cj A F P g s.heap) (hf : f < F) (hw : w < 4) (hk : k < P) (ho : o < P) (hn1 : 1 ≤ n) (hn2 : n ≤ 64) (hl : lv_has ls 11 [(0, .ref (q 0)), (1, .ref (A 0)), (2, .int x), (3, .int (nI f)), (4, .int (nI w)), (5, .int (nI k)), (6, .int (nI o)), (7, .int (nI n)), (8, .int (bI (lv g k)))]) : W pg l en ({ frames := 9, cells := 100, slots := 1300, locals := 153 } : Room) s m args bl mt cd s.heap [] 0 0 (MQ bl (MQv (fun v H => v = some (.int (bI true)) ∧ ∃ A' F' P' g', A' 0 = A 0 ∧ AD q sz A' F' P' ∧ Ix (nn + 1) F' P' g' ∧ F ≤ F' ∧ P ≤ P' ∧ LH D ci cz cj q A' F' P' g' H) (bg sz)) args s 100 1300 (bg sz)) (F0 m 289 ls []) := by
  have hx := Fx.1
  have hb := Fx.2.1
  obtain ⟨hK, hE, hNC⟩ := id hL
  have hO := hE.2.2.2.2
  have hFb := hI.b.1
  have hPb := hI.b.2
  have hin : ∀ w ∈ wsX10, w ∈ wsL_act := by decide +kernel
  have hS : va_S (bg sz) s.heap s.heap [] := va_S.rf
  have sabg : ∀ q9, SA A F P q9 → bg sz q9 := by
    rintro q9 ⟨j, hj, rfl⟩
    exact (hAD.2 j hj).1
  refine lv_iload hx hb dL_act_289 (lv_at hl 8 rfl) ?_
  refine lv_aload_n hx hb dL_act_291 rfl (lv_at hl 1 rfl) ?_
  obtain ⟨T9, hR9, hQ⟩ := id hQX
  refine g_get Fx hin hK 1 hQ.o rfl 3 (by decide) (by decide +kernel) rfl dL_act_292 ?_
  obtain ⟨T9, hR9, hQ⟩ := id hQX
  refine g_alenR Fx hK hQ.pe 2 rfl dL_act_295 ?_
  refine lv_bipush (v := nI 12) hx hb dL_act_296 (by decide) ?_
  refine n_icmp_ge (tgt := 305) hx hb (by omega) (by omega) dL_act_298 (by decide) (fun h1 => ?_) (fun h1 => ?_)
  · refine lv_iconst (v := nI 0) hx hb dL_act_305 (by decide) ?_
    refine lv_iand hx hb dL_act_306 ?_
    rw [bI_a0]
    refine lv_istore (lv' := [(8, .int (nI 0)), (0, .ref (q 0)), (1, .ref (A 0)), (2, .int x), (3, .int (nI f)), (4, .int (nI w)), (5, .int (nI k)), (6, .int (nI o)), (7, .int (nI n))]) hx hb dL_act_307 hl (by decide) rfl (fun ls hl => ?_)
    refine lv_iload hx hb dL_act_309 (lv_at hl 0 rfl) ?_
    refine n_if_eq (tgt := 320) hx hb (by omega) dL_act_311 (by decide) (fun h2 => ?_) (fun h2 => by omega)
    refine lv_aload_n hx hb dL_act_320 rfl (lv_at hl 1 rfl) ?_
    refine lv_iload hx hb dL_act_321 (lv_at hl 6 rfl) ?_
    have hK9 : k_addChild P g (nI k) = 2 := by unfold k_addChild; rw [if_pos (inR_nI hk (by omega)), ix_nI (by omega)]; split <;> first | rfl | (rw [if_neg (by omega)])
    refine r_callT (rest := []) Fx (t_addChild l hl0 (D := D) (ci := ci) (cz := cz) (cj := cj) (q := q) (F := F) (P := P) (g := g) hq (by omega) (by omega) k (by omega) hI.p3) (cwV 1 Fx.2.2.2.2 gL_act_X0_addChild rfl rfl rfl (by decide +kernel) ⟨Nat.le_of_ble_eq_true rfl, Nat.le_of_ble_eq_true rfl⟩) BW.bl (va_recv hK hP (ci := 0) (q0 := 0) rfl rfl) (BWb hqs hP hL hS) rfl hl.1 rfl (Nat.le_of_ble_eq_true rfl) dL_act_323 ⟨by show _ ≤ 100; omega, by show _ ≤ 1300; omega⟩ hS (fun q9 h9 => bg_aw hqs q9 h9) (fun H locs hk0 _ _ _ => absurd (hK9.symm.trans hk0) (Nat.succ_ne_zero _)) (fun j E ce q9 H locs hj hxs hh hS hce hcv hcl => ?_)
    obtain rfl : j = 1 := by have := hK9.symm.trans hj; omega
    obtain rfl : xIS = E := Option.some.inj hxs
    have kp := KP.of hh
    have hQX : SS D ci cj A F P g H := hQX.mv kp (fun _ _ h9 => h9.elim)
    have hP : va_P D vwCl (w0 ci cz q F P g) H := P_all hP hh
    refine l_ise (i := 289) (n := 346) (b := 889) (k := 95) 2 Fx hE htab (by decide) (by decide +kernel) rfl (by decide) (by decide) hce hcv hcl ?_
    refine lv_astore (lv' := [(9, .ref q9), (8, .int (nI 0)), (0, .ref (q 0)), (1, .ref (A 0)), (2, .int x), (3, .int (nI f)), (4, .int (nI w)), (5, .int (nI k)), (6, .int (nI o)), (7, .int (nI n))]) hx hb dL_act_889 hl (by decide) rfl (fun ls hl => ?_)
    refine lv_iload hx hb dL_act_891 (lv_at hl 1 rfl) ?_
    refine n_if_ne (tgt := 900) hx hb (by omega) dL_act_893 (by decide) (fun h3 => by omega) (fun h3 => ?_)
    refine lv_iconst (v := nI 1) hx hb dL_act_896 (by decide) ?_
    refine lv_goto (tgt := 901) hx hb dL_act_897 (by decide) ?_
    exact m_zret (b := true) hx hb hr hlocks hS ⟨rfl, A, F, P, g, rfl, hAD, hI.mono (Nat.le_succ _), by omega, by omega, ⟨hP, hQX⟩⟩ (by omega) (by omega) dL_act_901
  · refine lv_iconst (v := nI 1) hx hb dL_act_301 (by decide) ?_
    refine lv_goto (tgt := 306) hx hb dL_act_302 (by decide) ?_
    refine lv_iand hx hb dL_act_306 ?_
    rw [bI_a1]
    refine lv_istore (lv' := [(8, .int (bI (lv g k))), (0, .ref (q 0)), (1, .ref (A 0)), (2, .int x), (3, .int (nI f)), (4, .int (nI w)), (5, .int (nI k)), (6, .int (nI o)), (7, .int (nI n))]) hx hb dL_act_307 hl (by decide) rfl (fun ls hl => ?_)
    refine lv_iload hx hb dL_act_309 (lv_at hl 0 rfl) ?_
    refine b_if_eq (tgt := 320) hx hb dL_act_311 (by decide) (fun h4 => ?_) (fun h4 => ?_)
    · rw [h4] at hl
      have hl : lv_has ls 11 [(8, .int (nI 0)), (0, .ref (q 0)), (1, .ref (A 0)), (2, .int x), (3, .int (nI f)), (4, .int (nI w)), (5, .int (nI k)), (6, .int (nI o)), (7, .int (nI n))] := hl
      refine lv_aload_n hx hb dL_act_320 rfl (lv_at hl 1 rfl) ?_
      refine lv_iload hx hb dL_act_321 (lv_at hl 6 rfl) ?_
      have hK9 : k_addChild P g (nI k) = 2 := by unfold k_addChild; rw [if_pos (inR_nI hk (by omega)), ix_nI (by omega), if_neg (by rw [h4]; decide)]
      refine r_callT (rest := []) Fx (t_addChild l hl0 (D := D) (ci := ci) (cz := cz) (cj := cj) (q := q) (F := F) (P := P) (g := g) hq (by omega) (by omega) k (by omega) hI.p3) (cwV 1 Fx.2.2.2.2 gL_act_X0_addChild rfl rfl rfl (by decide +kernel) ⟨Nat.le_of_ble_eq_true rfl, Nat.le_of_ble_eq_true rfl⟩) BW.bl (va_recv hK hP (ci := 0) (q0 := 0) rfl rfl) (BWb hqs hP hL hS) rfl hl.1 rfl (Nat.le_of_ble_eq_true rfl) dL_act_323 ⟨by show _ ≤ 100; omega, by show _ ≤ 1300; omega⟩ hS (fun q9 h9 => bg_aw hqs q9 h9) (fun H locs hk0 _ _ _ => absurd (hK9.symm.trans hk0) (Nat.succ_ne_zero _)) (fun j E ce q9 H locs hj hxs hh hS hce hcv hcl => ?_)
      obtain rfl : j = 1 := by have := hK9.symm.trans hj; omega
      obtain rfl : xIS = E := Option.some.inj hxs
      have kp := KP.of hh
      have hQX : SS D ci cj A F P g H := hQX.mv kp (fun _ _ h9 => h9.elim)
      have hP : va_P D vwCl (w0 ci cz q F P g) H := P_all hP hh
      refine l_ise (i := 289) (n := 346) (b := 889) (k := 95) 2 Fx hE htab (by decide) (by decide +kernel) rfl (by decide) (by decide) hce hcv hcl ?_
      refine lv_astore (lv' := [(9, .ref q9), (8, .int (nI 0)), (0, .ref (q 0)), (1, .ref (A 0)), (2, .int x), (3, .int (nI f)), (4, .int (nI w)), (5, .int (nI k)), (6, .int (nI o)), (7, .int (nI n))]) hx hb dL_act_889 hl (by decide) rfl (fun ls hl => ?_)
      refine lv_iload hx hb dL_act_891 (lv_at hl 1 rfl) ?_
      refine n_if_ne (tgt := 900) hx hb (by omega) dL_act_893 (by decide) (fun h5 => by omega) (fun h5 => ?_)
      refine lv_iconst (v := nI 1) hx hb dL_act_896 (by decide) ?_
      refine lv_goto (tgt := 901) hx hb dL_act_897 (by decide) ?_
      exact m_zret (b := true) hx hb hr hlocks hS ⟨rfl, A, F, P, g, rfl, hAD, hI.mono (Nat.le_succ _), by omega, by omega, ⟨hP, hQX⟩⟩ (by omega) (by omega) dL_act_901
    · rw [h4] at hl
      have hl : lv_has ls 11 [(8, .int (nI 1)), (0, .ref (q 0)), (1, .ref (A 0)), (2, .int x), (3, .int (nI f)), (4, .int (nI w)), (5, .int (nI k)), (6, .int (nI o)), (7, .int (nI n))] := hl
      refine lv_aload_n hx hb dL_act_314 rfl (lv_at hl 2 rfl) ?_
      refine lv_iload hx hb dL_act_315 (lv_at hl 6 rfl) ?_
      have hz8 := Nat.le_trans hsz hS.1
      have hql := q_lt hP
      refine r_callM (rest := []) Fx (m_X1_addPerson l (D := D) (ci := ci) (cz := cz) (cj := cj) (A := A) (F := F) (P := P) (g := g) _ hz8 hql hAD (by omega) (by omega) (nI k) (hI.p3 _ (Nat.le_refl _)) (hI.c45 _ (Nat.le_refl _)).1 (hI.c45 _ (Nat.le_refl _)).2 hI.iv) (cwV 1 Fx.2.2.2.2 gL_act_X1_addPerson rfl rfl rfl (by decide +kernel) ⟨Nat.le_of_ble_eq_true rfl, Nat.le_of_ble_eq_true rfl⟩) (fun U fr mk a h9 => ⟨h9.1, BX.bl U fr mk a h9.2⟩) (hQX.rc hK) (fun U hU hW => ⟨by rw [hU], BX.at hQX hK hO U hU hW⟩) rfl hl.1 rfl (Nat.le_of_ble_eq_true rfl) dL_act_317 ⟨by show _ ≤ 100; omega, by show _ ≤ 1300; omega⟩ hS (fun q9 h9 => bg_f hAD hz8 q9 h9) (fun v H locs hv kp hS => ?_)
      have hP : va_P D vwCl (w0 ci cz q F P g) H := w0_f hAD hP (Nat.le_refl _) kp
      obtain ⟨rfl, A', eA, hAD, hQX⟩ := hv
      rw [← eA] at hl
      have hQX : SS D ci cj A' F (P + 1) (gPar g P (nI k)) H := hQX
      refine lv_aload_n hx hb dL_act_320 rfl (lv_at hl 1 rfl) ?_
      refine lv_iload hx hb dL_act_321 (lv_at hl 6 rfl) ?_
      have hK9 : k_addChild P g (nI k) = 0 := by unfold k_addChild; rw [if_pos (inR_nI hk (by omega)), ix_nI (by omega), if_pos h4, if_pos (by omega)]
      refine r_callT (rest := []) Fx (t_addChild l hl0 (D := D) (ci := ci) (cz := cz) (cj := cj) (q := q) (F := F) (P := P) (g := g) hq (by omega) (by omega) k (by omega) hI.p3) (cwV 1 Fx.2.2.2.2 gL_act_X0_addChild rfl rfl rfl (by decide +kernel) ⟨Nat.le_of_ble_eq_true rfl, Nat.le_of_ble_eq_true rfl⟩) BW.bl (va_recv hK hP (ci := 0) (q0 := 0) rfl rfl) (BWb hqs hP hL hS) rfl hl.1 rfl (Nat.le_of_ble_eq_true rfl) dL_act_323 ⟨by show _ ≤ 100; omega, by show _ ≤ 1300; omega⟩ hS (fun q9 h9 => bg_aw hqs q9 h9) (fun H locs hk0 hP kp hS => ?_) (fun j E ce q9 H locs hj _ _ _ _ _ _ => absurd (hK9.symm.trans hj) (Nat.succ_ne_zero j).symm)
      have hQX : SS D ci cj A' F (P + 1) (gPar g P (nI k)) H := SS_m hAD hQX kp
      have hP : va_P D vwCl (w0 ci cz q F (P + 1) (gPar g P (nI k))) H := hP
      refine lv_aload_n hx hb dL_act_326 rfl (lv_at hl 2 rfl) ?_
      obtain ⟨T9, hR9, hQ⟩ := id hQX
      refine g_get Fx hin hK 1 hQ.o rfl 3 (by decide) (by decide +kernel) rfl dL_act_327 ?_
      obtain ⟨T9, hR9, hQ⟩ := id hQX
      refine g_alenR Fx hK hQ.pe 2 rfl dL_act_330 ?_
      refine lv_iconst (v := nI 1) hx hb dL_act_331 (by decide) ?_
      refine r_isub_n hx hb (by omega) dL_act_332 ?_
      refine n_icmp_ne (tgt := 345) hx hb (by omega) (by omega) dL_act_333 (by decide) (fun h6 => by omega) (fun h6 => ?_)
      refine lv_iload hx hb dL_act_336 (lv_at hl 0 rfl) ?_
      refine n_if_eq (tgt := 345) hx hb (by omega) dL_act_338 (by decide) (fun h7 => by omega) (fun h7 => ?_)
      refine lv_iconst (v := nI 1) hx hb dL_act_341 (by decide) ?_
      refine lv_goto (tgt := 346) hx hb dL_act_342 (by decide) ?_
      exact m_zret (b := true) hx hb hr hlocks hS ⟨rfl, A', F, P + 1, (gPar g P (nI k)), eA, hAD, (ix_person hI (by omega) (Or.inr ⟨k, hk, rfl⟩)).mono (Nat.le_succ _), by omega, by omega, ⟨hP, hQX⟩⟩ (by omega) (by omega) dL_act_346
set_option maxHeartbeats 8000000 in
set_option maxRecDepth 100000 in
theorem ac_4 {pg : Program} {l : Launch} {en : Env} {s : State} {m : MethodId} {args : Array Value} {bl : List Frame} {mt : Method} {cd : Code} {ls : Array Slot} {D : va_G} {ci cz : ClassId} {cj : ClassId × ClassId} {q : Nat → Nat} {sz : Nat} {A : Nat → Nat} {F P : Nat} {g : Nat → Nat → Int32} {nn : Nat} {x : Int32} {f w k o n : Nat} (hl0 : l.stackTraces = false) (Fx : CallFix pg m cd cL_act 11 s args wsL_act RL) (hr : mt.sig.returnType = some .boolean) (hlocks : mt.locks = false) (htab : cd.exceptionTable.toList = tableOf [(96, 236, 889, 95), (237, 288, 889, 95), (289, 346, 889, 95), (347, 420, 889, 95), (421, 493, 889, 95), (494, 502, 889, 95), (503, 580, 889, 95), (581, 679, 889, 95), (680, 779, 889, 95), (780, 792, 889, 95), (793, 834, 889, 95), (835, 888, 889, 95)]) (hL : EL D ci cz cj sz s) (hq : DQ q 8) (hqs : ∀ k, k < 8 → sz ≤ q k) (hAD : AD q sz A F P) (hsz : sz ≤ s.heap.size) (hI : Ix nn F P g) (hnn : nn ≤ 900) (hP : va_P D vwCl (w0 ci cz q F P g) s.heap) (hQX : SS D ci cj A F P g s.heap) (hf : f < F) (hw : w < 4) (hk : k < P) (ho : o < P) (hn1 : 1 ≤ n) (hn2 : n ≤ 64) (hl : lv_has ls 11 [(0, .ref (q 0)), (1, .ref (A 0)), (2, .int x), (3, .int (nI f)), (4, .int (nI w)), (5, .int (nI k)), (6, .int (nI o)), (7, .int (nI n)), (8, .int (bI (lv g k)))]) : W pg l en ({ frames := 9, cells := 100, slots := 1300, locals := 153 } : Room) s m args bl mt cd s.heap [] 0 0 (MQ bl (MQv (fun v H => v = some (.int (bI true)) ∧ ∃ A' F' P' g', A' 0 = A 0 ∧ AD q sz A' F' P' ∧ Ix (nn + 1) F' P' g' ∧ F ≤ F' ∧ P ≤ P' ∧ LH D ci cz cj q A' F' P' g' H) (bg sz)) args s 100 1300 (bg sz)) (F0 m 347 ls []) := by
  have hx := Fx.1
  have hb := Fx.2.1
  obtain ⟨hK, hE, hNC⟩ := id hL
  have hO := hE.2.2.2.2
  have hFb := hI.b.1
  have hPb := hI.b.2
  have hin : ∀ w ∈ wsX10, w ∈ wsL_act := by decide +kernel
  have hS : va_S (bg sz) s.heap s.heap [] := va_S.rf
  have sabg : ∀ q9, SA A F P q9 → bg sz q9 := by
    rintro q9 ⟨j, hj, rfl⟩
    exact (hAD.2 j hj).1
  refine lv_iconst (v := nI 1) hx hb dL_act_347 (by decide) ?_
  refine lv_iload_n hx hb dL_act_348 rfl (lv_at hl 2 rfl) ?_
  refine lv_bipush (v := nI 7) hx hb dL_act_349 (by decide) ?_
  refine lv_ishr hx hb dL_act_351 ?_
  refine lv_iload_n hx hb dL_act_352 rfl (lv_at hl 2 rfl) ?_
  refine lv_iconst (v := nI 5) hx hb dL_act_353 (by decide) ?_
  refine lv_ishr hx hb dL_act_354 ?_
  refine lv_iconst (v := nI 4) hx hb dL_act_355 (by decide) ?_
  refine r_callRS (rest := [.int (x >>> ((nI 7) &&& 31)), .int (nI 1)]) Fx (m_L_below l (x >>> ((nI 5) &&& 31)) 4 (by omega) (by omega)) (va_cwS 2 Fx.2.2.2.2 gL_act_L_below rfl rfl rfl (by decide +kernel) ⟨Nat.le_of_ble_eq_true rfl, Nat.le_of_ble_eq_true rfl⟩) (fun _ _ _ _ h => h) (fun _ _ _ => trivial) rfl hl.1 rfl (Nat.le_of_ble_eq_true rfl) dL_act_356 ⟨by show _ ≤ 100; omega, by show _ ≤ 1300; omega⟩ ?_
  obtain ⟨z, hz, ez⟩ : ∃ j, j < 4 ∧ bw (x >>> ((nI 5) &&& 31)) 4 = j := ⟨_, bw_lt (by omega), rfl⟩
  rw [ez]
  refine r_selS (a := 9999) (b := 900) hx hb (by omega) rfl rfl dL_act_359 dL_act_362 dL_act_365 dL_act_368 (fun M hM => ?_)
  refine r_callRS (rest := [.int (nI 1)]) Fx (m_L_below l (x >>> ((nI 7) &&& 31)) M (by omega) (by omega)) (va_cwS 2 Fx.2.2.2.2 gL_act_L_below rfl rfl rfl (by decide +kernel) ⟨Nat.le_of_ble_eq_true rfl, Nat.le_of_ble_eq_true rfl⟩) (fun _ _ _ _ h => h) (fun _ _ _ => trivial) rfl hl.1 rfl (Nat.le_of_ble_eq_true rfl) dL_act_371 ⟨by show _ ≤ 100; omega, by show _ ≤ 1300; omega⟩ ?_
  obtain ⟨c0, hc0, ec0⟩ : ∃ j, j < M ∧ bw (x >>> ((nI 7) &&& 31)) M = j := ⟨_, bw_lt (by omega), rfl⟩
  rw [ec0]
  refine r_iadd_n hx hb dL_act_374 ?_
  refine lv_istore (lv' := [(9, .int (nI (1 + c0))), (0, .ref (q 0)), (1, .ref (A 0)), (2, .int x), (3, .int (nI f)), (4, .int (nI w)), (5, .int (nI k)), (6, .int (nI o)), (7, .int (nI n)), (8, .int (bI (lv g k)))]) hx hb dL_act_375 hl (by decide) rfl (fun ls hl => ?_)
  refine lv_iload hx hb dL_act_377 (lv_at hl 9 rfl) ?_
  refine b_if_eq (tgt := 390) hx hb dL_act_379 (by decide) (fun h1 => ?_) (fun h1 => ?_)
  · rw [h1] at hl
    have hl : lv_has ls 11 [(9, .int (nI (1 + c0))), (0, .ref (q 0)), (1, .ref (A 0)), (2, .int x), (3, .int (nI f)), (4, .int (nI w)), (5, .int (nI k)), (6, .int (nI o)), (7, .int (nI n)), (8, .int (nI 0))] := hl
    refine lv_aload_n hx hb dL_act_390 rfl (lv_at hl 1 rfl) ?_
    refine lv_iload hx hb dL_act_391 (lv_at hl 6 rfl) ?_
    refine lv_iload hx hb dL_act_393 (lv_at hl 0 rfl) ?_
    have hK9 : k_pay P g (nI k) (nI (1 + c0)) = 3 := by unfold k_pay; rw [if_pos (inR_nI hk (by omega)), if_pos ⟨nI_le (by omega) (by omega), nI_le (by omega) (by omega)⟩, ix_nI (by omega), if_neg (by rw [h1]; decide)]
    refine r_callT (rest := []) Fx (t_pay l hl0 (D := D) (ci := ci) (cz := cz) (cj := cj) (q := q) (F := F) (P := P) (g := g) hq (by omega) (by omega) k (nI (1 + c0)) (by omega) ) (cwV 2 Fx.2.2.2.2 gL_act_X0_pay rfl rfl rfl (by decide +kernel) ⟨Nat.le_of_ble_eq_true rfl, Nat.le_of_ble_eq_true rfl⟩) BW.bl (va_recv hK hP (ci := 0) (q0 := 0) rfl rfl) (BWb hqs hP hL hS) rfl hl.1 rfl (Nat.le_of_ble_eq_true rfl) dL_act_395 ⟨by show _ ≤ 100; omega, by show _ ≤ 1300; omega⟩ hS (fun q9 h9 => bg_aw hqs q9 h9) (fun H locs hk0 _ _ _ => absurd (hK9.symm.trans hk0) (Nat.succ_ne_zero _)) (fun j E ce q9 H locs hj hxs hh hS hce hcv hcl => ?_)
    obtain rfl : j = 2 := by have := hK9.symm.trans hj; omega
    obtain rfl : xIS = E := Option.some.inj hxs
    have kp := KP.of hh
    have hQX : SS D ci cj A F P g H := hQX.mv kp (fun _ _ h9 => h9.elim)
    have hP : va_P D vwCl (w0 ci cz q F P g) H := P_all hP hh
    refine l_ise (i := 347) (n := 420) (b := 889) (k := 95) 3 Fx hE htab (by decide) (by decide +kernel) rfl (by decide) (by decide) hce hcv hcl ?_
    refine lv_astore (lv' := [(9, .ref q9), (0, .ref (q 0)), (1, .ref (A 0)), (2, .int x), (3, .int (nI f)), (4, .int (nI w)), (5, .int (nI k)), (6, .int (nI o)), (7, .int (nI n)), (8, .int (nI 0))]) hx hb dL_act_889 hl (by decide) rfl (fun ls hl => ?_)
    refine lv_iload hx hb dL_act_891 (lv_at hl 9 rfl) ?_
    refine n_if_ne (tgt := 900) hx hb (by omega) dL_act_893 (by decide) (fun h2 => by omega) (fun h2 => ?_)
    refine lv_iconst (v := nI 1) hx hb dL_act_896 (by decide) ?_
    refine lv_goto (tgt := 901) hx hb dL_act_897 (by decide) ?_
    exact m_zret (b := true) hx hb hr hlocks hS ⟨rfl, A, F, P, g, rfl, hAD, hI.mono (Nat.le_succ _), by omega, by omega, ⟨hP, hQX⟩⟩ (by omega) (by omega) dL_act_901
  · rw [h1] at hl
    have hl : lv_has ls 11 [(9, .int (nI (1 + c0))), (0, .ref (q 0)), (1, .ref (A 0)), (2, .int x), (3, .int (nI f)), (4, .int (nI w)), (5, .int (nI k)), (6, .int (nI o)), (7, .int (nI n)), (8, .int (nI 1))] := hl
    refine lv_aload_n hx hb dL_act_382 rfl (lv_at hl 2 rfl) ?_
    refine lv_iload hx hb dL_act_383 (lv_at hl 6 rfl) ?_
    refine lv_iload hx hb dL_act_385 (lv_at hl 0 rfl) ?_
    refine r_callW (rest := []) Fx (m_X1_get l (D := D) (ci := ci) (cz := cz) (cj := cj) (A := A) (F := F) (P := P) (g := g) (by omega) (by omega) k (nI (1 + c0)) (by omega) hAD.1) (cwV 2 Fx.2.2.2.2 gL_act_X1_get rfl rfl rfl (by decide +kernel) ⟨Nat.le_of_ble_eq_true rfl, Nat.le_of_ble_eq_true rfl⟩) BX.bl (hQX.rc hK) (BX.at hQX hK hO) rfl hl.1 rfl (Nat.le_of_ble_eq_true rfl) dL_act_387 ⟨by show _ ≤ 100; omega, by show _ ≤ 1300; omega⟩ hS (fun q9 h9 => sabg q9 h9) (fun H locs hQ9 hS hsz9 hk9 => ?_)
    have kp : KP (SA A F P) _ H := ⟨hsz9, hk9⟩
    have hQX : SS D ci cj A F P (gGet g k (nI (1 + c0))) H := hQ9
    have hP : va_P D vwCl (w0 ci cz q F P g) H := w0_s hAD hP kp
    refine lv_aload_n hx hb dL_act_390 rfl (lv_at hl 1 rfl) ?_
    refine lv_iload hx hb dL_act_391 (lv_at hl 6 rfl) ?_
    refine lv_iload hx hb dL_act_393 (lv_at hl 0 rfl) ?_
    have hK9 : k_pay P g (nI k) (nI (1 + c0)) = 0 := by unfold k_pay; rw [if_pos (inR_nI hk (by omega)), if_pos ⟨nI_le (by omega) (by omega), nI_le (by omega) (by omega)⟩, ix_nI (by omega), if_pos h1]
    refine r_callT (rest := []) Fx (t_pay l hl0 (D := D) (ci := ci) (cz := cz) (cj := cj) (q := q) (F := F) (P := P) (g := g) hq (by omega) (by omega) k (nI (1 + c0)) (by omega) ) (cwV 2 Fx.2.2.2.2 gL_act_X0_pay rfl rfl rfl (by decide +kernel) ⟨Nat.le_of_ble_eq_true rfl, Nat.le_of_ble_eq_true rfl⟩) BW.bl (va_recv hK hP (ci := 0) (q0 := 0) rfl rfl) (BWb hqs hP hL hS) rfl hl.1 rfl (Nat.le_of_ble_eq_true rfl) dL_act_395 ⟨by show _ ≤ 100; omega, by show _ ≤ 1300; omega⟩ hS (fun q9 h9 => bg_aw hqs q9 h9) (fun H locs hk0 hP kp hS => ?_) (fun j E ce q9 H locs hj _ _ _ _ _ _ => absurd (hK9.symm.trans hj) (Nat.succ_ne_zero j).symm)
    have hQX : SS D ci cj A F P (gGet g k (nI (1 + c0))) H := SS_m hAD hQX kp
    have hP : va_P D vwCl (w0 ci cz q F P (gGet g k (nI (1 + c0)))) H := hP
    refine lv_aload_n hx hb dL_act_398 rfl (lv_at hl 2 rfl) ?_
    obtain ⟨T9, hR9, hQ⟩ := id hQX
    refine g_get Fx hin hK 1 hQ.o rfl 3 (by decide) (by decide +kernel) rfl dL_act_399 ?_
    refine lv_iload hx hb dL_act_402 (lv_at hl 6 rfl) ?_
    obtain ⟨T9, hR9, hQ⟩ := id hQX
    refine g_aald Fx hK hQ.pe 2 rfl rfl (i := k) (by omega) (by omega) rfl dL_act_404 ?_
    refine lv_iconst (v := nI 0) hx hb dL_act_405 (by decide) ?_
    obtain ⟨T9, hR9, hQ⟩ := id hQX
    refine g_iald Fx hK (hQ.pp (k := k) (by omega)) 0 rfl (i := 0) (by decide) (by decide) dL_act_406 ?_
    refine r_as ((gGet g k (nI (1 + c0))) 4 k) rfl ?_
    refine lv_icmp_ne (tgt := 419) hx hb dL_act_407 (by decide) (fun h3 => absurd (by simp [gGet, va_up, upd]) h3) (fun h3 => ?_)
    refine lv_iload hx hb dL_act_410 (lv_at hl 9 rfl) ?_
    refine n_if_eq (tgt := 419) hx hb (by omega) dL_act_412 (by decide) (fun h4 => by omega) (fun h4 => ?_)
    refine lv_iconst (v := nI 1) hx hb dL_act_415 (by decide) ?_
    refine lv_goto (tgt := 420) hx hb dL_act_416 (by decide) ?_
    exact m_zret (b := true) hx hb hr hlocks hS ⟨rfl, A, F, P, (gGet g k (nI (1 + c0))), rfl, hAD, (ix_get hI hk (by rw [nI_toInt (by omega)]; omega) (by rw [nI_toInt (by omega)]; omega) h1).mono (Nat.le_succ _), by omega, by omega, ⟨hP, hQX⟩⟩ (by omega) (by omega) dL_act_420
set_option maxHeartbeats 8000000 in
set_option maxRecDepth 100000 in
theorem ac_6 {pg : Program} {l : Launch} {en : Env} {s : State} {m : MethodId} {args : Array Value} {bl : List Frame} {mt : Method} {cd : Code} {ls : Array Slot} {D : va_G} {ci cz : ClassId} {cj : ClassId × ClassId} {q : Nat → Nat} {sz : Nat} {A : Nat → Nat} {F P : Nat} {g : Nat → Nat → Int32} {nn : Nat} {x : Int32} {f w k o n : Nat} (hl0 : l.stackTraces = false) (Fx : CallFix pg m cd cL_act 11 s args wsL_act RL) (hr : mt.sig.returnType = some .boolean) (hlocks : mt.locks = false) (htab : cd.exceptionTable.toList = tableOf [(96, 236, 889, 95), (237, 288, 889, 95), (289, 346, 889, 95), (347, 420, 889, 95), (421, 493, 889, 95), (494, 502, 889, 95), (503, 580, 889, 95), (581, 679, 889, 95), (680, 779, 889, 95), (780, 792, 889, 95), (793, 834, 889, 95), (835, 888, 889, 95)]) (hL : EL D ci cz cj sz s) (hq : DQ q 8) (hqs : ∀ k, k < 8 → sz ≤ q k) (hAD : AD q sz A F P) (hsz : sz ≤ s.heap.size) (hI : Ix nn F P g) (hnn : nn ≤ 900) (hP : va_P D vwCl (w0 ci cz q F P g) s.heap) (hQX : SS D ci cj A F P g s.heap) (hf : f < F) (hw : w < 4) (hk : k < P) (ho : o < P) (hn1 : 1 ≤ n) (hn2 : n ≤ 64) (hl : lv_has ls 11 [(0, .ref (q 0)), (1, .ref (A 0)), (2, .int x), (3, .int (nI f)), (4, .int (nI w)), (5, .int (nI k)), (6, .int (nI o)), (7, .int (nI n)), (8, .int (bI (lv g k)))]) : W pg l en ({ frames := 9, cells := 100, slots := 1300, locals := 153 } : Room) s m args bl mt cd s.heap [] 0 0 (MQ bl (MQv (fun v H => v = some (.int (bI true)) ∧ ∃ A' F' P' g', A' 0 = A 0 ∧ AD q sz A' F' P' ∧ Ix (nn + 1) F' P' g' ∧ F ≤ F' ∧ P ≤ P' ∧ LH D ci cz cj q A' F' P' g' H) (bg sz)) args s 100 1300 (bg sz)) (F0 m 421 ls []) := by
  have hx := Fx.1
  have hb := Fx.2.1
  obtain ⟨hK, hE, hNC⟩ := id hL
  have hO := hE.2.2.2.2
  have hFb := hI.b.1
  have hPb := hI.b.2
  have hin : ∀ w ∈ wsX10, w ∈ wsL_act := by decide +kernel
  have hS : va_S (bg sz) s.heap s.heap [] := va_S.rf
  have sabg : ∀ q9, SA A F P q9 → bg sz q9 := by
    rintro q9 ⟨j, hj, rfl⟩
    exact (hAD.2 j hj).1
  refine lv_iload hx hb dL_act_421 (lv_at hl 8 rfl) ?_
  refine lv_aload_n hx hb dL_act_423 rfl (lv_at hl 1 rfl) ?_
  refine lv_iload_n hx hb dL_act_424 rfl (lv_at hl 3 rfl) ?_
  refine lv_iload hx hb dL_act_425 (lv_at hl 4 rfl) ?_
  refine lv_iconst (v := -1) hx hb dL_act_427 (by decide) ?_
  refine r_callR (rest := [.int (bI (lv g k))]) Fx (m_X1_hasC l (D := D) (ci := ci) (cz := cz) (cj := cj) (A := A) (F := F) (P := P) (g := g) (by omega) (by omega) f w (by omega) (by omega)) (cwV 3 Fx.2.2.2.2 gL_act_X1_has rfl rfl rfl (by decide +kernel) ⟨Nat.le_of_ble_eq_true rfl, Nat.le_of_ble_eq_true rfl⟩) BX.bl (hQX.rc hK) (BX.at hQX hK hO) rfl hl.1 rfl (Nat.le_of_ble_eq_true rfl) dL_act_428 ⟨by show _ ≤ 100; omega, by show _ ≤ 1300; omega⟩ ?_
  refine lv_iload hx hb dL_act_431 (lv_at hl 7 rfl) ?_
  refine lv_icmp_lt (tgt := 440) hx hb dL_act_433 (by decide) (fun h1 => ?_) (fun h1 => ?_)
  · refine lv_iconst (v := nI 0) hx hb dL_act_440 (by decide) ?_
    refine lv_iand hx hb dL_act_441 ?_
    rw [bI_a0]
    refine lv_istore (lv' := [(8, .int (nI 0)), (0, .ref (q 0)), (1, .ref (A 0)), (2, .int x), (3, .int (nI f)), (4, .int (nI w)), (5, .int (nI k)), (6, .int (nI o)), (7, .int (nI n))]) hx hb dL_act_442 hl (by decide) rfl (fun ls hl => ?_)
    refine lv_iload hx hb dL_act_444 (lv_at hl 0 rfl) ?_
    refine n_if_eq (tgt := 461) hx hb (by omega) dL_act_446 (by decide) (fun h2 => ?_) (fun h2 => by omega)
    refine lv_aload_n hx hb dL_act_461 rfl (lv_at hl 1 rfl) ?_
    refine lv_iload_n hx hb dL_act_462 rfl (lv_at hl 4 rfl) ?_
    refine lv_iload hx hb dL_act_463 (lv_at hl 5 rfl) ?_
    refine lv_iload hx hb dL_act_465 (lv_at hl 6 rfl) ?_
    refine lv_iload hx hb dL_act_467 (lv_at hl 8 rfl) ?_
    have hK9 : k_grant F P g (nI f) (nI w) (nI k) (nI n) = 3 := by unfold k_grant; rw [if_pos ⟨inR_nI hf (by omega), inR_nI hw (by omega), inR_nI hk (by omega)⟩, if_pos ⟨nI_le (by omega) (by omega), nI_le (by omega) (by omega)⟩, ix_nI (by omega), ix_nI (by omega), ix_nI (by omega), if_neg (fun h9 => absurd h9.2 (Int32.not_le.mpr h1))]
    refine r_callT (rest := []) Fx (t_grant l hl0 (D := D) (ci := ci) (cz := cz) (cj := cj) (q := q) (F := F) (P := P) (g := g) hq (by omega) (by omega) f w k (nI n) (by omega) (by omega) (by omega) ) (cwV 4 Fx.2.2.2.2 gL_act_X0_grant rfl rfl rfl (by decide +kernel) ⟨Nat.le_of_ble_eq_true rfl, Nat.le_of_ble_eq_true rfl⟩) BW.bl (va_recv hK hP (ci := 0) (q0 := 0) rfl rfl) (BWb hqs hP hL hS) rfl hl.1 rfl (Nat.le_of_ble_eq_true rfl) dL_act_469 ⟨by show _ ≤ 100; omega, by show _ ≤ 1300; omega⟩ hS (fun q9 h9 => bg_aw hqs q9 h9) (fun H locs hk0 _ _ _ => absurd (hK9.symm.trans hk0) (Nat.succ_ne_zero _)) (fun j E ce q9 H locs hj hxs hh hS hce hcv hcl => ?_)
    obtain rfl : j = 2 := by have := hK9.symm.trans hj; omega
    obtain rfl : xIS = E := Option.some.inj hxs
    have kp := KP.of hh
    have hQX : SS D ci cj A F P g H := hQX.mv kp (fun _ _ h9 => h9.elim)
    have hP : va_P D vwCl (w0 ci cz q F P g) H := P_all hP hh
    refine l_ise (i := 421) (n := 493) (b := 889) (k := 95) 4 Fx hE htab (by decide) (by decide +kernel) rfl (by decide) (by decide) hce hcv hcl ?_
    refine lv_astore (lv' := [(9, .ref q9), (8, .int (nI 0)), (0, .ref (q 0)), (1, .ref (A 0)), (2, .int x), (3, .int (nI f)), (4, .int (nI w)), (5, .int (nI k)), (6, .int (nI o)), (7, .int (nI n))]) hx hb dL_act_889 hl (by decide) rfl (fun ls hl => ?_)
    refine lv_iload hx hb dL_act_891 (lv_at hl 1 rfl) ?_
    refine n_if_ne (tgt := 900) hx hb (by omega) dL_act_893 (by decide) (fun h3 => by omega) (fun h3 => ?_)
    refine lv_iconst (v := nI 1) hx hb dL_act_896 (by decide) ?_
    refine lv_goto (tgt := 901) hx hb dL_act_897 (by decide) ?_
    exact m_zret (b := true) hx hb hr hlocks hS ⟨rfl, A, F, P, g, rfl, hAD, hI.mono (Nat.le_succ _), by omega, by omega, ⟨hP, hQX⟩⟩ (by omega) (by omega) dL_act_901
  · have h1 := Int32.not_lt.mp h1
    refine lv_iconst (v := nI 1) hx hb dL_act_436 (by decide) ?_
    refine lv_goto (tgt := 441) hx hb dL_act_437 (by decide) ?_
    refine lv_iand hx hb dL_act_441 ?_
    rw [bI_a1]
    refine lv_istore (lv' := [(8, .int (bI (lv g k))), (0, .ref (q 0)), (1, .ref (A 0)), (2, .int x), (3, .int (nI f)), (4, .int (nI w)), (5, .int (nI k)), (6, .int (nI o)), (7, .int (nI n))]) hx hb dL_act_442 hl (by decide) rfl (fun ls hl => ?_)
    refine lv_iload hx hb dL_act_444 (lv_at hl 0 rfl) ?_
    refine b_if_eq (tgt := 461) hx hb dL_act_446 (by decide) (fun h4 => ?_) (fun h4 => ?_)
    · rw [h4] at hl
      have hl : lv_has ls 11 [(8, .int (nI 0)), (0, .ref (q 0)), (1, .ref (A 0)), (2, .int x), (3, .int (nI f)), (4, .int (nI w)), (5, .int (nI k)), (6, .int (nI o)), (7, .int (nI n))] := hl
      refine lv_aload_n hx hb dL_act_461 rfl (lv_at hl 1 rfl) ?_
      refine lv_iload_n hx hb dL_act_462 rfl (lv_at hl 4 rfl) ?_
      refine lv_iload hx hb dL_act_463 (lv_at hl 5 rfl) ?_
      refine lv_iload hx hb dL_act_465 (lv_at hl 6 rfl) ?_
      refine lv_iload hx hb dL_act_467 (lv_at hl 8 rfl) ?_
      have hK9 : k_grant F P g (nI f) (nI w) (nI k) (nI n) = 3 := by unfold k_grant; rw [if_pos ⟨inR_nI hf (by omega), inR_nI hw (by omega), inR_nI hk (by omega)⟩, if_pos ⟨nI_le (by omega) (by omega), nI_le (by omega) (by omega)⟩, ix_nI (by omega), ix_nI (by omega), ix_nI (by omega), if_neg (fun h9 => by have h8 := h9.1; rw [h4] at h8; cases h8)]
      refine r_callT (rest := []) Fx (t_grant l hl0 (D := D) (ci := ci) (cz := cz) (cj := cj) (q := q) (F := F) (P := P) (g := g) hq (by omega) (by omega) f w k (nI n) (by omega) (by omega) (by omega) ) (cwV 4 Fx.2.2.2.2 gL_act_X0_grant rfl rfl rfl (by decide +kernel) ⟨Nat.le_of_ble_eq_true rfl, Nat.le_of_ble_eq_true rfl⟩) BW.bl (va_recv hK hP (ci := 0) (q0 := 0) rfl rfl) (BWb hqs hP hL hS) rfl hl.1 rfl (Nat.le_of_ble_eq_true rfl) dL_act_469 ⟨by show _ ≤ 100; omega, by show _ ≤ 1300; omega⟩ hS (fun q9 h9 => bg_aw hqs q9 h9) (fun H locs hk0 _ _ _ => absurd (hK9.symm.trans hk0) (Nat.succ_ne_zero _)) (fun j E ce q9 H locs hj hxs hh hS hce hcv hcl => ?_)
      obtain rfl : j = 2 := by have := hK9.symm.trans hj; omega
      obtain rfl : xIS = E := Option.some.inj hxs
      have kp := KP.of hh
      have hQX : SS D ci cj A F P g H := hQX.mv kp (fun _ _ h9 => h9.elim)
      have hP : va_P D vwCl (w0 ci cz q F P g) H := P_all hP hh
      refine l_ise (i := 421) (n := 493) (b := 889) (k := 95) 4 Fx hE htab (by decide) (by decide +kernel) rfl (by decide) (by decide) hce hcv hcl ?_
      refine lv_astore (lv' := [(9, .ref q9), (8, .int (nI 0)), (0, .ref (q 0)), (1, .ref (A 0)), (2, .int x), (3, .int (nI f)), (4, .int (nI w)), (5, .int (nI k)), (6, .int (nI o)), (7, .int (nI n))]) hx hb dL_act_889 hl (by decide) rfl (fun ls hl => ?_)
      refine lv_iload hx hb dL_act_891 (lv_at hl 1 rfl) ?_
      refine n_if_ne (tgt := 900) hx hb (by omega) dL_act_893 (by decide) (fun h5 => by omega) (fun h5 => ?_)
      refine lv_iconst (v := nI 1) hx hb dL_act_896 (by decide) ?_
      refine lv_goto (tgt := 901) hx hb dL_act_897 (by decide) ?_
      exact m_zret (b := true) hx hb hr hlocks hS ⟨rfl, A, F, P, g, rfl, hAD, hI.mono (Nat.le_succ _), by omega, by omega, ⟨hP, hQX⟩⟩ (by omega) (by omega) dL_act_901
    · rw [h4] at hl
      have hl : lv_has ls 11 [(8, .int (nI 1)), (0, .ref (q 0)), (1, .ref (A 0)), (2, .int x), (3, .int (nI f)), (4, .int (nI w)), (5, .int (nI k)), (6, .int (nI o)), (7, .int (nI n))] := hl
      refine lv_aload_n hx hb dL_act_449 rfl (lv_at hl 2 rfl) ?_
      refine lv_iload_n hx hb dL_act_450 rfl (lv_at hl 4 rfl) ?_
      refine lv_iload hx hb dL_act_451 (lv_at hl 5 rfl) ?_
      refine lv_iconst (v := -1) hx hb dL_act_453 (by decide) ?_
      refine lv_iload hx hb dL_act_454 (lv_at hl 6 rfl) ?_
      refine lv_iload hx hb dL_act_456 (lv_at hl 8 rfl) ?_
      refine r_callW (rest := []) Fx (m_X1_handC l (D := D) (ci := ci) (cz := cz) (cj := cj) (A := A) (F := F) (P := P) (g := g) (by omega) (by omega) f w k n (by omega) (by omega) (by omega) h1 (by omega) hAD.1) (cwV 5 Fx.2.2.2.2 gL_act_X1_hand rfl rfl rfl (by decide +kernel) ⟨Nat.le_of_ble_eq_true rfl, Nat.le_of_ble_eq_true rfl⟩) BX.bl (hQX.rc hK) (BX.at hQX hK hO) rfl hl.1 rfl (Nat.le_of_ble_eq_true rfl) dL_act_458 ⟨by show _ ≤ 100; omega, by show _ ≤ 1300; omega⟩ hS (fun q9 h9 => sabg q9 h9) (fun H locs hQ9 hS hsz9 hk9 => ?_)
      have kp : KP (SA A F P) _ H := ⟨hsz9, hk9⟩
      have hQX : SS D ci cj A F P (gAdd g f w k (nI n)) H := hQ9
      have hP : va_P D vwCl (w0 ci cz q F P g) H := w0_s hAD hP kp
      refine lv_aload_n hx hb dL_act_461 rfl (lv_at hl 1 rfl) ?_
      refine lv_iload_n hx hb dL_act_462 rfl (lv_at hl 4 rfl) ?_
      refine lv_iload hx hb dL_act_463 (lv_at hl 5 rfl) ?_
      refine lv_iload hx hb dL_act_465 (lv_at hl 6 rfl) ?_
      refine lv_iload hx hb dL_act_467 (lv_at hl 8 rfl) ?_
      have hK9 : k_grant F P g (nI f) (nI w) (nI k) (nI n) = 0 := by unfold k_grant; rw [if_pos ⟨inR_nI hf (by omega), inR_nI hw (by omega), inR_nI hk (by omega)⟩, if_pos ⟨nI_le (by omega) (by omega), nI_le (by omega) (by omega)⟩, ix_nI (by omega), ix_nI (by omega), ix_nI (by omega), if_pos ⟨h4, h1⟩]
      refine r_callT (rest := []) Fx (t_grant l hl0 (D := D) (ci := ci) (cz := cz) (cj := cj) (q := q) (F := F) (P := P) (g := g) hq (by omega) (by omega) f w k (nI n) (by omega) (by omega) (by omega) ) (cwV 4 Fx.2.2.2.2 gL_act_X0_grant rfl rfl rfl (by decide +kernel) ⟨Nat.le_of_ble_eq_true rfl, Nat.le_of_ble_eq_true rfl⟩) BW.bl (va_recv hK hP (ci := 0) (q0 := 0) rfl rfl) (BWb hqs hP hL hS) rfl hl.1 rfl (Nat.le_of_ble_eq_true rfl) dL_act_469 ⟨by show _ ≤ 100; omega, by show _ ≤ 1300; omega⟩ hS (fun q9 h9 => bg_aw hqs q9 h9) (fun H locs hk0 hP kp hS => ?_) (fun j E ce q9 H locs hj _ _ _ _ _ _ => absurd (hK9.symm.trans hj) (Nat.succ_ne_zero j).symm)
      have hQX : SS D ci cj A F P (gAdd g f w k (nI n)) H := SS_m hAD hQX kp
      have hP : va_P D vwCl (w0 ci cz q F P (gAdd g f w k (nI n))) H := hP
      refine lv_aload_n hx hb dL_act_472 rfl (lv_at hl 2 rfl) ?_
      refine lv_iload_n hx hb dL_act_473 rfl (lv_at hl 4 rfl) ?_
      refine lv_iload hx hb dL_act_474 (lv_at hl 5 rfl) ?_
      refine lv_iconst (v := -1) hx hb dL_act_476 (by decide) ?_
      refine r_callR (rest := [.int (sCro (gAdd g f w k (nI n)) P f w)]) Fx (m_X1_hasC l (D := D) (ci := ci) (cz := cz) (cj := cj) (A := A) (F := F) (P := P) (g := gAdd g f w k (nI n)) (by omega) (by omega) f w (by omega) (by omega)) (cwV 3 Fx.2.2.2.2 gL_act_X1_has rfl rfl rfl (by decide +kernel) ⟨Nat.le_of_ble_eq_true rfl, Nat.le_of_ble_eq_true rfl⟩) BX.bl (hQX.rc hK) (BX.at hQX hK hO) rfl hl.1 rfl (Nat.le_of_ble_eq_true rfl) dL_act_477 ⟨by show _ ≤ 100; omega, by show _ ≤ 1300; omega⟩ ?_
      refine lv_icmp_ne (tgt := 492) hx hb dL_act_480 (by decide) (fun h6 => absurd rfl h6) (fun h6 => ?_)
      refine lv_iload hx hb dL_act_483 (lv_at hl 0 rfl) ?_
      refine n_if_eq (tgt := 492) hx hb (by omega) dL_act_485 (by decide) (fun h7 => by omega) (fun h7 => ?_)
      refine lv_iconst (v := nI 1) hx hb dL_act_488 (by decide) ?_
      refine lv_goto (tgt := 493) hx hb dL_act_489 (by decide) ?_
      exact m_zret (b := true) hx hb hr hlocks hS ⟨rfl, A, F, P, (gAdd g f w k (nI n)), rfl, hAD, (ix_grant hI hf hw hk (by rw [nI_toInt (by omega)]; omega) (by rw [nI_toInt (by omega)]; omega) h1 h4).mono (Nat.le_succ _), by omega, by omega, ⟨hP, hQX⟩⟩ (by omega) (by omega) dL_act_493
set_option maxHeartbeats 8000000 in
set_option maxRecDepth 100000 in
theorem ac_9 {pg : Program} {l : Launch} {en : Env} {s : State} {m : MethodId} {args : Array Value} {bl : List Frame} {mt : Method} {cd : Code} {ls : Array Slot} {D : va_G} {ci cz : ClassId} {cj : ClassId × ClassId} {q : Nat → Nat} {sz : Nat} {A : Nat → Nat} {F P : Nat} {g : Nat → Nat → Int32} {nn : Nat} {x : Int32} {f w k o n : Nat} (hl0 : l.stackTraces = false) (Fx : CallFix pg m cd cL_act 11 s args wsL_act RL) (hr : mt.sig.returnType = some .boolean) (hlocks : mt.locks = false) (htab : cd.exceptionTable.toList = tableOf [(96, 236, 889, 95), (237, 288, 889, 95), (289, 346, 889, 95), (347, 420, 889, 95), (421, 493, 889, 95), (494, 502, 889, 95), (503, 580, 889, 95), (581, 679, 889, 95), (680, 779, 889, 95), (780, 792, 889, 95), (793, 834, 889, 95), (835, 888, 889, 95)]) (hL : EL D ci cz cj sz s) (hq : DQ q 8) (hqs : ∀ k, k < 8 → sz ≤ q k) (hAD : AD q sz A F P) (hsz : sz ≤ s.heap.size) (hI : Ix nn F P g) (hnn : nn ≤ 900) (hP : va_P D vwCl (w0 ci cz q F P g) s.heap) (hQX : SS D ci cj A F P g s.heap) (hf : f < F) (hw : w < 4) (hk : k < P) (ho : o < P) (hn1 : 1 ≤ n) (hn2 : n ≤ 64) (hl : lv_has ls 11 [(0, .ref (q 0)), (1, .ref (A 0)), (2, .int x), (3, .int (nI f)), (4, .int (nI w)), (5, .int (nI k)), (6, .int (nI o)), (7, .int (nI n)), (8, .int (bI (lv g k)))]) : W pg l en ({ frames := 9, cells := 100, slots := 1300, locals := 153 } : Room) s m args bl mt cd s.heap [] 0 0 (MQ bl (MQv (fun v H => v = some (.int (bI true)) ∧ ∃ A' F' P' g', A' 0 = A 0 ∧ AD q sz A' F' P' ∧ Ix (nn + 1) F' P' g' ∧ F ≤ F' ∧ P ≤ P' ∧ LH D ci cz cj q A' F' P' g' H) (bg sz)) args s 100 1300 (bg sz)) (F0 m 494 ls []) := by
  have hx := Fx.1
  have hb := Fx.2.1
  obtain ⟨hK, hE, hNC⟩ := id hL
  have hO := hE.2.2.2.2
  have hFb := hI.b.1
  have hPb := hI.b.2
  have hin : ∀ w ∈ wsX10, w ∈ wsL_act := by decide +kernel
  have hS : va_S (bg sz) s.heap s.heap [] := va_S.rf
  have sabg : ∀ q9, SA A F P q9 → bg sz q9 := by
    rintro q9 ⟨j, hj, rfl⟩
    exact (hAD.2 j hj).1
  refine lv_iload hx hb dL_act_494 (lv_at hl 5 rfl) ?_
  refine lv_iload hx hb dL_act_496 (lv_at hl 6 rfl) ?_
  refine n_icmp_ne (tgt := 503) hx hb (by omega) (by omega) dL_act_498 (by decide) (fun h1 => ?_) (fun h1 => ?_)
  · have hko : k ≠ o := h1
    refine lv_iload hx hb dL_act_503 (lv_at hl 8 rfl) ?_
    refine lv_aload_n hx hb dL_act_505 rfl (lv_at hl 1 rfl) ?_
    refine lv_iload_n hx hb dL_act_506 rfl (lv_at hl 3 rfl) ?_
    refine lv_iload hx hb dL_act_507 (lv_at hl 4 rfl) ?_
    refine lv_iload hx hb dL_act_509 (lv_at hl 6 rfl) ?_
    refine r_callR (rest := [.int (bI (lv g k))]) Fx (m_X1_has l (D := D) (ci := ci) (cz := cz) (cj := cj) (A := A) (F := F) (P := P) (g := g) (by omega) (by omega) f w o (by omega) (by omega) (by omega)) (cwV 3 Fx.2.2.2.2 gL_act_X1_has rfl rfl rfl (by decide +kernel) ⟨Nat.le_of_ble_eq_true rfl, Nat.le_of_ble_eq_true rfl⟩) BX.bl (hQX.rc hK) (BX.at hQX hK hO) rfl hl.1 rfl (Nat.le_of_ble_eq_true rfl) dL_act_511 ⟨by show _ ≤ 100; omega, by show _ ≤ 1300; omega⟩ ?_
    refine lv_iload hx hb dL_act_514 (lv_at hl 7 rfl) ?_
    refine lv_icmp_lt (tgt := 523) hx hb dL_act_516 (by decide) (fun h2 => ?_) (fun h2 => ?_)
    · refine lv_iconst (v := nI 0) hx hb dL_act_523 (by decide) ?_
      refine lv_iand hx hb dL_act_524 ?_
      rw [bI_a0]
      refine lv_istore (lv' := [(8, .int (nI 0)), (0, .ref (q 0)), (1, .ref (A 0)), (2, .int x), (3, .int (nI f)), (4, .int (nI w)), (5, .int (nI k)), (6, .int (nI o)), (7, .int (nI n))]) hx hb dL_act_525 hl (by decide) rfl (fun ls hl => ?_)
      refine lv_iload hx hb dL_act_527 (lv_at hl 0 rfl) ?_
      refine n_if_eq (tgt := 545) hx hb (by omega) dL_act_529 (by decide) (fun h3 => ?_) (fun h3 => by omega)
      refine lv_aload_n hx hb dL_act_545 rfl (lv_at hl 1 rfl) ?_
      refine lv_iload hx hb dL_act_546 (lv_at hl 7 rfl) ?_
      refine lv_iload hx hb dL_act_548 (lv_at hl 6 rfl) ?_
      refine lv_iload_n hx hb dL_act_550 rfl (lv_at hl 4 rfl) ?_
      refine lv_iload hx hb dL_act_551 (lv_at hl 5 rfl) ?_
      refine lv_iload hx hb dL_act_553 (lv_at hl 8 rfl) ?_
      have hK9 : k_give F P g (nI o) (nI k) (nI f) (nI w) (nI n) = 3 := by unfold k_give; rw [if_pos ⟨inR_nI ho (by omega), inR_nI hk (by omega), inR_nI hf (by omega), inR_nI hw (by omega)⟩, if_pos ⟨⟨nI_le (by omega) (by omega), nI_le (by omega) (by omega)⟩, fun h9 => hko ((nI_eq (by omega) (by omega)).mp h9).symm⟩, ix_nI (by omega), ix_nI (by omega), ix_nI (by omega), ix_nI (by omega), if_neg (fun h9 => absurd h9.2 (Int32.not_le.mpr h2))]
      refine r_callT (rest := []) Fx (t_give l hl0 (D := D) (ci := ci) (cz := cz) (cj := cj) (q := q) (F := F) (P := P) (g := g) hq (by omega) (by omega) o k f w (nI n) (by omega) (by omega) (by omega) (by omega) ) (cwV 5 Fx.2.2.2.2 gL_act_X0_give rfl rfl rfl (by decide +kernel) ⟨Nat.le_of_ble_eq_true rfl, Nat.le_of_ble_eq_true rfl⟩) BW.bl (va_recv hK hP (ci := 0) (q0 := 0) rfl rfl) (BWb hqs hP hL hS) rfl hl.1 rfl (Nat.le_of_ble_eq_true rfl) dL_act_555 ⟨by show _ ≤ 100; omega, by show _ ≤ 1300; omega⟩ hS (fun q9 h9 => bg_aw hqs q9 h9) (fun H locs hk0 _ _ _ => absurd (hK9.symm.trans hk0) (Nat.succ_ne_zero _)) (fun j E ce q9 H locs hj hxs hh hS hce hcv hcl => ?_)
      obtain rfl : j = 2 := by have := hK9.symm.trans hj; omega
      obtain rfl : xIS = E := Option.some.inj hxs
      have kp := KP.of hh
      have hQX : SS D ci cj A F P g H := hQX.mv kp (fun _ _ h9 => h9.elim)
      have hP : va_P D vwCl (w0 ci cz q F P g) H := P_all hP hh
      refine l_ise (i := 503) (n := 580) (b := 889) (k := 95) 6 Fx hE htab (by decide) (by decide +kernel) rfl (by decide) (by decide) hce hcv hcl ?_
      refine lv_astore (lv' := [(9, .ref q9), (8, .int (nI 0)), (0, .ref (q 0)), (1, .ref (A 0)), (2, .int x), (3, .int (nI f)), (4, .int (nI w)), (5, .int (nI k)), (6, .int (nI o)), (7, .int (nI n))]) hx hb dL_act_889 hl (by decide) rfl (fun ls hl => ?_)
      refine lv_iload hx hb dL_act_891 (lv_at hl 1 rfl) ?_
      refine n_if_ne (tgt := 900) hx hb (by omega) dL_act_893 (by decide) (fun h4 => by omega) (fun h4 => ?_)
      refine lv_iconst (v := nI 1) hx hb dL_act_896 (by decide) ?_
      refine lv_goto (tgt := 901) hx hb dL_act_897 (by decide) ?_
      exact m_zret (b := true) hx hb hr hlocks hS ⟨rfl, A, F, P, g, rfl, hAD, hI.mono (Nat.le_succ _), by omega, by omega, ⟨hP, hQX⟩⟩ (by omega) (by omega) dL_act_901
    · have h2 := Int32.not_lt.mp h2
      refine lv_iconst (v := nI 1) hx hb dL_act_519 (by decide) ?_
      refine lv_goto (tgt := 524) hx hb dL_act_520 (by decide) ?_
      refine lv_iand hx hb dL_act_524 ?_
      rw [bI_a1]
      refine lv_istore (lv' := [(8, .int (bI (lv g k))), (0, .ref (q 0)), (1, .ref (A 0)), (2, .int x), (3, .int (nI f)), (4, .int (nI w)), (5, .int (nI k)), (6, .int (nI o)), (7, .int (nI n))]) hx hb dL_act_525 hl (by decide) rfl (fun ls hl => ?_)
      refine lv_iload hx hb dL_act_527 (lv_at hl 0 rfl) ?_
      refine b_if_eq (tgt := 545) hx hb dL_act_529 (by decide) (fun h5 => ?_) (fun h5 => ?_)
      · rw [h5] at hl
        have hl : lv_has ls 11 [(8, .int (nI 0)), (0, .ref (q 0)), (1, .ref (A 0)), (2, .int x), (3, .int (nI f)), (4, .int (nI w)), (5, .int (nI k)), (6, .int (nI o)), (7, .int (nI n))] := hl
        refine lv_aload_n hx hb dL_act_545 rfl (lv_at hl 1 rfl) ?_
        refine lv_iload hx hb dL_act_546 (lv_at hl 7 rfl) ?_
        refine lv_iload hx hb dL_act_548 (lv_at hl 6 rfl) ?_
        refine lv_iload_n hx hb dL_act_550 rfl (lv_at hl 4 rfl) ?_
        refine lv_iload hx hb dL_act_551 (lv_at hl 5 rfl) ?_
        refine lv_iload hx hb dL_act_553 (lv_at hl 8 rfl) ?_
        have hK9 : k_give F P g (nI o) (nI k) (nI f) (nI w) (nI n) = 3 := by unfold k_give; rw [if_pos ⟨inR_nI ho (by omega), inR_nI hk (by omega), inR_nI hf (by omega), inR_nI hw (by omega)⟩, if_pos ⟨⟨nI_le (by omega) (by omega), nI_le (by omega) (by omega)⟩, fun h9 => hko ((nI_eq (by omega) (by omega)).mp h9).symm⟩, ix_nI (by omega), ix_nI (by omega), ix_nI (by omega), ix_nI (by omega), if_neg (fun h9 => by have h8 := h9.1; rw [h5] at h8; cases h8)]
        refine r_callT (rest := []) Fx (t_give l hl0 (D := D) (ci := ci) (cz := cz) (cj := cj) (q := q) (F := F) (P := P) (g := g) hq (by omega) (by omega) o k f w (nI n) (by omega) (by omega) (by omega) (by omega) ) (cwV 5 Fx.2.2.2.2 gL_act_X0_give rfl rfl rfl (by decide +kernel) ⟨Nat.le_of_ble_eq_true rfl, Nat.le_of_ble_eq_true rfl⟩) BW.bl (va_recv hK hP (ci := 0) (q0 := 0) rfl rfl) (BWb hqs hP hL hS) rfl hl.1 rfl (Nat.le_of_ble_eq_true rfl) dL_act_555 ⟨by show _ ≤ 100; omega, by show _ ≤ 1300; omega⟩ hS (fun q9 h9 => bg_aw hqs q9 h9) (fun H locs hk0 _ _ _ => absurd (hK9.symm.trans hk0) (Nat.succ_ne_zero _)) (fun j E ce q9 H locs hj hxs hh hS hce hcv hcl => ?_)
        obtain rfl : j = 2 := by have := hK9.symm.trans hj; omega
        obtain rfl : xIS = E := Option.some.inj hxs
        have kp := KP.of hh
        have hQX : SS D ci cj A F P g H := hQX.mv kp (fun _ _ h9 => h9.elim)
        have hP : va_P D vwCl (w0 ci cz q F P g) H := P_all hP hh
        refine l_ise (i := 503) (n := 580) (b := 889) (k := 95) 6 Fx hE htab (by decide) (by decide +kernel) rfl (by decide) (by decide) hce hcv hcl ?_
        refine lv_astore (lv' := [(9, .ref q9), (8, .int (nI 0)), (0, .ref (q 0)), (1, .ref (A 0)), (2, .int x), (3, .int (nI f)), (4, .int (nI w)), (5, .int (nI k)), (6, .int (nI o)), (7, .int (nI n))]) hx hb dL_act_889 hl (by decide) rfl (fun ls hl => ?_)
        refine lv_iload hx hb dL_act_891 (lv_at hl 1 rfl) ?_
        refine n_if_ne (tgt := 900) hx hb (by omega) dL_act_893 (by decide) (fun h6 => by omega) (fun h6 => ?_)
        refine lv_iconst (v := nI 1) hx hb dL_act_896 (by decide) ?_
        refine lv_goto (tgt := 901) hx hb dL_act_897 (by decide) ?_
        exact m_zret (b := true) hx hb hr hlocks hS ⟨rfl, A, F, P, g, rfl, hAD, hI.mono (Nat.le_succ _), by omega, by omega, ⟨hP, hQX⟩⟩ (by omega) (by omega) dL_act_901
      · rw [h5] at hl
        have hl : lv_has ls 11 [(8, .int (nI 1)), (0, .ref (q 0)), (1, .ref (A 0)), (2, .int x), (3, .int (nI f)), (4, .int (nI w)), (5, .int (nI k)), (6, .int (nI o)), (7, .int (nI n))] := hl
        refine lv_aload_n hx hb dL_act_532 rfl (lv_at hl 2 rfl) ?_
        refine lv_iload_n hx hb dL_act_533 rfl (lv_at hl 4 rfl) ?_
        refine lv_iload hx hb dL_act_534 (lv_at hl 5 rfl) ?_
        refine lv_iload hx hb dL_act_536 (lv_at hl 7 rfl) ?_
        refine lv_iload hx hb dL_act_538 (lv_at hl 6 rfl) ?_
        refine lv_iload hx hb dL_act_540 (lv_at hl 8 rfl) ?_
        refine r_callW (rest := []) Fx (m_X1_handP l (D := D) (ci := ci) (cz := cz) (cj := cj) (A := A) (F := F) (P := P) (g := g) (by omega) (by omega) f w o k n (by omega) (by omega) (by omega) (by omega) (Ne.symm hko) h2 (by omega) hAD.1) (cwV 5 Fx.2.2.2.2 gL_act_X1_hand rfl rfl rfl (by decide +kernel) ⟨Nat.le_of_ble_eq_true rfl, Nat.le_of_ble_eq_true rfl⟩) BX.bl (hQX.rc hK) (BX.at hQX hK hO) rfl hl.1 rfl (Nat.le_of_ble_eq_true rfl) dL_act_542 ⟨by show _ ≤ 100; omega, by show _ ≤ 1300; omega⟩ hS (fun q9 h9 => sabg q9 h9) (fun H locs hQ9 hS hsz9 hk9 => ?_)
        have kp : KP (SA A F P) _ H := ⟨hsz9, hk9⟩
        have hQX : SS D ci cj A F P (gAdd (gAdd g f w o (-(nI n))) f w k (nI n)) H := hQ9
        have hP : va_P D vwCl (w0 ci cz q F P g) H := w0_s hAD hP kp
        refine lv_aload_n hx hb dL_act_545 rfl (lv_at hl 1 rfl) ?_
        refine lv_iload hx hb dL_act_546 (lv_at hl 7 rfl) ?_
        refine lv_iload hx hb dL_act_548 (lv_at hl 6 rfl) ?_
        refine lv_iload_n hx hb dL_act_550 rfl (lv_at hl 4 rfl) ?_
        refine lv_iload hx hb dL_act_551 (lv_at hl 5 rfl) ?_
        refine lv_iload hx hb dL_act_553 (lv_at hl 8 rfl) ?_
        have hK9 : k_give F P g (nI o) (nI k) (nI f) (nI w) (nI n) = 0 := by unfold k_give; rw [if_pos ⟨inR_nI ho (by omega), inR_nI hk (by omega), inR_nI hf (by omega), inR_nI hw (by omega)⟩, if_pos ⟨⟨nI_le (by omega) (by omega), nI_le (by omega) (by omega)⟩, fun h9 => hko ((nI_eq (by omega) (by omega)).mp h9).symm⟩, ix_nI (by omega), ix_nI (by omega), ix_nI (by omega), ix_nI (by omega), if_pos ⟨h5, h2⟩]
        refine r_callT (rest := []) Fx (t_give l hl0 (D := D) (ci := ci) (cz := cz) (cj := cj) (q := q) (F := F) (P := P) (g := g) hq (by omega) (by omega) o k f w (nI n) (by omega) (by omega) (by omega) (by omega) ) (cwV 5 Fx.2.2.2.2 gL_act_X0_give rfl rfl rfl (by decide +kernel) ⟨Nat.le_of_ble_eq_true rfl, Nat.le_of_ble_eq_true rfl⟩) BW.bl (va_recv hK hP (ci := 0) (q0 := 0) rfl rfl) (BWb hqs hP hL hS) rfl hl.1 rfl (Nat.le_of_ble_eq_true rfl) dL_act_555 ⟨by show _ ≤ 100; omega, by show _ ≤ 1300; omega⟩ hS (fun q9 h9 => bg_aw hqs q9 h9) (fun H locs hk0 hP kp hS => ?_) (fun j E ce q9 H locs hj _ _ _ _ _ _ => absurd (hK9.symm.trans hj) (Nat.succ_ne_zero j).symm)
        have hQX : SS D ci cj A F P (gAdd (gAdd g f w o (-(nI n))) f w k (nI n)) H := SS_m hAD hQX kp
        have hP : va_P D vwCl (w0 ci cz q F P (gGiv g o k f w (nI n))) H := hP
        refine lv_aload_n hx hb dL_act_558 rfl (lv_at hl 2 rfl) ?_
        refine lv_iload_n hx hb dL_act_559 rfl (lv_at hl 4 rfl) ?_
        refine lv_iload hx hb dL_act_560 (lv_at hl 5 rfl) ?_
        refine lv_iload hx hb dL_act_562 (lv_at hl 6 rfl) ?_
        refine r_callR (rest := [.int (own (gGiv g o k f w (nI n)) f w k)]) Fx (m_X1_has l (D := D) (ci := ci) (cz := cz) (cj := cj) (A := A) (F := F) (P := P) (g := gAdd (gAdd g f w o (-(nI n))) f w k (nI n)) (by omega) (by omega) f w k (by omega) (by omega) (by omega)) (cwV 3 Fx.2.2.2.2 gL_act_X1_has rfl rfl rfl (by decide +kernel) ⟨Nat.le_of_ble_eq_true rfl, Nat.le_of_ble_eq_true rfl⟩) BX.bl (hQX.rc hK) (BX.at hQX hK hO) rfl hl.1 rfl (Nat.le_of_ble_eq_true rfl) dL_act_564 ⟨by show _ ≤ 100; omega, by show _ ≤ 1300; omega⟩ ?_
        refine lv_icmp_ne (tgt := 579) hx hb dL_act_567 (by decide) (fun h7 => absurd rfl h7) (fun h7 => ?_)
        refine lv_iload hx hb dL_act_570 (lv_at hl 0 rfl) ?_
        refine n_if_eq (tgt := 579) hx hb (by omega) dL_act_572 (by decide) (fun h8 => by omega) (fun h8 => ?_)
        refine lv_iconst (v := nI 1) hx hb dL_act_575 (by decide) ?_
        refine lv_goto (tgt := 580) hx hb dL_act_576 (by decide) ?_
        exact m_zret (b := true) hx hb hr hlocks hS ⟨rfl, A, F, P, (gAdd (gAdd g f w o (-(nI n))) f w k (nI n)), rfl, hAD, (ix_give hI hf hw ho hk (Ne.symm hko) (by rw [nI_toInt (by omega)]; omega) h2 h5).mono (Nat.le_succ _), by omega, by omega, ⟨hP, hQX⟩⟩ (by omega) (by omega) dL_act_580
  · refine lv_iconst (v := nI 1) hx hb dL_act_501 (by decide) ?_
    exact m_zret (b := true) hx hb hr hlocks hS ⟨rfl, A, F, P, g, rfl, hAD, hI.mono (Nat.le_succ _), by omega, by omega, ⟨hP, hQX⟩⟩ (by omega) (by omega) dL_act_502
set_option maxHeartbeats 8000000 in
set_option maxRecDepth 100000 in
theorem ac_10 {pg : Program} {l : Launch} {en : Env} {s : State} {m : MethodId} {args : Array Value} {bl : List Frame} {mt : Method} {cd : Code} {ls : Array Slot} {D : va_G} {ci cz : ClassId} {cj : ClassId × ClassId} {q : Nat → Nat} {sz : Nat} {A : Nat → Nat} {F P : Nat} {g : Nat → Nat → Int32} {nn : Nat} {x : Int32} {f w k o n : Nat} (hl0 : l.stackTraces = false) (Fx : CallFix pg m cd cL_act 11 s args wsL_act RL) (hr : mt.sig.returnType = some .boolean) (hlocks : mt.locks = false) (htab : cd.exceptionTable.toList = tableOf [(96, 236, 889, 95), (237, 288, 889, 95), (289, 346, 889, 95), (347, 420, 889, 95), (421, 493, 889, 95), (494, 502, 889, 95), (503, 580, 889, 95), (581, 679, 889, 95), (680, 779, 889, 95), (780, 792, 889, 95), (793, 834, 889, 95), (835, 888, 889, 95)]) (hL : EL D ci cz cj sz s) (hq : DQ q 8) (hqs : ∀ k, k < 8 → sz ≤ q k) (hAD : AD q sz A F P) (hsz : sz ≤ s.heap.size) (hI : Ix nn F P g) (hnn : nn ≤ 900) (hP : va_P D vwCl (w0 ci cz q F P g) s.heap) (hQX : SS D ci cj A F P g s.heap) (hf : f < F) (hw : w < 4) (hk : k < P) (ho : o < P) (hn1 : 1 ≤ n) (hn2 : n ≤ 64) (hl : lv_has ls 11 [(0, .ref (q 0)), (1, .ref (A 0)), (2, .int x), (3, .int (nI f)), (4, .int (nI w)), (5, .int (nI k)), (6, .int (nI o)), (7, .int (nI n)), (8, .int (bI (lv g k)))]) : W pg l en ({ frames := 9, cells := 100, slots := 1300, locals := 153 } : Room) s m args bl mt cd s.heap [] 0 0 (MQ bl (MQv (fun v H => v = some (.int (bI true)) ∧ ∃ A' F' P' g', A' 0 = A 0 ∧ AD q sz A' F' P' ∧ Ix (nn + 1) F' P' g' ∧ F ≤ F' ∧ P ≤ P' ∧ LH D ci cz cj q A' F' P' g' H) (bg sz)) args s 100 1300 (bg sz)) (F0 m 581 ls []) := by
  have hx := Fx.1
  have hb := Fx.2.1
  obtain ⟨hK, hE, hNC⟩ := id hL
  have hO := hE.2.2.2.2
  have hFb := hI.b.1
  have hPb := hI.b.2
  have hin : ∀ w ∈ wsX10, w ∈ wsL_act := by decide +kernel
  have hS : va_S (bg sz) s.heap s.heap [] := va_S.rf
  have sabg : ∀ q9, SA A F P q9 → bg sz q9 := by
    rintro q9 ⟨j, hj, rfl⟩
    exact (hAD.2 j hj).1
  refine lv_aload_n hx hb dL_act_581 rfl (lv_at hl 1 rfl) ?_
  refine lv_iload hx hb dL_act_582 (lv_at hl 5 rfl) ?_
  refine lv_iload hx hb dL_act_584 (lv_at hl 6 rfl) ?_
  refine lv_iload_n hx hb dL_act_586 rfl (lv_at hl 3 rfl) ?_
  refine lv_iload hx hb dL_act_587 (lv_at hl 4 rfl) ?_
  refine r_callR (rest := []) Fx (m_X1_canBuy l (D := D) (ci := ci) (cz := cz) (cj := cj) (A := A) (F := F) (P := P) (g := g) (by omega) (by omega) k o f w (by omega) (by omega) (by omega) (by omega) hI.iv (fun k9 _ => hI.c3 k9)) (cwV 4 Fx.2.2.2.2 gL_act_X1_canBuy rfl rfl rfl (by decide +kernel) ⟨Nat.le_of_ble_eq_true rfl, Nat.le_of_ble_eq_true rfl⟩) BX.bl (hQX.rc hK) (BX.at hQX hK hO) rfl hl.1 rfl (Nat.le_of_ble_eq_true rfl) dL_act_589 ⟨by show _ ≤ 100; omega, by show _ ≤ 1300; omega⟩ ?_
  refine lv_istore (lv' := [(8, .int (bI (sMay g P k o f w))), (0, .ref (q 0)), (1, .ref (A 0)), (2, .int x), (3, .int (nI f)), (4, .int (nI w)), (5, .int (nI k)), (6, .int (nI o)), (7, .int (nI n))]) hx hb dL_act_592 hl (by decide) rfl (fun ls hl => ?_)
  refine lv_aload_n hx hb dL_act_594 rfl (lv_at hl 2 rfl) ?_
  refine lv_iload_n hx hb dL_act_595 rfl (lv_at hl 4 rfl) ?_
  refine lv_iload hx hb dL_act_596 (lv_at hl 5 rfl) ?_
  refine lv_iload hx hb dL_act_598 (lv_at hl 7 rfl) ?_
  refine r_callR (rest := []) Fx (m_X1_has l (D := D) (ci := ci) (cz := cz) (cj := cj) (A := A) (F := F) (P := P) (g := g) (by omega) (by omega) f w o (by omega) (by omega) (by omega)) (cwV 3 Fx.2.2.2.2 gL_act_X1_has rfl rfl rfl (by decide +kernel) ⟨Nat.le_of_ble_eq_true rfl, Nat.le_of_ble_eq_true rfl⟩) BX.bl (hQX.rc hK) (BX.at hQX hK hO) rfl hl.1 rfl (Nat.le_of_ble_eq_true rfl) dL_act_600 ⟨by show _ ≤ 100; omega, by show _ ≤ 1300; omega⟩ ?_
  refine lv_aload_n hx hb dL_act_603 rfl (lv_at hl 2 rfl) ?_
  refine lv_iload_n hx hb dL_act_604 rfl (lv_at hl 4 rfl) ?_
  refine lv_iload hx hb dL_act_605 (lv_at hl 5 rfl) ?_
  refine r_callR (rest := [.int (own g f w o)]) Fx (m_X1_value l (D := D) (ci := ci) (cz := cz) (cj := cj) (A := A) (F := F) (P := P) (g := g) (by omega) (by omega) f w (by omega) (by omega)) (cwV 2 Fx.2.2.2.2 gL_act_X1_value rfl rfl rfl (by decide +kernel) ⟨Nat.le_of_ble_eq_true rfl, Nat.le_of_ble_eq_true rfl⟩) BX.bl (hQX.rc hK) (BX.at hQX hK hO) rfl hl.1 rfl (Nat.le_of_ble_eq_true rfl) dL_act_607 ⟨by show _ ≤ 100; omega, by show _ ≤ 1300; omega⟩ ?_
  refine lv_imul hx hb dL_act_610 ?_
  refine r_as (sPri g f w o) rfl ?_
  refine lv_istore (lv' := [(9, .int (sPri g f w o)), (8, .int (bI (sMay g P k o f w))), (0, .ref (q 0)), (1, .ref (A 0)), (2, .int x), (3, .int (nI f)), (4, .int (nI w)), (5, .int (nI k)), (6, .int (nI o)), (7, .int (nI n))]) hx hb dL_act_611 hl (by decide) rfl (fun ls hl => ?_)
  refine lv_iload hx hb dL_act_613 (lv_at hl 1 rfl) ?_
  refine b_if_eq (tgt := 653) hx hb dL_act_615 (by decide) (fun h1 => ?_) (fun h1 => ?_)
  · rw [h1] at hl
    have hl : lv_has ls 11 [(9, .int (sPri g f w o)), (8, .int (nI 0)), (0, .ref (q 0)), (1, .ref (A 0)), (2, .int x), (3, .int (nI f)), (4, .int (nI w)), (5, .int (nI k)), (6, .int (nI o)), (7, .int (nI n))] := hl
    refine lv_aload_n hx hb dL_act_653 rfl (lv_at hl 2 rfl) ?_
    refine lv_iload hx hb dL_act_654 (lv_at hl 7 rfl) ?_
    refine lv_iload hx hb dL_act_656 (lv_at hl 8 rfl) ?_
    refine lv_iload_n hx hb dL_act_658 rfl (lv_at hl 5 rfl) ?_
    refine lv_iload hx hb dL_act_659 (lv_at hl 6 rfl) ?_
    have hK9 : k_buy F P g (nI k) (nI o) (nI f) (nI w) = 2 := by unfold k_buy; rw [if_pos ⟨inR_nI hk (by omega), inR_nI ho (by omega), inR_nI hf (by omega), inR_nI hw (by omega)⟩, ix_nI (by omega), ix_nI (by omega), ix_nI (by omega), ix_nI (by omega), if_neg (by rw [h1]; decide)]
    refine r_callT (rest := []) Fx (t_buy l hl0 (D := D) (ci := ci) (cz := cz) (cj := cj) (q := q) (F := F) (P := P) (g := g) hq (by omega) (by omega) k o f w (by omega) (by omega) (by omega) (by omega) ) (cwV 4 Fx.2.2.2.2 gL_act_X0_buy rfl rfl rfl (by decide +kernel) ⟨Nat.le_of_ble_eq_true rfl, Nat.le_of_ble_eq_true rfl⟩) BW.bl (va_recv hK hP (ci := 0) (q0 := 0) rfl rfl) (BWb hqs hP hL hS) rfl hl.1 rfl (Nat.le_of_ble_eq_true rfl) dL_act_661 ⟨by show _ ≤ 100; omega, by show _ ≤ 1300; omega⟩ hS (fun q9 h9 => bg_aw hqs q9 h9) (fun H locs hk0 _ _ _ => absurd (hK9.symm.trans hk0) (Nat.succ_ne_zero _)) (fun j E ce q9 H locs hj hxs hh hS hce hcv hcl => ?_)
    obtain rfl : j = 1 := by have := hK9.symm.trans hj; omega
    obtain rfl : xIS = E := Option.some.inj hxs
    have kp := KP.of hh
    have hQX : SS D ci cj A F P g H := hQX.mv kp (fun _ _ h9 => h9.elim)
    have hP : va_P D vwCl (w0 ci cz q F P g) H := P_all hP hh
    refine l_ise (i := 581) (n := 679) (b := 889) (k := 95) 7 Fx hE htab (by decide) (by decide +kernel) rfl (by decide) (by decide) hce hcv hcl ?_
    refine lv_astore (lv' := [(9, .ref q9), (8, .int (nI 0)), (0, .ref (q 0)), (1, .ref (A 0)), (2, .int x), (3, .int (nI f)), (4, .int (nI w)), (5, .int (nI k)), (6, .int (nI o)), (7, .int (nI n))]) hx hb dL_act_889 hl (by decide) rfl (fun ls hl => ?_)
    refine lv_iload hx hb dL_act_891 (lv_at hl 1 rfl) ?_
    refine n_if_ne (tgt := 900) hx hb (by omega) dL_act_893 (by decide) (fun h2 => by omega) (fun h2 => ?_)
    refine lv_iconst (v := nI 1) hx hb dL_act_896 (by decide) ?_
    refine lv_goto (tgt := 901) hx hb dL_act_897 (by decide) ?_
    exact m_zret (b := true) hx hb hr hlocks hS ⟨rfl, A, F, P, g, rfl, hAD, hI.mono (Nat.le_succ _), by omega, by omega, ⟨hP, hQX⟩⟩ (by omega) (by omega) dL_act_901
  · rw [h1] at hl
    have hl : lv_has ls 11 [(9, .int (sPri g f w o)), (8, .int (nI 1)), (0, .ref (q 0)), (1, .ref (A 0)), (2, .int x), (3, .int (nI f)), (4, .int (nI w)), (5, .int (nI k)), (6, .int (nI o)), (7, .int (nI n))] := hl
    have hmay := may_and h1
    refine lv_aload_n hx hb dL_act_618 rfl (lv_at hl 3 rfl) ?_
    obtain ⟨T9, hR9, hQ⟩ := id hQX
    refine g_get Fx hin hK 1 hQ.o rfl 3 (by decide) (by decide +kernel) rfl dL_act_619 ?_
    refine lv_iload hx hb dL_act_622 (lv_at hl 7 rfl) ?_
    obtain ⟨T9, hR9, hQ⟩ := id hQX
    refine g_aald Fx hK hQ.pe 2 rfl rfl (i := k) (by omega) (by omega) rfl dL_act_624 ?_
    refine lv_iconst (v := nI 0) hx hb dL_act_625 (by decide) ?_
    refine lv_dup2_11 hx hb dL_act_626 rfl rfl ?_
    obtain ⟨T9, hR9, hQ⟩ := id hQX
    refine g_iald Fx hK (hQ.pp (k := k) (by omega)) 0 rfl (i := 0) (by decide) (by decide) dL_act_627 ?_
    refine r_as (g 4 k) rfl ?_
    refine lv_iload hx hb dL_act_628 (lv_at hl 0 rfl) ?_
    refine lv_isub hx hb dL_act_630 ?_
    obtain ⟨T9, hR9, hQ⟩ := id hQX
    refine g_iast Fx hK (hQ.pp (k := k) (by omega)) 0 rfl (sabg _ (SA.i (sVp hk))) hS (i := 0) (by decide) (by decide) dL_act_631 (fun H locs he9 kp hS => ?_)
    have hQX : SS D ci cj A F P (gPay g k (sPri g f w o)) H := ⟨T9, hR9.cg (fun _ _ _ _ _ _ => rfl), hQ.stP hAD.1 (k := k) (by omega) kp (by rw [rI_pay]; exact he9) rfl rfl rfl (fun p9 hp9 => rI_pay_ne hp9)⟩
    have kp : KP (SA A F P) _ H := kp.mono (fun q9 h9 => by rw [h9]; exact SA.i (sVp hk))
    have hP : va_P D vwCl (w0 ci cz q F P g) H := w0_s hAD hP kp
    refine lv_aload_n hx hb dL_act_632 rfl (lv_at hl 3 rfl) ?_
    refine lv_iload hx hb dL_act_633 (lv_at hl 8 rfl) ?_
    refine lv_iload hx hb dL_act_635 (lv_at hl 0 rfl) ?_
    refine r_callW (rest := []) Fx (m_X1_get l (D := D) (ci := ci) (cz := cz) (cj := cj) (A := A) (F := F) (P := P) (g := gPay g k (sPri g f w o)) (by omega) (by omega) o (sPri g f w o) (by omega) hAD.1) (cwV 2 Fx.2.2.2.2 gL_act_X1_get rfl rfl rfl (by decide +kernel) ⟨Nat.le_of_ble_eq_true rfl, Nat.le_of_ble_eq_true rfl⟩) BX.bl (hQX.rc hK) (BX.at hQX hK hO) rfl hl.1 rfl (Nat.le_of_ble_eq_true rfl) dL_act_637 ⟨by show _ ≤ 100; omega, by show _ ≤ 1300; omega⟩ hS (fun q9 h9 => sabg q9 h9) (fun H locs hQ9 hS hsz9 hk9 => ?_)
    have kp : KP (SA A F P) _ H := ⟨hsz9, hk9⟩
    have hQX : SS D ci cj A F P (gGet (gPay g k (sPri g f w o)) o (sPri g f w o)) H := hQ9
    have hP : va_P D vwCl (w0 ci cz q F P g) H := w0_s hAD hP kp
    refine lv_aload_n hx hb dL_act_640 rfl (lv_at hl 3 rfl) ?_
    refine lv_iload_n hx hb dL_act_641 rfl (lv_at hl 5 rfl) ?_
    refine lv_iload hx hb dL_act_642 (lv_at hl 6 rfl) ?_
    refine lv_iload hx hb dL_act_644 (lv_at hl 8 rfl) ?_
    refine lv_iload hx hb dL_act_646 (lv_at hl 7 rfl) ?_
    refine lv_bipush (v := nI 64) hx hb dL_act_648 (by decide) ?_
    refine r_callW (rest := []) Fx (m_X1_handB l (D := D) (ci := ci) (cz := cz) (cj := cj) (A := A) (F := F) (P := P) (g := gGet (gPay g k (sPri g f w o)) o (sPri g f w o)) (by omega) (by omega) f w o k (by omega) (by omega) (by omega) (by omega) (Ne.symm hmay.1) hAD.1) (cwV 5 Fx.2.2.2.2 gL_act_X1_hand rfl rfl rfl (by decide +kernel) ⟨Nat.le_of_ble_eq_true rfl, Nat.le_of_ble_eq_true rfl⟩) BX.bl (hQX.rc hK) (BX.at hQX hK hO) rfl hl.1 rfl (Nat.le_of_ble_eq_true rfl) dL_act_650 ⟨by show _ ≤ 100; omega, by show _ ≤ 1300; omega⟩ hS (fun q9 h9 => sabg q9 h9) (fun H locs hQ9 hS hsz9 hk9 => ?_)
    have kp : KP (SA A F P) _ H := ⟨hsz9, hk9⟩
    have hQX : SS D ci cj A F P (gAdd (gAdd (gGet (gPay g k (sPri g f w o)) o (sPri g f w o)) f w o (-(own (gGet (gPay g k (sPri g f w o)) o (sPri g f w o)) f w o))) f w k (own (gGet (gPay g k (sPri g f w o)) o (sPri g f w o)) f w o)) H := hQ9
    have hP : va_P D vwCl (w0 ci cz q F P g) H := w0_s hAD hP kp
    refine lv_aload_n hx hb dL_act_653 rfl (lv_at hl 2 rfl) ?_
    refine lv_iload hx hb dL_act_654 (lv_at hl 7 rfl) ?_
    refine lv_iload hx hb dL_act_656 (lv_at hl 8 rfl) ?_
    refine lv_iload_n hx hb dL_act_658 rfl (lv_at hl 5 rfl) ?_
    refine lv_iload hx hb dL_act_659 (lv_at hl 6 rfl) ?_
    have hK9 : k_buy F P g (nI k) (nI o) (nI f) (nI w) = 0 := by unfold k_buy; rw [if_pos ⟨inR_nI hk (by omega), inR_nI ho (by omega), inR_nI hf (by omega), inR_nI hw (by omega)⟩, ix_nI (by omega), ix_nI (by omega), ix_nI (by omega), ix_nI (by omega), if_pos h1]
    refine r_callT (rest := []) Fx (t_buy l hl0 (D := D) (ci := ci) (cz := cz) (cj := cj) (q := q) (F := F) (P := P) (g := g) hq (by omega) (by omega) k o f w (by omega) (by omega) (by omega) (by omega) ) (cwV 4 Fx.2.2.2.2 gL_act_X0_buy rfl rfl rfl (by decide +kernel) ⟨Nat.le_of_ble_eq_true rfl, Nat.le_of_ble_eq_true rfl⟩) BW.bl (va_recv hK hP (ci := 0) (q0 := 0) rfl rfl) (BWb hqs hP hL hS) rfl hl.1 rfl (Nat.le_of_ble_eq_true rfl) dL_act_661 ⟨by show _ ≤ 100; omega, by show _ ≤ 1300; omega⟩ hS (fun q9 h9 => bg_aw hqs q9 h9) (fun H locs hk0 hP kp hS => ?_) (fun j E ce q9 H locs hj _ _ _ _ _ _ => absurd (hK9.symm.trans hj) (Nat.succ_ne_zero j).symm)
    have hQX : SS D ci cj A F P (gAdd (gAdd (gGet (gPay g k (sPri g f w o)) o (sPri g f w o)) f w o (-(own (gGet (gPay g k (sPri g f w o)) o (sPri g f w o)) f w o))) f w k (own (gGet (gPay g k (sPri g f w o)) o (sPri g f w o)) f w o)) H := SS_m hAD hQX kp
    have hP : va_P D vwCl (w0 ci cz q F P (gBuy g k o f w)) H := hP
    refine lv_iload hx hb dL_act_664 (lv_at hl 0 rfl) ?_
    refine lv_icmp_ne (tgt := 678) hx hb dL_act_666 (by decide) (fun h3 => absurd rfl h3) (fun h3 => ?_)
    refine lv_iload hx hb dL_act_669 (lv_at hl 1 rfl) ?_
    refine n_if_eq (tgt := 678) hx hb (by omega) dL_act_671 (by decide) (fun h4 => by omega) (fun h4 => ?_)
    refine lv_iconst (v := nI 1) hx hb dL_act_674 (by decide) ?_
    refine lv_goto (tgt := 679) hx hb dL_act_675 (by decide) ?_
    exact m_zret (b := true) hx hb hr hlocks hS ⟨rfl, A, F, P, (gAdd (gAdd (gGet (gPay g k (sPri g f w o)) o (sPri g f w o)) f w o (-(own (gGet (gPay g k (sPri g f w o)) o (sPri g f w o)) f w o))) f w k (own (gGet (gPay g k (sPri g f w o)) o (sPri g f w o)) f w o)), rfl, hAD, (ix_buy hI hf hw hk ho h1).mono (Nat.le_succ _), by omega, by omega, ⟨hP, hQX⟩⟩ (by omega) (by omega) dL_act_679
set_option maxHeartbeats 8000000 in
set_option maxRecDepth 100000 in
theorem ac_13 {pg : Program} {l : Launch} {en : Env} {s : State} {m : MethodId} {args : Array Value} {bl : List Frame} {mt : Method} {cd : Code} {ls : Array Slot} {D : va_G} {ci cz : ClassId} {cj : ClassId × ClassId} {q : Nat → Nat} {sz : Nat} {A : Nat → Nat} {F P : Nat} {g : Nat → Nat → Int32} {nn : Nat} {x : Int32} {f w k o n : Nat} (hl0 : l.stackTraces = false) (Fx : CallFix pg m cd cL_act 11 s args wsL_act RL) (hr : mt.sig.returnType = some .boolean) (hlocks : mt.locks = false) (htab : cd.exceptionTable.toList = tableOf [(96, 236, 889, 95), (237, 288, 889, 95), (289, 346, 889, 95), (347, 420, 889, 95), (421, 493, 889, 95), (494, 502, 889, 95), (503, 580, 889, 95), (581, 679, 889, 95), (680, 779, 889, 95), (780, 792, 889, 95), (793, 834, 889, 95), (835, 888, 889, 95)]) (hL : EL D ci cz cj sz s) (hq : DQ q 8) (hqs : ∀ k, k < 8 → sz ≤ q k) (hAD : AD q sz A F P) (hsz : sz ≤ s.heap.size) (hI : Ix nn F P g) (hnn : nn ≤ 900) (hP : va_P D vwCl (w0 ci cz q F P g) s.heap) (hQX : SS D ci cj A F P g s.heap) (hf : f < F) (hw : w < 4) (hk : k < P) (ho : o < P) (hn1 : 1 ≤ n) (hn2 : n ≤ 64) (hl : lv_has ls 11 [(0, .ref (q 0)), (1, .ref (A 0)), (2, .int x), (3, .int (nI f)), (4, .int (nI w)), (5, .int (nI k)), (6, .int (nI o)), (7, .int (nI n)), (8, .int (bI (lv g k)))]) : W pg l en ({ frames := 9, cells := 100, slots := 1300, locals := 153 } : Room) s m args bl mt cd s.heap [] 0 0 (MQ bl (MQv (fun v H => v = some (.int (bI true)) ∧ ∃ A' F' P' g', A' 0 = A 0 ∧ AD q sz A' F' P' ∧ Ix (nn + 1) F' P' g' ∧ F ≤ F' ∧ P ≤ P' ∧ LH D ci cz cj q A' F' P' g' H) (bg sz)) args s 100 1300 (bg sz)) (F0 m 680 ls []) := by
  have hx := Fx.1
  have hb := Fx.2.1
  obtain ⟨hK, hE, hNC⟩ := id hL
  have hO := hE.2.2.2.2
  have hFb := hI.b.1
  have hPb := hI.b.2
  have hin : ∀ w ∈ wsX10, w ∈ wsL_act := by decide +kernel
  have hS : va_S (bg sz) s.heap s.heap [] := va_S.rf
  have sabg : ∀ q9, SA A F P q9 → bg sz q9 := by
    rintro q9 ⟨j, hj, rfl⟩
    exact (hAD.2 j hj).1
  refine lv_iload_n hx hb dL_act_680 rfl (lv_at hl 2 rfl) ?_
  refine lv_bipush (v := nI 9) hx hb dL_act_681 (by decide) ?_
  refine lv_ishr hx hb dL_act_683 ?_
  refine lv_iconst (v := nI 2) hx hb dL_act_684 (by decide) ?_
  refine r_callRS (rest := []) Fx (m_L_below l (x >>> ((nI 9) &&& 31)) 2 (by omega) (by omega)) (va_cwS 2 Fx.2.2.2.2 gL_act_L_below rfl rfl rfl (by decide +kernel) ⟨Nat.le_of_ble_eq_true rfl, Nat.le_of_ble_eq_true rfl⟩) (fun _ _ _ _ h => h) (fun _ _ _ => trivial) rfl hl.1 rfl (Nat.le_of_ble_eq_true rfl) dL_act_685 ⟨by show _ ≤ 100; omega, by show _ ≤ 1300; omega⟩ ?_
  obtain ⟨z, hz, ez⟩ : ∃ j, j < 2 ∧ bw (x >>> ((nI 9) &&& 31)) 2 = j := ⟨_, bw_lt (by omega), rfl⟩
  rw [ez]
  refine n_if_ne (tgt := 707) hx hb (by omega) dL_act_688 (by decide) (fun h1 => ?_) (fun h1 => ?_)
  · refine lv_iload hx hb dL_act_707 (lv_at hl 5 rfl) ?_
    have hma : inR (nI k) P := inR_nI hk (by omega)
    refine lv_istore (lv' := [(9, .int (nI k)), (0, .ref (q 0)), (1, .ref (A 0)), (2, .int x), (3, .int (nI f)), (4, .int (nI w)), (5, .int (nI k)), (6, .int (nI o)), (7, .int (nI n)), (8, .int (bI (lv g k)))]) hx hb dL_act_709 hl (by decide) rfl (fun ls hl => ?_)
    refine lv_aload_n hx hb dL_act_711 rfl (lv_at hl 2 rfl) ?_
    refine lv_iload_n hx hb dL_act_712 rfl (lv_at hl 4 rfl) ?_
    refine r_callR (rest := []) Fx (m_X1_master l (D := D) (ci := ci) (cz := cz) (cj := cj) (A := A) (F := F) (P := P) (g := g) (by omega) (by omega) f (by omega) hI.iv) (cwV 1 Fx.2.2.2.2 gL_act_X1_master rfl rfl rfl (by decide +kernel) ⟨Nat.le_of_ble_eq_true rfl, Nat.le_of_ble_eq_true rfl⟩) BX.bl (hQX.rc hK) (BX.at hQX hK hO) rfl hl.1 rfl (Nat.le_of_ble_eq_true rfl) dL_act_713 ⟨by show _ ≤ 100; omega, by show _ ≤ 1300; omega⟩ ?_
    refine lv_iload hx hb dL_act_716 (lv_at hl 0 rfl) ?_
    refine lv_icmp_ne (tgt := 725) hx hb dL_act_718 (by decide) (fun h2 => ?_) (fun h2 => ?_)
    · refine lv_iconst (v := nI 0) hx hb dL_act_725 (by decide) ?_
      refine lv_istore (lv' := [(8, .int (nI 0)), (9, .int (nI k)), (0, .ref (q 0)), (1, .ref (A 0)), (2, .int x), (3, .int (nI f)), (4, .int (nI w)), (5, .int (nI k)), (6, .int (nI o)), (7, .int (nI n))]) hx hb dL_act_726 hl (by decide) rfl (fun ls hl => ?_)
      refine lv_aload_n hx hb dL_act_728 rfl (lv_at hl 3 rfl) ?_
      obtain ⟨T9, hR9, hQ⟩ := id hQX
      refine g_get Fx hin hK 1 hQ.o rfl 0 (by decide) (by decide +kernel) rfl dL_act_729 ?_
      refine lv_iload_n hx hb dL_act_732 rfl (lv_at hl 5 rfl) ?_
      obtain ⟨T9, hR9, hQ⟩ := id hQX
      refine g_iald Fx hK hQ.to 0 rfl (i := f) (by omega) (by omega) dL_act_733 ?_
      refine lv_istore (lv' := [(10, .int (g 0 f)), (8, .int (nI 0)), (9, .int (nI k)), (0, .ref (q 0)), (1, .ref (A 0)), (2, .int x), (3, .int (nI f)), (4, .int (nI w)), (5, .int (nI k)), (6, .int (nI o)), (7, .int (nI n))]) hx hb dL_act_734 hl (by decide) rfl (fun ls hl => ?_)
      refine lv_iload hx hb dL_act_736 (lv_at hl 1 rfl) ?_
      refine n_if_eq (tgt := 752) hx hb (by omega) dL_act_738 (by decide) (fun h3 => ?_) (fun h3 => by omega)
      refine lv_aload_n hx hb dL_act_752 rfl (lv_at hl 3 rfl) ?_
      refine lv_iload_n hx hb dL_act_753 rfl (lv_at hl 6 rfl) ?_
      refine lv_iload hx hb dL_act_754 (lv_at hl 2 rfl) ?_
      refine lv_iload hx hb dL_act_756 (lv_at hl 10 rfl) ?_
      refine lv_bipush (v := nI 21) hx hb dL_act_758 (by decide) ?_
      refine lv_irem hx hb dL_act_760 (by decide) ?_
      rw [rem_n (by omega) (by decide) (by decide)]
      have hK9 : k_setToll F P g (nI f) (nI k) (nI (n % 21)) = 3 := by unfold k_setToll; rw [if_pos ⟨inR_nI hf (by omega), hma⟩, if_pos ⟨nI_pos' (by omega), nI_le (by omega) (by omega)⟩, ix_nI (by omega), if_neg h2]
      refine r_callT (rest := []) Fx (t_setToll l hl0 (D := D) (ci := ci) (cz := cz) (cj := cj) (q := q) (F := F) (P := P) (g := g) hq (by omega) (by omega) f (nI k) (nI (n % 21)) (by omega) ) (cwV 3 Fx.2.2.2.2 gL_act_X0_setToll rfl rfl rfl (by decide +kernel) ⟨Nat.le_of_ble_eq_true rfl, Nat.le_of_ble_eq_true rfl⟩) BW.bl (va_recv hK hP (ci := 0) (q0 := 0) rfl rfl) (BWb hqs hP hL hS) rfl hl.1 rfl (Nat.le_of_ble_eq_true rfl) dL_act_761 ⟨by show _ ≤ 100; omega, by show _ ≤ 1300; omega⟩ hS (fun q9 h9 => bg_aw hqs q9 h9) (fun H locs hk0 _ _ _ => absurd (hK9.symm.trans hk0) (Nat.succ_ne_zero _)) (fun j E ce q9 H locs hj hxs hh hS hce hcv hcl => ?_)
      obtain rfl : j = 2 := by have := hK9.symm.trans hj; omega
      obtain rfl : xIS = E := Option.some.inj hxs
      have kp := KP.of hh
      have hQX : SS D ci cj A F P g H := hQX.mv kp (fun _ _ h9 => h9.elim)
      have hP : va_P D vwCl (w0 ci cz q F P g) H := P_all hP hh
      refine l_ise (i := 680) (n := 779) (b := 889) (k := 95) 8 Fx hE htab (by decide) (by decide +kernel) rfl (by decide) (by decide) hce hcv hcl ?_
      refine lv_astore (lv' := [(9, .ref q9), (10, .int (g 0 f)), (8, .int (nI 0)), (0, .ref (q 0)), (1, .ref (A 0)), (2, .int x), (3, .int (nI f)), (4, .int (nI w)), (5, .int (nI k)), (6, .int (nI o)), (7, .int (nI n))]) hx hb dL_act_889 hl (by decide) rfl (fun ls hl => ?_)
      refine lv_iload hx hb dL_act_891 (lv_at hl 2 rfl) ?_
      refine n_if_ne (tgt := 900) hx hb (by omega) dL_act_893 (by decide) (fun h4 => by omega) (fun h4 => ?_)
      refine lv_iconst (v := nI 1) hx hb dL_act_896 (by decide) ?_
      refine lv_goto (tgt := 901) hx hb dL_act_897 (by decide) ?_
      exact m_zret (b := true) hx hb hr hlocks hS ⟨rfl, A, F, P, g, rfl, hAD, hI.mono (Nat.le_succ _), by omega, by omega, ⟨hP, hQX⟩⟩ (by omega) (by omega) dL_act_901
    · refine lv_iconst (v := nI 1) hx hb dL_act_721 (by decide) ?_
      refine lv_goto (tgt := 726) hx hb dL_act_722 (by decide) ?_
      refine lv_istore (lv' := [(8, .int (nI 1)), (9, .int (nI k)), (0, .ref (q 0)), (1, .ref (A 0)), (2, .int x), (3, .int (nI f)), (4, .int (nI w)), (5, .int (nI k)), (6, .int (nI o)), (7, .int (nI n))]) hx hb dL_act_726 hl (by decide) rfl (fun ls hl => ?_)
      refine lv_aload_n hx hb dL_act_728 rfl (lv_at hl 3 rfl) ?_
      obtain ⟨T9, hR9, hQ⟩ := id hQX
      refine g_get Fx hin hK 1 hQ.o rfl 0 (by decide) (by decide +kernel) rfl dL_act_729 ?_
      refine lv_iload_n hx hb dL_act_732 rfl (lv_at hl 5 rfl) ?_
      obtain ⟨T9, hR9, hQ⟩ := id hQX
      refine g_iald Fx hK hQ.to 0 rfl (i := f) (by omega) (by omega) dL_act_733 ?_
      refine lv_istore (lv' := [(10, .int (g 0 f)), (8, .int (nI 1)), (9, .int (nI k)), (0, .ref (q 0)), (1, .ref (A 0)), (2, .int x), (3, .int (nI f)), (4, .int (nI w)), (5, .int (nI k)), (6, .int (nI o)), (7, .int (nI n))]) hx hb dL_act_734 hl (by decide) rfl (fun ls hl => ?_)
      refine lv_iload hx hb dL_act_736 (lv_at hl 1 rfl) ?_
      refine n_if_eq (tgt := 752) hx hb (by omega) dL_act_738 (by decide) (fun h5 => by omega) (fun h5 => ?_)
      refine lv_aload_n hx hb dL_act_741 rfl (lv_at hl 4 rfl) ?_
      obtain ⟨T9, hR9, hQ⟩ := id hQX
      refine g_get Fx hin hK 1 hQ.o rfl 0 (by decide) (by decide +kernel) rfl dL_act_742 ?_
      refine lv_iload_n hx hb dL_act_745 rfl (lv_at hl 6 rfl) ?_
      refine lv_iload hx hb dL_act_746 (lv_at hl 10 rfl) ?_
      refine lv_bipush (v := nI 21) hx hb dL_act_748 (by decide) ?_
      refine lv_irem hx hb dL_act_750 (by decide) ?_
      rw [rem_n (by omega) (by decide) (by decide)]
      obtain ⟨T9, hR9, hQ⟩ := id hQX
      refine g_iast Fx hK hQ.to 0 rfl (sabg _ (SA.i sV1)) hS (i := f) (by omega) (by omega) dL_act_751 (fun H locs he9 kp hS => ?_)
      have hQX : SS D ci cj A F P (gTol g f (nI (n % 21))) H := ⟨T9, hR9.cg (fun _ _ _ _ _ _ => rfl), hQ.st1 hAD.1 kp he9 rfl rfl (fun _ => rfl)⟩
      have kp : KP (SA A F P) _ H := kp.mono (fun q9 h9 => by rw [h9]; exact SA.i sV1)
      have hP : va_P D vwCl (w0 ci cz q F P g) H := w0_s hAD hP kp
      refine lv_aload_n hx hb dL_act_752 rfl (lv_at hl 3 rfl) ?_
      refine lv_iload_n hx hb dL_act_753 rfl (lv_at hl 6 rfl) ?_
      refine lv_iload hx hb dL_act_754 (lv_at hl 2 rfl) ?_
      refine lv_iload hx hb dL_act_756 (lv_at hl 10 rfl) ?_
      refine lv_bipush (v := nI 21) hx hb dL_act_758 (by decide) ?_
      refine lv_irem hx hb dL_act_760 (by decide) ?_
      rw [rem_n (by omega) (by decide) (by decide)]
      have hK9 : k_setToll F P g (nI f) (nI k) (nI (n % 21)) = 0 := by unfold k_setToll; rw [if_pos ⟨inR_nI hf (by omega), hma⟩, if_pos ⟨nI_pos' (by omega), nI_le (by omega) (by omega)⟩, ix_nI (by omega), if_pos h2]
      refine r_callT (rest := []) Fx (t_setToll l hl0 (D := D) (ci := ci) (cz := cz) (cj := cj) (q := q) (F := F) (P := P) (g := g) hq (by omega) (by omega) f (nI k) (nI (n % 21)) (by omega) ) (cwV 3 Fx.2.2.2.2 gL_act_X0_setToll rfl rfl rfl (by decide +kernel) ⟨Nat.le_of_ble_eq_true rfl, Nat.le_of_ble_eq_true rfl⟩) BW.bl (va_recv hK hP (ci := 0) (q0 := 0) rfl rfl) (BWb hqs hP hL hS) rfl hl.1 rfl (Nat.le_of_ble_eq_true rfl) dL_act_761 ⟨by show _ ≤ 100; omega, by show _ ≤ 1300; omega⟩ hS (fun q9 h9 => bg_aw hqs q9 h9) (fun H locs hk0 hP kp hS => ?_) (fun j E ce q9 H locs hj _ _ _ _ _ _ => absurd (hK9.symm.trans hj) (Nat.succ_ne_zero j).symm)
      have hQX : SS D ci cj A F P (gTol g f (nI (n % 21))) H := SS_m hAD hQX kp
      have hP : va_P D vwCl (w0 ci cz q F P (gTol g f (nI (n % 21)))) H := hP
      refine lv_iload hx hb dL_act_764 (lv_at hl 0 rfl) ?_
      refine lv_icmp_ne (tgt := 778) hx hb dL_act_766 (by decide) (fun h6 => absurd rfl h6) (fun h6 => ?_)
      refine lv_iload hx hb dL_act_769 (lv_at hl 1 rfl) ?_
      refine n_if_eq (tgt := 778) hx hb (by omega) dL_act_771 (by decide) (fun h7 => by omega) (fun h7 => ?_)
      refine lv_iconst (v := nI 1) hx hb dL_act_774 (by decide) ?_
      refine lv_goto (tgt := 779) hx hb dL_act_775 (by decide) ?_
      exact m_zret (b := true) hx hb hr hlocks hS ⟨rfl, A, F, P, (gTol g f (nI (n % 21))), rfl, hAD, (ix_toll hI hf (by rw [nI_toInt (by omega)]; omega) (by rw [nI_toInt (by omega)]; omega)).mono (Nat.le_succ _), by omega, by omega, ⟨hP, hQX⟩⟩ (by omega) (by omega) dL_act_779
  · refine lv_aload_n hx hb dL_act_691 rfl (lv_at hl 1 rfl) ?_
    refine lv_iload_n hx hb dL_act_692 rfl (lv_at hl 3 rfl) ?_
    refine r_callR (rest := []) Fx (m_X1_master l (D := D) (ci := ci) (cz := cz) (cj := cj) (A := A) (F := F) (P := P) (g := g) (by omega) (by omega) f (by omega) hI.iv) (cwV 1 Fx.2.2.2.2 gL_act_X1_master rfl rfl rfl (by decide +kernel) ⟨Nat.le_of_ble_eq_true rfl, Nat.le_of_ble_eq_true rfl⟩) BX.bl (hQX.rc hK) (BX.at hQX hK hO) rfl hl.1 rfl (Nat.le_of_ble_eq_true rfl) dL_act_693 ⟨by show _ ≤ 100; omega, by show _ ≤ 1300; omega⟩ ?_
    refine lv_if_lt (tgt := 707) hx hb dL_act_696 (by decide) (fun h8 => ?_) (fun h8 => ?_)
    · refine lv_iload hx hb dL_act_707 (lv_at hl 5 rfl) ?_
      have hma : inR (nI k) P := inR_nI hk (by omega)
      refine lv_istore (lv' := [(9, .int (nI k)), (0, .ref (q 0)), (1, .ref (A 0)), (2, .int x), (3, .int (nI f)), (4, .int (nI w)), (5, .int (nI k)), (6, .int (nI o)), (7, .int (nI n)), (8, .int (bI (lv g k)))]) hx hb dL_act_709 hl (by decide) rfl (fun ls hl => ?_)
      refine lv_aload_n hx hb dL_act_711 rfl (lv_at hl 2 rfl) ?_
      refine lv_iload_n hx hb dL_act_712 rfl (lv_at hl 4 rfl) ?_
      refine r_callR (rest := []) Fx (m_X1_master l (D := D) (ci := ci) (cz := cz) (cj := cj) (A := A) (F := F) (P := P) (g := g) (by omega) (by omega) f (by omega) hI.iv) (cwV 1 Fx.2.2.2.2 gL_act_X1_master rfl rfl rfl (by decide +kernel) ⟨Nat.le_of_ble_eq_true rfl, Nat.le_of_ble_eq_true rfl⟩) BX.bl (hQX.rc hK) (BX.at hQX hK hO) rfl hl.1 rfl (Nat.le_of_ble_eq_true rfl) dL_act_713 ⟨by show _ ≤ 100; omega, by show _ ≤ 1300; omega⟩ ?_
      refine lv_iload hx hb dL_act_716 (lv_at hl 0 rfl) ?_
      refine lv_icmp_ne (tgt := 725) hx hb dL_act_718 (by decide) (fun h9 => ?_) (fun h9 => ?_)
      · refine lv_iconst (v := nI 0) hx hb dL_act_725 (by decide) ?_
        refine lv_istore (lv' := [(8, .int (nI 0)), (9, .int (nI k)), (0, .ref (q 0)), (1, .ref (A 0)), (2, .int x), (3, .int (nI f)), (4, .int (nI w)), (5, .int (nI k)), (6, .int (nI o)), (7, .int (nI n))]) hx hb dL_act_726 hl (by decide) rfl (fun ls hl => ?_)
        refine lv_aload_n hx hb dL_act_728 rfl (lv_at hl 3 rfl) ?_
        obtain ⟨T9, hR9, hQ⟩ := id hQX
        refine g_get Fx hin hK 1 hQ.o rfl 0 (by decide) (by decide +kernel) rfl dL_act_729 ?_
        refine lv_iload_n hx hb dL_act_732 rfl (lv_at hl 5 rfl) ?_
        obtain ⟨T9, hR9, hQ⟩ := id hQX
        refine g_iald Fx hK hQ.to 0 rfl (i := f) (by omega) (by omega) dL_act_733 ?_
        refine lv_istore (lv' := [(10, .int (g 0 f)), (8, .int (nI 0)), (9, .int (nI k)), (0, .ref (q 0)), (1, .ref (A 0)), (2, .int x), (3, .int (nI f)), (4, .int (nI w)), (5, .int (nI k)), (6, .int (nI o)), (7, .int (nI n))]) hx hb dL_act_734 hl (by decide) rfl (fun ls hl => ?_)
        refine lv_iload hx hb dL_act_736 (lv_at hl 1 rfl) ?_
        refine n_if_eq (tgt := 752) hx hb (by omega) dL_act_738 (by decide) (fun h10 => ?_) (fun h10 => by omega)
        refine lv_aload_n hx hb dL_act_752 rfl (lv_at hl 3 rfl) ?_
        refine lv_iload_n hx hb dL_act_753 rfl (lv_at hl 6 rfl) ?_
        refine lv_iload hx hb dL_act_754 (lv_at hl 2 rfl) ?_
        refine lv_iload hx hb dL_act_756 (lv_at hl 10 rfl) ?_
        refine lv_bipush (v := nI 21) hx hb dL_act_758 (by decide) ?_
        refine lv_irem hx hb dL_act_760 (by decide) ?_
        rw [rem_n (by omega) (by decide) (by decide)]
        have hK9 : k_setToll F P g (nI f) (nI k) (nI (n % 21)) = 3 := by unfold k_setToll; rw [if_pos ⟨inR_nI hf (by omega), hma⟩, if_pos ⟨nI_pos' (by omega), nI_le (by omega) (by omega)⟩, ix_nI (by omega), if_neg h9]
        refine r_callT (rest := []) Fx (t_setToll l hl0 (D := D) (ci := ci) (cz := cz) (cj := cj) (q := q) (F := F) (P := P) (g := g) hq (by omega) (by omega) f (nI k) (nI (n % 21)) (by omega) ) (cwV 3 Fx.2.2.2.2 gL_act_X0_setToll rfl rfl rfl (by decide +kernel) ⟨Nat.le_of_ble_eq_true rfl, Nat.le_of_ble_eq_true rfl⟩) BW.bl (va_recv hK hP (ci := 0) (q0 := 0) rfl rfl) (BWb hqs hP hL hS) rfl hl.1 rfl (Nat.le_of_ble_eq_true rfl) dL_act_761 ⟨by show _ ≤ 100; omega, by show _ ≤ 1300; omega⟩ hS (fun q9 h9 => bg_aw hqs q9 h9) (fun H locs hk0 _ _ _ => absurd (hK9.symm.trans hk0) (Nat.succ_ne_zero _)) (fun j E ce q9 H locs hj hxs hh hS hce hcv hcl => ?_)
        obtain rfl : j = 2 := by have := hK9.symm.trans hj; omega
        obtain rfl : xIS = E := Option.some.inj hxs
        have kp := KP.of hh
        have hQX : SS D ci cj A F P g H := hQX.mv kp (fun _ _ h9 => h9.elim)
        have hP : va_P D vwCl (w0 ci cz q F P g) H := P_all hP hh
        refine l_ise (i := 680) (n := 779) (b := 889) (k := 95) 8 Fx hE htab (by decide) (by decide +kernel) rfl (by decide) (by decide) hce hcv hcl ?_
        refine lv_astore (lv' := [(9, .ref q9), (10, .int (g 0 f)), (8, .int (nI 0)), (0, .ref (q 0)), (1, .ref (A 0)), (2, .int x), (3, .int (nI f)), (4, .int (nI w)), (5, .int (nI k)), (6, .int (nI o)), (7, .int (nI n))]) hx hb dL_act_889 hl (by decide) rfl (fun ls hl => ?_)
        refine lv_iload hx hb dL_act_891 (lv_at hl 2 rfl) ?_
        refine n_if_ne (tgt := 900) hx hb (by omega) dL_act_893 (by decide) (fun h11 => by omega) (fun h11 => ?_)
        refine lv_iconst (v := nI 1) hx hb dL_act_896 (by decide) ?_
        refine lv_goto (tgt := 901) hx hb dL_act_897 (by decide) ?_
        exact m_zret (b := true) hx hb hr hlocks hS ⟨rfl, A, F, P, g, rfl, hAD, hI.mono (Nat.le_succ _), by omega, by omega, ⟨hP, hQX⟩⟩ (by omega) (by omega) dL_act_901
      · refine lv_iconst (v := nI 1) hx hb dL_act_721 (by decide) ?_
        refine lv_goto (tgt := 726) hx hb dL_act_722 (by decide) ?_
        refine lv_istore (lv' := [(8, .int (nI 1)), (9, .int (nI k)), (0, .ref (q 0)), (1, .ref (A 0)), (2, .int x), (3, .int (nI f)), (4, .int (nI w)), (5, .int (nI k)), (6, .int (nI o)), (7, .int (nI n))]) hx hb dL_act_726 hl (by decide) rfl (fun ls hl => ?_)
        refine lv_aload_n hx hb dL_act_728 rfl (lv_at hl 3 rfl) ?_
        obtain ⟨T9, hR9, hQ⟩ := id hQX
        refine g_get Fx hin hK 1 hQ.o rfl 0 (by decide) (by decide +kernel) rfl dL_act_729 ?_
        refine lv_iload_n hx hb dL_act_732 rfl (lv_at hl 5 rfl) ?_
        obtain ⟨T9, hR9, hQ⟩ := id hQX
        refine g_iald Fx hK hQ.to 0 rfl (i := f) (by omega) (by omega) dL_act_733 ?_
        refine lv_istore (lv' := [(10, .int (g 0 f)), (8, .int (nI 1)), (9, .int (nI k)), (0, .ref (q 0)), (1, .ref (A 0)), (2, .int x), (3, .int (nI f)), (4, .int (nI w)), (5, .int (nI k)), (6, .int (nI o)), (7, .int (nI n))]) hx hb dL_act_734 hl (by decide) rfl (fun ls hl => ?_)
        refine lv_iload hx hb dL_act_736 (lv_at hl 1 rfl) ?_
        refine n_if_eq (tgt := 752) hx hb (by omega) dL_act_738 (by decide) (fun h12 => by omega) (fun h12 => ?_)
        refine lv_aload_n hx hb dL_act_741 rfl (lv_at hl 4 rfl) ?_
        obtain ⟨T9, hR9, hQ⟩ := id hQX
        refine g_get Fx hin hK 1 hQ.o rfl 0 (by decide) (by decide +kernel) rfl dL_act_742 ?_
        refine lv_iload_n hx hb dL_act_745 rfl (lv_at hl 6 rfl) ?_
        refine lv_iload hx hb dL_act_746 (lv_at hl 10 rfl) ?_
        refine lv_bipush (v := nI 21) hx hb dL_act_748 (by decide) ?_
        refine lv_irem hx hb dL_act_750 (by decide) ?_
        rw [rem_n (by omega) (by decide) (by decide)]
        obtain ⟨T9, hR9, hQ⟩ := id hQX
        refine g_iast Fx hK hQ.to 0 rfl (sabg _ (SA.i sV1)) hS (i := f) (by omega) (by omega) dL_act_751 (fun H locs he9 kp hS => ?_)
        have hQX : SS D ci cj A F P (gTol g f (nI (n % 21))) H := ⟨T9, hR9.cg (fun _ _ _ _ _ _ => rfl), hQ.st1 hAD.1 kp he9 rfl rfl (fun _ => rfl)⟩
        have kp : KP (SA A F P) _ H := kp.mono (fun q9 h9 => by rw [h9]; exact SA.i sV1)
        have hP : va_P D vwCl (w0 ci cz q F P g) H := w0_s hAD hP kp
        refine lv_aload_n hx hb dL_act_752 rfl (lv_at hl 3 rfl) ?_
        refine lv_iload_n hx hb dL_act_753 rfl (lv_at hl 6 rfl) ?_
        refine lv_iload hx hb dL_act_754 (lv_at hl 2 rfl) ?_
        refine lv_iload hx hb dL_act_756 (lv_at hl 10 rfl) ?_
        refine lv_bipush (v := nI 21) hx hb dL_act_758 (by decide) ?_
        refine lv_irem hx hb dL_act_760 (by decide) ?_
        rw [rem_n (by omega) (by decide) (by decide)]
        have hK9 : k_setToll F P g (nI f) (nI k) (nI (n % 21)) = 0 := by unfold k_setToll; rw [if_pos ⟨inR_nI hf (by omega), hma⟩, if_pos ⟨nI_pos' (by omega), nI_le (by omega) (by omega)⟩, ix_nI (by omega), if_pos h9]
        refine r_callT (rest := []) Fx (t_setToll l hl0 (D := D) (ci := ci) (cz := cz) (cj := cj) (q := q) (F := F) (P := P) (g := g) hq (by omega) (by omega) f (nI k) (nI (n % 21)) (by omega) ) (cwV 3 Fx.2.2.2.2 gL_act_X0_setToll rfl rfl rfl (by decide +kernel) ⟨Nat.le_of_ble_eq_true rfl, Nat.le_of_ble_eq_true rfl⟩) BW.bl (va_recv hK hP (ci := 0) (q0 := 0) rfl rfl) (BWb hqs hP hL hS) rfl hl.1 rfl (Nat.le_of_ble_eq_true rfl) dL_act_761 ⟨by show _ ≤ 100; omega, by show _ ≤ 1300; omega⟩ hS (fun q9 h9 => bg_aw hqs q9 h9) (fun H locs hk0 hP kp hS => ?_) (fun j E ce q9 H locs hj _ _ _ _ _ _ => absurd (hK9.symm.trans hj) (Nat.succ_ne_zero j).symm)
        have hQX : SS D ci cj A F P (gTol g f (nI (n % 21))) H := SS_m hAD hQX kp
        have hP : va_P D vwCl (w0 ci cz q F P (gTol g f (nI (n % 21)))) H := hP
        refine lv_iload hx hb dL_act_764 (lv_at hl 0 rfl) ?_
        refine lv_icmp_ne (tgt := 778) hx hb dL_act_766 (by decide) (fun h13 => absurd rfl h13) (fun h13 => ?_)
        refine lv_iload hx hb dL_act_769 (lv_at hl 1 rfl) ?_
        refine n_if_eq (tgt := 778) hx hb (by omega) dL_act_771 (by decide) (fun h14 => by omega) (fun h14 => ?_)
        refine lv_iconst (v := nI 1) hx hb dL_act_774 (by decide) ?_
        refine lv_goto (tgt := 779) hx hb dL_act_775 (by decide) ?_
        exact m_zret (b := true) hx hb hr hlocks hS ⟨rfl, A, F, P, (gTol g f (nI (n % 21))), rfl, hAD, (ix_toll hI hf (by rw [nI_toInt (by omega)]; omega) (by rw [nI_toInt (by omega)]; omega)).mono (Nat.le_succ _), by omega, by omega, ⟨hP, hQX⟩⟩ (by omega) (by omega) dL_act_779
    · have h8 := Int32.not_lt.mp h8
      refine lv_aload_n hx hb dL_act_699 rfl (lv_at hl 1 rfl) ?_
      refine lv_iload_n hx hb dL_act_700 rfl (lv_at hl 3 rfl) ?_
      refine r_callR (rest := []) Fx (m_X1_master l (D := D) (ci := ci) (cz := cz) (cj := cj) (A := A) (F := F) (P := P) (g := g) (by omega) (by omega) f (by omega) hI.iv) (cwV 1 Fx.2.2.2.2 gL_act_X1_master rfl rfl rfl (by decide +kernel) ⟨Nat.le_of_ble_eq_true rfl, Nat.le_of_ble_eq_true rfl⟩) BX.bl (hQX.rc hK) (BX.at hQX hK hO) rfl hl.1 rfl (Nat.le_of_ble_eq_true rfl) dL_act_701 ⟨by show _ ≤ 100; omega, by show _ ≤ 1300; omega⟩ ?_
      refine lv_goto (tgt := 709) hx hb dL_act_704 (by decide) ?_
      have hma : inR (sMas g P f) P := mas_in h8 (by omega)
      refine lv_istore (lv' := [(9, .int (sMas g P f)), (0, .ref (q 0)), (1, .ref (A 0)), (2, .int x), (3, .int (nI f)), (4, .int (nI w)), (5, .int (nI k)), (6, .int (nI o)), (7, .int (nI n)), (8, .int (bI (lv g k)))]) hx hb dL_act_709 hl (by decide) rfl (fun ls hl => ?_)
      refine lv_aload_n hx hb dL_act_711 rfl (lv_at hl 2 rfl) ?_
      refine lv_iload_n hx hb dL_act_712 rfl (lv_at hl 4 rfl) ?_
      refine r_callR (rest := []) Fx (m_X1_master l (D := D) (ci := ci) (cz := cz) (cj := cj) (A := A) (F := F) (P := P) (g := g) (by omega) (by omega) f (by omega) hI.iv) (cwV 1 Fx.2.2.2.2 gL_act_X1_master rfl rfl rfl (by decide +kernel) ⟨Nat.le_of_ble_eq_true rfl, Nat.le_of_ble_eq_true rfl⟩) BX.bl (hQX.rc hK) (BX.at hQX hK hO) rfl hl.1 rfl (Nat.le_of_ble_eq_true rfl) dL_act_713 ⟨by show _ ≤ 100; omega, by show _ ≤ 1300; omega⟩ ?_
      refine lv_iload hx hb dL_act_716 (lv_at hl 0 rfl) ?_
      refine lv_icmp_ne (tgt := 725) hx hb dL_act_718 (by decide) (fun h15 => ?_) (fun h15 => ?_)
      · refine lv_iconst (v := nI 0) hx hb dL_act_725 (by decide) ?_
        refine lv_istore (lv' := [(8, .int (nI 0)), (9, .int (sMas g P f)), (0, .ref (q 0)), (1, .ref (A 0)), (2, .int x), (3, .int (nI f)), (4, .int (nI w)), (5, .int (nI k)), (6, .int (nI o)), (7, .int (nI n))]) hx hb dL_act_726 hl (by decide) rfl (fun ls hl => ?_)
        refine lv_aload_n hx hb dL_act_728 rfl (lv_at hl 3 rfl) ?_
        obtain ⟨T9, hR9, hQ⟩ := id hQX
        refine g_get Fx hin hK 1 hQ.o rfl 0 (by decide) (by decide +kernel) rfl dL_act_729 ?_
        refine lv_iload_n hx hb dL_act_732 rfl (lv_at hl 5 rfl) ?_
        obtain ⟨T9, hR9, hQ⟩ := id hQX
        refine g_iald Fx hK hQ.to 0 rfl (i := f) (by omega) (by omega) dL_act_733 ?_
        refine lv_istore (lv' := [(10, .int (g 0 f)), (8, .int (nI 0)), (9, .int (sMas g P f)), (0, .ref (q 0)), (1, .ref (A 0)), (2, .int x), (3, .int (nI f)), (4, .int (nI w)), (5, .int (nI k)), (6, .int (nI o)), (7, .int (nI n))]) hx hb dL_act_734 hl (by decide) rfl (fun ls hl => ?_)
        refine lv_iload hx hb dL_act_736 (lv_at hl 1 rfl) ?_
        refine n_if_eq (tgt := 752) hx hb (by omega) dL_act_738 (by decide) (fun h16 => ?_) (fun h16 => by omega)
        refine lv_aload_n hx hb dL_act_752 rfl (lv_at hl 3 rfl) ?_
        refine lv_iload_n hx hb dL_act_753 rfl (lv_at hl 6 rfl) ?_
        refine lv_iload hx hb dL_act_754 (lv_at hl 2 rfl) ?_
        refine lv_iload hx hb dL_act_756 (lv_at hl 10 rfl) ?_
        refine lv_bipush (v := nI 21) hx hb dL_act_758 (by decide) ?_
        refine lv_irem hx hb dL_act_760 (by decide) ?_
        rw [rem_n (by omega) (by decide) (by decide)]
        have hK9 : k_setToll F P g (nI f) (sMas g P f) (nI (n % 21)) = 3 := by unfold k_setToll; rw [if_pos ⟨inR_nI hf (by omega), hma⟩, if_pos ⟨nI_pos' (by omega), nI_le (by omega) (by omega)⟩, ix_nI (by omega), if_neg h15]
        refine r_callT (rest := []) Fx (t_setToll l hl0 (D := D) (ci := ci) (cz := cz) (cj := cj) (q := q) (F := F) (P := P) (g := g) hq (by omega) (by omega) f (sMas g P f) (nI (n % 21)) (by omega) ) (cwV 3 Fx.2.2.2.2 gL_act_X0_setToll rfl rfl rfl (by decide +kernel) ⟨Nat.le_of_ble_eq_true rfl, Nat.le_of_ble_eq_true rfl⟩) BW.bl (va_recv hK hP (ci := 0) (q0 := 0) rfl rfl) (BWb hqs hP hL hS) rfl hl.1 rfl (Nat.le_of_ble_eq_true rfl) dL_act_761 ⟨by show _ ≤ 100; omega, by show _ ≤ 1300; omega⟩ hS (fun q9 h9 => bg_aw hqs q9 h9) (fun H locs hk0 _ _ _ => absurd (hK9.symm.trans hk0) (Nat.succ_ne_zero _)) (fun j E ce q9 H locs hj hxs hh hS hce hcv hcl => ?_)
        obtain rfl : j = 2 := by have := hK9.symm.trans hj; omega
        obtain rfl : xIS = E := Option.some.inj hxs
        have kp := KP.of hh
        have hQX : SS D ci cj A F P g H := hQX.mv kp (fun _ _ h9 => h9.elim)
        have hP : va_P D vwCl (w0 ci cz q F P g) H := P_all hP hh
        refine l_ise (i := 680) (n := 779) (b := 889) (k := 95) 8 Fx hE htab (by decide) (by decide +kernel) rfl (by decide) (by decide) hce hcv hcl ?_
        refine lv_astore (lv' := [(9, .ref q9), (10, .int (g 0 f)), (8, .int (nI 0)), (0, .ref (q 0)), (1, .ref (A 0)), (2, .int x), (3, .int (nI f)), (4, .int (nI w)), (5, .int (nI k)), (6, .int (nI o)), (7, .int (nI n))]) hx hb dL_act_889 hl (by decide) rfl (fun ls hl => ?_)
        refine lv_iload hx hb dL_act_891 (lv_at hl 2 rfl) ?_
        refine n_if_ne (tgt := 900) hx hb (by omega) dL_act_893 (by decide) (fun h17 => by omega) (fun h17 => ?_)
        refine lv_iconst (v := nI 1) hx hb dL_act_896 (by decide) ?_
        refine lv_goto (tgt := 901) hx hb dL_act_897 (by decide) ?_
        exact m_zret (b := true) hx hb hr hlocks hS ⟨rfl, A, F, P, g, rfl, hAD, hI.mono (Nat.le_succ _), by omega, by omega, ⟨hP, hQX⟩⟩ (by omega) (by omega) dL_act_901
      · refine lv_iconst (v := nI 1) hx hb dL_act_721 (by decide) ?_
        refine lv_goto (tgt := 726) hx hb dL_act_722 (by decide) ?_
        refine lv_istore (lv' := [(8, .int (nI 1)), (9, .int (sMas g P f)), (0, .ref (q 0)), (1, .ref (A 0)), (2, .int x), (3, .int (nI f)), (4, .int (nI w)), (5, .int (nI k)), (6, .int (nI o)), (7, .int (nI n))]) hx hb dL_act_726 hl (by decide) rfl (fun ls hl => ?_)
        refine lv_aload_n hx hb dL_act_728 rfl (lv_at hl 3 rfl) ?_
        obtain ⟨T9, hR9, hQ⟩ := id hQX
        refine g_get Fx hin hK 1 hQ.o rfl 0 (by decide) (by decide +kernel) rfl dL_act_729 ?_
        refine lv_iload_n hx hb dL_act_732 rfl (lv_at hl 5 rfl) ?_
        obtain ⟨T9, hR9, hQ⟩ := id hQX
        refine g_iald Fx hK hQ.to 0 rfl (i := f) (by omega) (by omega) dL_act_733 ?_
        refine lv_istore (lv' := [(10, .int (g 0 f)), (8, .int (nI 1)), (9, .int (sMas g P f)), (0, .ref (q 0)), (1, .ref (A 0)), (2, .int x), (3, .int (nI f)), (4, .int (nI w)), (5, .int (nI k)), (6, .int (nI o)), (7, .int (nI n))]) hx hb dL_act_734 hl (by decide) rfl (fun ls hl => ?_)
        refine lv_iload hx hb dL_act_736 (lv_at hl 1 rfl) ?_
        refine n_if_eq (tgt := 752) hx hb (by omega) dL_act_738 (by decide) (fun h18 => by omega) (fun h18 => ?_)
        refine lv_aload_n hx hb dL_act_741 rfl (lv_at hl 4 rfl) ?_
        obtain ⟨T9, hR9, hQ⟩ := id hQX
        refine g_get Fx hin hK 1 hQ.o rfl 0 (by decide) (by decide +kernel) rfl dL_act_742 ?_
        refine lv_iload_n hx hb dL_act_745 rfl (lv_at hl 6 rfl) ?_
        refine lv_iload hx hb dL_act_746 (lv_at hl 10 rfl) ?_
        refine lv_bipush (v := nI 21) hx hb dL_act_748 (by decide) ?_
        refine lv_irem hx hb dL_act_750 (by decide) ?_
        rw [rem_n (by omega) (by decide) (by decide)]
        obtain ⟨T9, hR9, hQ⟩ := id hQX
        refine g_iast Fx hK hQ.to 0 rfl (sabg _ (SA.i sV1)) hS (i := f) (by omega) (by omega) dL_act_751 (fun H locs he9 kp hS => ?_)
        have hQX : SS D ci cj A F P (gTol g f (nI (n % 21))) H := ⟨T9, hR9.cg (fun _ _ _ _ _ _ => rfl), hQ.st1 hAD.1 kp he9 rfl rfl (fun _ => rfl)⟩
        have kp : KP (SA A F P) _ H := kp.mono (fun q9 h9 => by rw [h9]; exact SA.i sV1)
        have hP : va_P D vwCl (w0 ci cz q F P g) H := w0_s hAD hP kp
        refine lv_aload_n hx hb dL_act_752 rfl (lv_at hl 3 rfl) ?_
        refine lv_iload_n hx hb dL_act_753 rfl (lv_at hl 6 rfl) ?_
        refine lv_iload hx hb dL_act_754 (lv_at hl 2 rfl) ?_
        refine lv_iload hx hb dL_act_756 (lv_at hl 10 rfl) ?_
        refine lv_bipush (v := nI 21) hx hb dL_act_758 (by decide) ?_
        refine lv_irem hx hb dL_act_760 (by decide) ?_
        rw [rem_n (by omega) (by decide) (by decide)]
        have hK9 : k_setToll F P g (nI f) (sMas g P f) (nI (n % 21)) = 0 := by unfold k_setToll; rw [if_pos ⟨inR_nI hf (by omega), hma⟩, if_pos ⟨nI_pos' (by omega), nI_le (by omega) (by omega)⟩, ix_nI (by omega), if_pos h15]
        refine r_callT (rest := []) Fx (t_setToll l hl0 (D := D) (ci := ci) (cz := cz) (cj := cj) (q := q) (F := F) (P := P) (g := g) hq (by omega) (by omega) f (sMas g P f) (nI (n % 21)) (by omega) ) (cwV 3 Fx.2.2.2.2 gL_act_X0_setToll rfl rfl rfl (by decide +kernel) ⟨Nat.le_of_ble_eq_true rfl, Nat.le_of_ble_eq_true rfl⟩) BW.bl (va_recv hK hP (ci := 0) (q0 := 0) rfl rfl) (BWb hqs hP hL hS) rfl hl.1 rfl (Nat.le_of_ble_eq_true rfl) dL_act_761 ⟨by show _ ≤ 100; omega, by show _ ≤ 1300; omega⟩ hS (fun q9 h9 => bg_aw hqs q9 h9) (fun H locs hk0 hP kp hS => ?_) (fun j E ce q9 H locs hj _ _ _ _ _ _ => absurd (hK9.symm.trans hj) (Nat.succ_ne_zero j).symm)
        have hQX : SS D ci cj A F P (gTol g f (nI (n % 21))) H := SS_m hAD hQX kp
        have hP : va_P D vwCl (w0 ci cz q F P (gTol g f (nI (n % 21)))) H := hP
        refine lv_iload hx hb dL_act_764 (lv_at hl 0 rfl) ?_
        refine lv_icmp_ne (tgt := 778) hx hb dL_act_766 (by decide) (fun h19 => absurd rfl h19) (fun h19 => ?_)
        refine lv_iload hx hb dL_act_769 (lv_at hl 1 rfl) ?_
        refine n_if_eq (tgt := 778) hx hb (by omega) dL_act_771 (by decide) (fun h20 => by omega) (fun h20 => ?_)
        refine lv_iconst (v := nI 1) hx hb dL_act_774 (by decide) ?_
        refine lv_goto (tgt := 779) hx hb dL_act_775 (by decide) ?_
        exact m_zret (b := true) hx hb hr hlocks hS ⟨rfl, A, F, P, (gTol g f (nI (n % 21))), rfl, hAD, (ix_toll hI hf (by rw [nI_toInt (by omega)]; omega) (by rw [nI_toInt (by omega)]; omega)).mono (Nat.le_succ _), by omega, by omega, ⟨hP, hQX⟩⟩ (by omega) (by omega) dL_act_779
set_option maxHeartbeats 8000000 in
set_option maxRecDepth 100000 in
theorem ac_14 {pg : Program} {l : Launch} {en : Env} {s : State} {m : MethodId} {args : Array Value} {bl : List Frame} {mt : Method} {cd : Code} {ls : Array Slot} {D : va_G} {ci cz : ClassId} {cj : ClassId × ClassId} {q : Nat → Nat} {sz : Nat} {A : Nat → Nat} {F P : Nat} {g : Nat → Nat → Int32} {nn : Nat} {x : Int32} {f w k o n : Nat} (hl0 : l.stackTraces = false) (Fx : CallFix pg m cd cL_act 11 s args wsL_act RL) (hr : mt.sig.returnType = some .boolean) (hlocks : mt.locks = false) (htab : cd.exceptionTable.toList = tableOf [(96, 236, 889, 95), (237, 288, 889, 95), (289, 346, 889, 95), (347, 420, 889, 95), (421, 493, 889, 95), (494, 502, 889, 95), (503, 580, 889, 95), (581, 679, 889, 95), (680, 779, 889, 95), (780, 792, 889, 95), (793, 834, 889, 95), (835, 888, 889, 95)]) (hL : EL D ci cz cj sz s) (hq : DQ q 8) (hqs : ∀ k, k < 8 → sz ≤ q k) (hAD : AD q sz A F P) (hsz : sz ≤ s.heap.size) (hI : Ix nn F P g) (hnn : nn ≤ 900) (hP : va_P D vwCl (w0 ci cz q F P g) s.heap) (hQX : SS D ci cj A F P g s.heap) (hf : f < F) (hw : w < 4) (hk : k < P) (ho : o < P) (hn1 : 1 ≤ n) (hn2 : n ≤ 64) (hl : lv_has ls 11 [(0, .ref (q 0)), (1, .ref (A 0)), (2, .int x), (3, .int (nI f)), (4, .int (nI w)), (5, .int (nI k)), (6, .int (nI o)), (7, .int (nI n)), (8, .int (bI (lv g k)))]) : W pg l en ({ frames := 9, cells := 100, slots := 1300, locals := 153 } : Room) s m args bl mt cd s.heap [] 0 0 (MQ bl (MQv (fun v H => v = some (.int (bI true)) ∧ ∃ A' F' P' g', A' 0 = A 0 ∧ AD q sz A' F' P' ∧ Ix (nn + 1) F' P' g' ∧ F ≤ F' ∧ P ≤ P' ∧ LH D ci cz cj q A' F' P' g' H) (bg sz)) args s 100 1300 (bg sz)) (F0 m 780 ls []) := by
  have hx := Fx.1
  have hb := Fx.2.1
  obtain ⟨hK, hE, hNC⟩ := id hL
  have hO := hE.2.2.2.2
  have hFb := hI.b.1
  have hPb := hI.b.2
  have hin : ∀ w ∈ wsX10, w ∈ wsL_act := by decide +kernel
  have hS : va_S (bg sz) s.heap s.heap [] := va_S.rf
  have sabg : ∀ q9, SA A F P q9 → bg sz q9 := by
    rintro q9 ⟨j, hj, rfl⟩
    exact (hAD.2 j hj).1
  refine lv_iload_n hx hb dL_act_780 rfl (lv_at hl 2 rfl) ?_
  refine lv_bipush (v := nI 6) hx hb dL_act_781 (by decide) ?_
  refine lv_ishr hx hb dL_act_783 ?_
  refine lv_iconst (v := nI 3) hx hb dL_act_784 (by decide) ?_
  refine r_callRS (rest := []) Fx (m_L_below l (x >>> ((nI 6) &&& 31)) 3 (by omega) (by omega)) (va_cwS 2 Fx.2.2.2.2 gL_act_L_below rfl rfl rfl (by decide +kernel) ⟨Nat.le_of_ble_eq_true rfl, Nat.le_of_ble_eq_true rfl⟩) (fun _ _ _ _ h => h) (fun _ _ _ => trivial) rfl hl.1 rfl (Nat.le_of_ble_eq_true rfl) dL_act_785 ⟨by show _ ≤ 100; omega, by show _ ≤ 1300; omega⟩ ?_
  obtain ⟨z, hz, ez⟩ : ∃ j, j < 3 ∧ bw (x >>> ((nI 6) &&& 31)) 3 = j := ⟨_, bw_lt (by omega), rfl⟩
  rw [ez]
  refine n_if_le (tgt := 793) hx hb (by omega) dL_act_788 (by decide) (fun h1 => ?_) (fun h1 => ?_)
  · have hcc : sCHe g P k ≤ P := cn_le _ _
    refine lv_aload_n hx hb dL_act_793 rfl (lv_at hl 1 rfl) ?_
    refine lv_iload hx hb dL_act_794 (lv_at hl 5 rfl) ?_
    have hz8 := Nat.le_trans hsz hS.1
    have hql := q_lt hP
    refine r_callM (rest := []) Fx (m_X1_heirs l (D := D) (ci := ci) (cz := cz) (cj := cj) (A := A) (F := F) (P := P) (g := g) _ (by omega) (by omega) k (by omega) hI.iv hI.c6) (cwV 1 Fx.2.2.2.2 gL_act_X1_heirs rfl rfl rfl (by decide +kernel) ⟨Nat.le_of_ble_eq_true rfl, Nat.le_of_ble_eq_true rfl⟩) (fun U fr mk a h9 => ⟨h9.1, BX.bl U fr mk a h9.2⟩) (hQX.rc hK) (fun U hU hW => ⟨by rw [hU], BX.at hQX hK hO U hU hW⟩) rfl hl.1 rfl (Nat.le_of_ble_eq_true rfl) dL_act_796 ⟨by show _ ≤ 100; omega, by show _ ≤ 1300; omega⟩ hS (fun q9 h9 => Nat.le_trans hz8 h9) (fun v H locs hv kp hS => ?_)
    obtain ⟨b1, he, rfl, lb1, hHe, hm1⟩ := hv
    have hQX : SS D ci cj A F P g H := hQX.new kp
    have hP : va_P D vwCl (w0 ci cz q F P g) H := w0_n' hP (Nat.le_refl _) kp
    refine g_alenI Fx hK hm1 0 rfl dL_act_799 ?_
    refine lv_istore (lv' := [(9, .int (nI (sCHe g P k))), (0, .ref (q 0)), (1, .ref (A 0)), (2, .int x), (3, .int (nI f)), (4, .int (nI w)), (5, .int (nI k)), (6, .int (nI o)), (7, .int (nI n)), (8, .int (bI (lv g k)))]) hx hb dL_act_800 hl (by decide) rfl (fun ls hl => ?_)
    refine lv_iload hx hb dL_act_802 (lv_at hl 9 rfl) ?_
    refine b_if_eq (tgt := 813) hx hb dL_act_804 (by decide) (fun h2 => ?_) (fun h2 => ?_)
    · rw [h2] at hl
      have hl : lv_has ls 11 [(9, .int (nI (sCHe g P k))), (0, .ref (q 0)), (1, .ref (A 0)), (2, .int x), (3, .int (nI f)), (4, .int (nI w)), (5, .int (nI k)), (6, .int (nI o)), (7, .int (nI n)), (8, .int (nI 0))] := hl
      refine lv_aload_n hx hb dL_act_813 rfl (lv_at hl 1 rfl) ?_
      refine lv_iload hx hb dL_act_814 (lv_at hl 6 rfl) ?_
      have hK9 : k_die P g (nI k) = 2 := by unfold k_die; rw [if_pos (inR_nI hk (by omega)), ix_nI (by omega), if_neg (by rw [h2]; decide)]
      refine r_callT (rest := []) Fx (t_die l hl0 (D := D) (ci := ci) (cz := cz) (cj := cj) (q := q) (F := F) (P := P) (g := g) hq (by omega) (by omega) k (by omega) ) (cwV 1 Fx.2.2.2.2 gL_act_X0_die rfl rfl rfl (by decide +kernel) ⟨Nat.le_of_ble_eq_true rfl, Nat.le_of_ble_eq_true rfl⟩) BW.bl (va_recv hK hP (ci := 0) (q0 := 0) rfl rfl) (BWb hqs hP hL hS) rfl hl.1 rfl (Nat.le_of_ble_eq_true rfl) dL_act_816 ⟨by show _ ≤ 100; omega, by show _ ≤ 1300; omega⟩ hS (fun q9 h9 => bg_aw hqs q9 h9) (fun H locs hk0 _ _ _ => absurd (hK9.symm.trans hk0) (Nat.succ_ne_zero _)) (fun j E ce q9 H locs hj hxs hh hS hce hcv hcl => ?_)
      obtain rfl : j = 1 := by have := hK9.symm.trans hj; omega
      obtain rfl : xIS = E := Option.some.inj hxs
      have kp := KP.of hh
      have hQX : SS D ci cj A F P g H := hQX.mv kp (fun _ _ h9 => h9.elim)
      have hm1 : isI D ci H b1 (sCHe g P k) he := kp.at hm1 (fun h9 => h9.elim)
      have hP : va_P D vwCl (w0 ci cz q F P g) H := P_all hP hh
      refine l_ise (i := 793) (n := 834) (b := 889) (k := 95) 10 Fx hE htab (by decide) (by decide +kernel) rfl (by decide) (by decide) hce hcv hcl ?_
      refine lv_astore (lv' := [(9, .ref q9), (0, .ref (q 0)), (1, .ref (A 0)), (2, .int x), (3, .int (nI f)), (4, .int (nI w)), (5, .int (nI k)), (6, .int (nI o)), (7, .int (nI n)), (8, .int (nI 0))]) hx hb dL_act_889 hl (by decide) rfl (fun ls hl => ?_)
      refine lv_iload hx hb dL_act_891 (lv_at hl 9 rfl) ?_
      refine n_if_ne (tgt := 900) hx hb (by omega) dL_act_893 (by decide) (fun h3 => by omega) (fun h3 => ?_)
      refine lv_iconst (v := nI 1) hx hb dL_act_896 (by decide) ?_
      refine lv_goto (tgt := 901) hx hb dL_act_897 (by decide) ?_
      exact m_zret (b := true) hx hb hr hlocks hS ⟨rfl, A, F, P, g, rfl, hAD, hI.mono (Nat.le_succ _), by omega, by omega, ⟨hP, hQX⟩⟩ (by omega) (by omega) dL_act_901
    · rw [h2] at hl
      have hl : lv_has ls 11 [(9, .int (nI (sCHe g P k))), (0, .ref (q 0)), (1, .ref (A 0)), (2, .int x), (3, .int (nI f)), (4, .int (nI w)), (5, .int (nI k)), (6, .int (nI o)), (7, .int (nI n)), (8, .int (nI 1))] := hl
      refine lv_aload_n hx hb dL_act_807 rfl (lv_at hl 2 rfl) ?_
      refine lv_iload hx hb dL_act_808 (lv_at hl 6 rfl) ?_
      have hz8 := Nat.le_trans hsz hS.1
      have hql := q_lt hP
      refine r_callM (rest := []) Fx (m_X1_die l (D := D) (ci := ci) (cz := cz) (cj := cj) (A := A) (F := F) (P := P) (g := g) _ (by omega) (by omega) k (by omega) hI.iv hI.c6 hAD.1) (cwV 1 Fx.2.2.2.2 gL_act_X1_die rfl rfl rfl (by decide +kernel) ⟨Nat.le_of_ble_eq_true rfl, Nat.le_of_ble_eq_true rfl⟩) (fun U fr mk a h9 => ⟨h9.1, BX.bl U fr mk a h9.2⟩) (hQX.rc hK) (fun U hU hW => ⟨by rw [hU], BX.at hQX hK hO U hU hW⟩) rfl hl.1 rfl (Nat.le_of_ble_eq_true rfl) dL_act_810 ⟨by show _ ≤ 100; omega, by show _ ≤ 1300; omega⟩ hS (fun q9 h9 => bg_d hAD hz8 q9 h9) (fun v H locs hv kp hS => ?_)
      have hP : va_P D vwCl (w0 ci cz q F P g) H := w0_d hAD hP (Nat.le_refl _) kp
      obtain ⟨rfl, hQX⟩ := hv
      refine lv_aload_n hx hb dL_act_813 rfl (lv_at hl 1 rfl) ?_
      refine lv_iload hx hb dL_act_814 (lv_at hl 6 rfl) ?_
      have hK9 : k_die P g (nI k) = 0 := by unfold k_die; rw [if_pos (inR_nI hk (by omega)), ix_nI (by omega), if_pos h2]
      refine r_callT (rest := []) Fx (t_die l hl0 (D := D) (ci := ci) (cz := cz) (cj := cj) (q := q) (F := F) (P := P) (g := g) hq (by omega) (by omega) k (by omega) ) (cwV 1 Fx.2.2.2.2 gL_act_X0_die rfl rfl rfl (by decide +kernel) ⟨Nat.le_of_ble_eq_true rfl, Nat.le_of_ble_eq_true rfl⟩) BW.bl (va_recv hK hP (ci := 0) (q0 := 0) rfl rfl) (BWb hqs hP hL hS) rfl hl.1 rfl (Nat.le_of_ble_eq_true rfl) dL_act_816 ⟨by show _ ≤ 100; omega, by show _ ≤ 1300; omega⟩ hS (fun q9 h9 => bg_aw hqs q9 h9) (fun H locs hk0 hP kp hS => ?_) (fun j E ce q9 H locs hj _ _ _ _ _ _ => absurd (hK9.symm.trans hj) (Nat.succ_ne_zero j).symm)
      have hQX : SS D ci cj A F P (gDie g F P k) H := SS_m hAD hQX kp
      have hP : va_P D vwCl (w0 ci cz q F P (gDie g F P k)) H := hP
      refine lv_iload hx hb dL_act_819 (lv_at hl 0 rfl) ?_
      refine n_icmp_ne (tgt := 833) hx hb (by omega) (by omega) dL_act_821 (by decide) (fun h4 => by omega) (fun h4 => ?_)
      refine lv_iload hx hb dL_act_824 (lv_at hl 9 rfl) ?_
      refine n_if_eq (tgt := 833) hx hb (by omega) dL_act_826 (by decide) (fun h5 => by omega) (fun h5 => ?_)
      refine lv_iconst (v := nI 1) hx hb dL_act_829 (by decide) ?_
      refine lv_goto (tgt := 834) hx hb dL_act_830 (by decide) ?_
      exact m_zret (b := true) hx hb hr hlocks hS ⟨rfl, A, F, P, (gDie g F P k), rfl, hAD, (ix_die hI hk).mono (Nat.le_succ _), by omega, by omega, ⟨hP, hQX⟩⟩ (by omega) (by omega) dL_act_834
  · refine lv_iconst (v := nI 1) hx hb dL_act_791 (by decide) ?_
    exact m_zret (b := true) hx hb hr hlocks hS ⟨rfl, A, F, P, g, rfl, hAD, hI.mono (Nat.le_succ _), by omega, by omega, ⟨hP, hQX⟩⟩ (by omega) (by omega) dL_act_792
set_option maxHeartbeats 8000000 in
set_option maxRecDepth 100000 in
theorem ac_15 {pg : Program} {l : Launch} {en : Env} {s : State} {m : MethodId} {args : Array Value} {bl : List Frame} {mt : Method} {cd : Code} {ls : Array Slot} {D : va_G} {ci cz : ClassId} {cj : ClassId × ClassId} {q : Nat → Nat} {sz : Nat} {A : Nat → Nat} {F P : Nat} {g : Nat → Nat → Int32} {nn : Nat} {x : Int32} {f w k o n : Nat} (hl0 : l.stackTraces = false) (Fx : CallFix pg m cd cL_act 11 s args wsL_act RL) (hr : mt.sig.returnType = some .boolean) (hlocks : mt.locks = false) (htab : cd.exceptionTable.toList = tableOf [(96, 236, 889, 95), (237, 288, 889, 95), (289, 346, 889, 95), (347, 420, 889, 95), (421, 493, 889, 95), (494, 502, 889, 95), (503, 580, 889, 95), (581, 679, 889, 95), (680, 779, 889, 95), (780, 792, 889, 95), (793, 834, 889, 95), (835, 888, 889, 95)]) (hL : EL D ci cz cj sz s) (hq : DQ q 8) (hqs : ∀ k, k < 8 → sz ≤ q k) (hAD : AD q sz A F P) (hsz : sz ≤ s.heap.size) (hI : Ix nn F P g) (hnn : nn ≤ 900) (hP : va_P D vwCl (w0 ci cz q F P g) s.heap) (hQX : SS D ci cj A F P g s.heap) (hf : f < F) (hw : w < 4) (hk : k < P) (ho : o < P) (hn1 : 1 ≤ n) (hn2 : n ≤ 64) (hl : lv_has ls 11 [(0, .ref (q 0)), (1, .ref (A 0)), (2, .int x), (3, .int (nI f)), (4, .int (nI w)), (5, .int (nI k)), (6, .int (nI o)), (7, .int (nI n)), (8, .int (bI (lv g k)))]) : W pg l en ({ frames := 9, cells := 100, slots := 1300, locals := 153 } : Room) s m args bl mt cd s.heap [] 0 0 (MQ bl (MQv (fun v H => v = some (.int (bI true)) ∧ ∃ A' F' P' g', A' 0 = A 0 ∧ AD q sz A' F' P' ∧ Ix (nn + 1) F' P' g' ∧ F ≤ F' ∧ P ≤ P' ∧ LH D ci cz cj q A' F' P' g' H) (bg sz)) args s 100 1300 (bg sz)) (F0 m 835 ls []) := by
  have hx := Fx.1
  have hb := Fx.2.1
  obtain ⟨hK, hE, hNC⟩ := id hL
  have hO := hE.2.2.2.2
  have hFb := hI.b.1
  have hPb := hI.b.2
  have hin : ∀ w ∈ wsX10, w ∈ wsL_act := by decide +kernel
  have hS : va_S (bg sz) s.heap s.heap [] := va_S.rf
  have sabg : ∀ q9, SA A F P q9 → bg sz q9 := by
    rintro q9 ⟨j, hj, rfl⟩
    exact (hAD.2 j hj).1
  refine lv_iconst (v := nI 1) hx hb dL_act_835 (by decide) ?_
  refine lv_istore (lv' := [(8, .int (nI 1)), (0, .ref (q 0)), (1, .ref (A 0)), (2, .int x), (3, .int (nI f)), (4, .int (nI w)), (5, .int (nI k)), (6, .int (nI o)), (7, .int (nI n))]) hx hb dL_act_836 hl (by decide) rfl (fun ls hl => ?_)
  refine lv_iload_n hx hb dL_act_838 rfl (lv_at hl 3 rfl) ?_
  refine lv_bipush (v := nI 7) hx hb dL_act_839 (by decide) ?_
  refine lv_ishr hx hb dL_act_841 ?_
  refine lv_bipush (v := nI 24) hx hb dL_act_842 (by decide) ?_
  refine r_callRS (rest := []) Fx (m_L_below l (x >>> ((nI 7) &&& 31)) 24 (by omega) (by omega)) (va_cwS 2 Fx.2.2.2.2 gL_act_L_below rfl rfl rfl (by decide +kernel) ⟨Nat.le_of_ble_eq_true rfl, Nat.le_of_ble_eq_true rfl⟩) (fun _ _ _ _ h => h) (fun _ _ _ => trivial) rfl hl.1 rfl (Nat.le_of_ble_eq_true rfl) dL_act_844 ⟨by show _ ≤ 100; omega, by show _ ≤ 1300; omega⟩ ?_
  obtain ⟨hh, hhh, ehh⟩ : ∃ j, j < 24 ∧ bw (x >>> ((nI 7) &&& 31)) 24 = j := ⟨_, bw_lt (by omega), rfl⟩
  rw [ehh]
  refine lv_istore (lv' := [(9, .int (nI hh)), (8, .int (nI 1)), (0, .ref (q 0)), (1, .ref (A 0)), (2, .int x), (3, .int (nI f)), (4, .int (nI w)), (5, .int (nI k)), (6, .int (nI o)), (7, .int (nI n))]) hx hb dL_act_847 hl (by decide) rfl (fun ls hl => ?_)
  refine lv_iconst (v := nI 1) hx hb dL_act_849 (by decide) ?_
  refine lv_iload_n hx hb dL_act_850 rfl (lv_at hl 4 rfl) ?_
  refine lv_iconst (v := nI 4) hx hb dL_act_851 (by decide) ?_
  refine lv_ishr hx hb dL_act_852 ?_
  refine lv_sipush (v := nI 200) hx hb dL_act_853 (by decide) ?_
  refine r_callRS (rest := [.int (nI 1)]) Fx (m_L_below l (x >>> ((nI 4) &&& 31)) 200 (by omega) (by omega)) (va_cwS 2 Fx.2.2.2.2 gL_act_L_below rfl rfl rfl (by decide +kernel) ⟨Nat.le_of_ble_eq_true rfl, Nat.le_of_ble_eq_true rfl⟩) (fun _ _ _ _ h => h) (fun _ _ _ => trivial) rfl hl.1 rfl (Nat.le_of_ble_eq_true rfl) dL_act_856 ⟨by show _ ≤ 100; omega, by show _ ≤ 1300; omega⟩ ?_
  obtain ⟨u, hu, eu⟩ : ∃ j, j < 200 ∧ bw (x >>> ((nI 4) &&& 31)) 200 = j := ⟨_, bw_lt (by omega), rfl⟩
  rw [eu]
  refine r_iadd_n hx hb dL_act_859 ?_
  refine lv_istore (lv' := [(10, .int (nI (1 + u))), (9, .int (nI hh)), (8, .int (nI 1)), (0, .ref (q 0)), (1, .ref (A 0)), (2, .int x), (3, .int (nI f)), (4, .int (nI w)), (5, .int (nI k)), (6, .int (nI o)), (7, .int (nI n))]) hx hb dL_act_860 hl (by decide) rfl (fun ls hl => ?_)
  refine lv_aload_n hx hb dL_act_862 rfl (lv_at hl 3 rfl) ?_
  refine lv_iload_n hx hb dL_act_863 rfl (lv_at hl 6 rfl) ?_
  refine lv_iload hx hb dL_act_864 (lv_at hl 1 rfl) ?_
  refine lv_iload hx hb dL_act_866 (lv_at hl 0 rfl) ?_
  have hK9 : k_carry F (nI f) (nI hh) (nI (1 + u)) = 0 := by unfold k_carry; rw [if_pos ⟨inR_nI hf (by omega), inR_nI hhh (by omega)⟩, if_pos ⟨nI_le (by omega) (by omega), nI_le (by omega) (by omega)⟩]
  refine r_callT (rest := []) Fx (t_carry l hl0 (D := D) (ci := ci) (cz := cz) (cj := cj) (q := q) (F := F) (P := P) (g := g) hq (by omega) (by omega) f hh (nI (1 + u)) (by omega) (by omega) ) (cwV 3 Fx.2.2.2.2 gL_act_X0_carry rfl rfl rfl (by decide +kernel) ⟨Nat.le_of_ble_eq_true rfl, Nat.le_of_ble_eq_true rfl⟩) BW.bl (va_recv hK hP (ci := 0) (q0 := 0) rfl rfl) (BWb hqs hP hL hS) rfl hl.1 rfl (Nat.le_of_ble_eq_true rfl) dL_act_868 ⟨by show _ ≤ 100; omega, by show _ ≤ 1300; omega⟩ hS (fun q9 h9 => bg_aw hqs q9 h9) (fun H locs hk0 hP kp hS => ?_) (fun j E ce q9 H locs hj _ _ _ _ _ _ => absurd (hK9.symm.trans hj) (Nat.succ_ne_zero j).symm)
  have hQX : SS D ci cj A F P g H := SS_m hAD hQX kp
  have hP : va_P D vwCl (w0 ci cz q F P (gCry g P f (hh / 6) (nI (1 + u)))) H := hP
  refine lv_aload_n hx hb dL_act_871 rfl (lv_at hl 4 rfl) ?_
  refine lv_iload_n hx hb dL_act_872 rfl (lv_at hl 6 rfl) ?_
  refine lv_iload hx hb dL_act_873 (lv_at hl 1 rfl) ?_
  refine lv_iload hx hb dL_act_875 (lv_at hl 0 rfl) ?_
  refine r_callW (rest := [.int (lCar g f (hh / 6) (nI (1 + u)) P)]) Fx (m_X1_carry l (D := D) (ci := ci) (cz := cz) (cj := cj) (A := A) (F := F) (P := P) (g := g) (by omega) (by omega) f hh (nI (1 + u)) (by omega) (by omega) hAD.1) (cwV 3 Fx.2.2.2.2 gL_act_X1_carry rfl rfl rfl (by decide +kernel) ⟨Nat.le_of_ble_eq_true rfl, Nat.le_of_ble_eq_true rfl⟩) BX.bl (hQX.rc hK) (BX.at hQX hK hO) rfl hl.1 rfl (Nat.le_of_ble_eq_true rfl) dL_act_877 ⟨by show _ ≤ 100; omega, by show _ ≤ 1300; omega⟩ hS (fun q9 h9 => sabg q9 h9) (fun H locs hQ9 hS hsz9 hk9 => ?_)
  have kp : KP (SA A F P) _ H := ⟨hsz9, hk9⟩
  have hQX : SS D ci cj A F P (gCry g P f (hh / 6) (nI (1 + u))) H := hQ9
  have hP : va_P D vwCl (w0 ci cz q F P (gCry g P f (hh / 6) (nI (1 + u)))) H := w0_s hAD hP kp
  refine lv_icmp_ne (tgt := 887) hx hb dL_act_880 (by decide) (fun h1 => absurd rfl h1) (fun h1 => ?_)
  refine lv_iconst (v := nI 1) hx hb dL_act_883 (by decide) ?_
  refine lv_goto (tgt := 888) hx hb dL_act_884 (by decide) ?_
  exact m_zret (b := true) hx hb hr hlocks hS ⟨rfl, A, F, P, (gCry g P f (hh / 6) (nI (1 + u))), rfl, hAD, ix_cry hI hf (by omega) (by rw [nI_toInt (by omega)]; omega) (by rw [nI_toInt (by omega)]; omega) (by omega), by omega, by omega, ⟨hP, hQX⟩⟩ (by omega) (by omega) dL_act_888
set_option maxHeartbeats 8000000 in
set_option maxRecDepth 100000 in
theorem m_L_act (l : Launch) (hl0 : l.stackTraces = false) {D : va_G} {ci cz : ClassId} {cj : ClassId × ClassId} {q : Nat → Nat} {sz : Nat} {A : Nat → Nat} {F P : Nat} {g : Nat → Nat → Int32} {nn : Nat} (hq : DQ q 8) (hqs : ∀ k, k < 8 → sz ≤ q k) (hAD : AD q sz A F P) (hI : Ix nn F P g) (hnn : nn ≤ 900) (hF1 : 1 ≤ F) (hP1 : 1 ≤ P) (x : Int32) : Met l yL_act wsL_act ({ frames := 9, cells := 100, slots := 1300, locals := 153 } : Room) (va_Pc [.ref (q 0), .ref (A 0), .int x] (fun U => sz ≤ U.heap.size ∧ LH D ci cz cj q A F P g U.heap ∧ EL D ci cz cj sz U)) (MQv (fun v H => v = some (.int (bI true)) ∧ ∃ A' F' P' g', A' 0 = A 0 ∧ AD q sz A' F' P' ∧ Ix (nn + 1) F' P' g' ∧ F ≤ F' ∧ P ≤ P' ∧ LH D ci cz cj q A' F' P' g' H) (bg sz)) 100 1300 (bg sz) := by
  refine Met.ofLM (cc := cL_act) (maxL := 11) (ret := some .boolean) (hh := [(96, 236, 889, 95), (237, 288, 889, 95), (289, 346, 889, 95), (347, 420, 889, 95), (421, 493, 889, 95), (494, 502, 889, 95), (503, 580, 889, 95), (581, 679, 889, 95), (680, 779, 889, 95), (780, 792, 889, 95), (793, 834, 889, 95), (835, 888, 889, 95)]) (by decide) rfl (Nat.le_of_ble_eq_true rfl) ?_
  intro pg en s m bl mt cd ls Fx hr hlocks htab hB hl
  obtain ⟨hsz, ⟨hP, hQX⟩, hL⟩ := hB
  have hl : lv_has ls 11 [(0, .ref (q 0)), (1, .ref (A 0)), (2, .int x)] := hl
  have Fx : CallFix pg m cd cL_act 11 s _ wsL_act RL := Fx
  have hx := Fx.1
  have hb := Fx.2.1
  obtain ⟨hK, hE, hNC⟩ := id hL
  have hO := hE.2.2.2.2
  have hFb := hI.b.1
  have hPb := hI.b.2
  have hin : ∀ w ∈ wsX10, w ∈ wsL_act := by decide +kernel
  have hS : va_S (bg sz) s.heap s.heap [] := va_S.rf
  have sabg : ∀ q9, SA A F P q9 → bg sz q9 := by
    rintro q9 ⟨j, hj, rfl⟩
    exact (hAD.2 j hj).1
  refine lv_iload_n hx hb dL_act_0 rfl (lv_at hl 2 rfl) ?_
  refine lv_iconst (v := nI 3) hx hb dL_act_1 (by decide) ?_
  refine lv_ishr hx hb dL_act_2 ?_
  refine lv_aload_n hx hb dL_act_3 rfl (lv_at hl 1 rfl) ?_
  obtain ⟨T9, hR9, hQ⟩ := id hQX
  refine g_get Fx hin hK 1 hQ.o rfl 0 (by decide) (by decide +kernel) rfl dL_act_4 ?_
  obtain ⟨T9, hR9, hQ⟩ := id hQX
  refine g_alenI Fx hK hQ.to 0 rfl dL_act_7 ?_
  refine r_callRS (rest := []) Fx (m_L_below l (x >>> ((nI 3) &&& 31)) F (by omega) (by omega)) (va_cwS 2 Fx.2.2.2.2 gL_act_L_below rfl rfl rfl (by decide +kernel) ⟨Nat.le_of_ble_eq_true rfl, Nat.le_of_ble_eq_true rfl⟩) (fun _ _ _ _ h => h) (fun _ _ _ => trivial) rfl hl.1 rfl (Nat.le_of_ble_eq_true rfl) dL_act_8 ⟨by show _ ≤ 100; omega, by show _ ≤ 1300; omega⟩ ?_
  obtain ⟨f, hf, ef⟩ : ∃ j, j < F ∧ bw (x >>> ((nI 3) &&& 31)) F = j := ⟨_, bw_lt (by omega), rfl⟩
  rw [ef]
  refine lv_istore_n (lv' := [(3, .int (nI f)), (0, .ref (q 0)), (1, .ref (A 0)), (2, .int x)]) hx hb dL_act_11 rfl hl (by decide) rfl (fun ls hl => ?_)
  refine lv_iload_n hx hb dL_act_12 rfl (lv_at hl 3 rfl) ?_
  refine lv_bipush (v := nI 6) hx hb dL_act_13 (by decide) ?_
  refine lv_ishr hx hb dL_act_15 ?_
  refine lv_iconst (v := nI 4) hx hb dL_act_16 (by decide) ?_
  refine r_callRS (rest := []) Fx (m_L_below l (x >>> ((nI 6) &&& 31)) 4 (by omega) (by omega)) (va_cwS 2 Fx.2.2.2.2 gL_act_L_below rfl rfl rfl (by decide +kernel) ⟨Nat.le_of_ble_eq_true rfl, Nat.le_of_ble_eq_true rfl⟩) (fun _ _ _ _ h => h) (fun _ _ _ => trivial) rfl hl.1 rfl (Nat.le_of_ble_eq_true rfl) dL_act_17 ⟨by show _ ≤ 100; omega, by show _ ≤ 1300; omega⟩ ?_
  obtain ⟨w, hw, ew⟩ : ∃ j, j < 4 ∧ bw (x >>> ((nI 6) &&& 31)) 4 = j := ⟨_, bw_lt (by omega), rfl⟩
  rw [ew]
  refine lv_istore (lv' := [(4, .int (nI w)), (3, .int (nI f)), (0, .ref (q 0)), (1, .ref (A 0)), (2, .int x)]) hx hb dL_act_20 hl (by decide) rfl (fun ls hl => ?_)
  refine lv_iload_n hx hb dL_act_22 rfl (lv_at hl 4 rfl) ?_
  refine lv_iconst (v := nI 4) hx hb dL_act_23 (by decide) ?_
  refine lv_ishr hx hb dL_act_24 ?_
  refine lv_aload_n hx hb dL_act_25 rfl (lv_at hl 3 rfl) ?_
  obtain ⟨T9, hR9, hQ⟩ := id hQX
  refine g_get Fx hin hK 1 hQ.o rfl 3 (by decide) (by decide +kernel) rfl dL_act_26 ?_
  obtain ⟨T9, hR9, hQ⟩ := id hQX
  refine g_alenR Fx hK hQ.pe 2 rfl dL_act_29 ?_
  refine r_callRS (rest := []) Fx (m_L_below l (x >>> ((nI 4) &&& 31)) P (by omega) (by omega)) (va_cwS 2 Fx.2.2.2.2 gL_act_L_below rfl rfl rfl (by decide +kernel) ⟨Nat.le_of_ble_eq_true rfl, Nat.le_of_ble_eq_true rfl⟩) (fun _ _ _ _ h => h) (fun _ _ _ => trivial) rfl hl.1 rfl (Nat.le_of_ble_eq_true rfl) dL_act_30 ⟨by show _ ≤ 100; omega, by show _ ≤ 1300; omega⟩ ?_
  obtain ⟨k, hk, ek⟩ : ∃ j, j < P ∧ bw (x >>> ((nI 4) &&& 31)) P = j := ⟨_, bw_lt (by omega), rfl⟩
  rw [ek]
  refine lv_istore (lv' := [(5, .int (nI k)), (4, .int (nI w)), (3, .int (nI f)), (0, .ref (q 0)), (1, .ref (A 0)), (2, .int x)]) hx hb dL_act_33 hl (by decide) rfl (fun ls hl => ?_)
  refine lv_iload_n hx hb dL_act_35 rfl (lv_at hl 5 rfl) ?_
  refine lv_bipush (v := nI 8) hx hb dL_act_36 (by decide) ?_
  refine lv_ishr hx hb dL_act_38 ?_
  refine lv_aload_n hx hb dL_act_39 rfl (lv_at hl 4 rfl) ?_
  obtain ⟨T9, hR9, hQ⟩ := id hQX
  refine g_get Fx hin hK 1 hQ.o rfl 3 (by decide) (by decide +kernel) rfl dL_act_40 ?_
  obtain ⟨T9, hR9, hQ⟩ := id hQX
  refine g_alenR Fx hK hQ.pe 2 rfl dL_act_43 ?_
  refine r_callRS (rest := []) Fx (m_L_below l (x >>> ((nI 8) &&& 31)) P (by omega) (by omega)) (va_cwS 2 Fx.2.2.2.2 gL_act_L_below rfl rfl rfl (by decide +kernel) ⟨Nat.le_of_ble_eq_true rfl, Nat.le_of_ble_eq_true rfl⟩) (fun _ _ _ _ h => h) (fun _ _ _ => trivial) rfl hl.1 rfl (Nat.le_of_ble_eq_true rfl) dL_act_44 ⟨by show _ ≤ 100; omega, by show _ ≤ 1300; omega⟩ ?_
  obtain ⟨o, ho, eo⟩ : ∃ j, j < P ∧ bw (x >>> ((nI 8) &&& 31)) P = j := ⟨_, bw_lt (by omega), rfl⟩
  rw [eo]
  refine lv_istore (lv' := [(6, .int (nI o)), (5, .int (nI k)), (4, .int (nI w)), (3, .int (nI f)), (0, .ref (q 0)), (1, .ref (A 0)), (2, .int x)]) hx hb dL_act_47 hl (by decide) rfl (fun ls hl => ?_)
  refine lv_iconst (v := nI 1) hx hb dL_act_49 (by decide) ?_
  refine lv_iload_n hx hb dL_act_50 rfl (lv_at hl 6 rfl) ?_
  refine lv_iconst (v := nI 5) hx hb dL_act_51 (by decide) ?_
  refine lv_ishr hx hb dL_act_52 ?_
  refine lv_iload_n hx hb dL_act_53 rfl (lv_at hl 6 rfl) ?_
  refine lv_bipush (v := nI 9) hx hb dL_act_54 (by decide) ?_
  refine lv_ishr hx hb dL_act_56 ?_
  refine lv_iconst (v := nI 3) hx hb dL_act_57 (by decide) ?_
  refine r_callRS (rest := [.int (x >>> ((nI 5) &&& 31)), .int (nI 1)]) Fx (m_L_below l (x >>> ((nI 9) &&& 31)) 3 (by omega) (by omega)) (va_cwS 2 Fx.2.2.2.2 gL_act_L_below rfl rfl rfl (by decide +kernel) ⟨Nat.le_of_ble_eq_true rfl, Nat.le_of_ble_eq_true rfl⟩) (fun _ _ _ _ h => h) (fun _ _ _ => trivial) rfl hl.1 rfl (Nat.le_of_ble_eq_true rfl) dL_act_58 ⟨by show _ ≤ 100; omega, by show _ ≤ 1300; omega⟩ ?_
  obtain ⟨z, hz, ez⟩ : ∃ j, j < 3 ∧ bw (x >>> ((nI 9) &&& 31)) 3 = j := ⟨_, bw_lt (by omega), rfl⟩
  rw [ez]
  refine r_selB (a := 64) (b := 20) hx hb (by omega) rfl rfl dL_act_61 dL_act_64 dL_act_66 dL_act_69 (fun M hM => ?_)
  refine r_callRS (rest := [.int (nI 1)]) Fx (m_L_below l (x >>> ((nI 5) &&& 31)) M (by omega) (by omega)) (va_cwS 2 Fx.2.2.2.2 gL_act_L_below rfl rfl rfl (by decide +kernel) ⟨Nat.le_of_ble_eq_true rfl, Nat.le_of_ble_eq_true rfl⟩) (fun _ _ _ _ h => h) (fun _ _ _ => trivial) rfl hl.1 rfl (Nat.le_of_ble_eq_true rfl) dL_act_71 ⟨by show _ ≤ 100; omega, by show _ ≤ 1300; omega⟩ ?_
  obtain ⟨n0, hn0, en0⟩ : ∃ j, j < M ∧ bw (x >>> ((nI 5) &&& 31)) M = j := ⟨_, bw_lt (by omega), rfl⟩
  rw [en0]
  refine r_iadd_n hx hb dL_act_74 ?_
  refine lv_istore (lv' := [(7, .int (nI (1 + n0))), (6, .int (nI o)), (5, .int (nI k)), (4, .int (nI w)), (3, .int (nI f)), (0, .ref (q 0)), (1, .ref (A 0)), (2, .int x)]) hx hb dL_act_75 hl (by decide) rfl (fun ls hl => ?_)
  refine lv_aload_n hx hb dL_act_77 rfl (lv_at hl 6 rfl) ?_
  obtain ⟨T9, hR9, hQ⟩ := id hQX
  refine g_get Fx hin hK 1 hQ.o rfl 3 (by decide) (by decide +kernel) rfl dL_act_78 ?_
  refine lv_iload hx hb dL_act_81 (lv_at hl 2 rfl) ?_
  obtain ⟨T9, hR9, hQ⟩ := id hQX
  refine g_aald Fx hK hQ.pe 2 rfl rfl (i := k) (by omega) (by omega) rfl dL_act_83 ?_
  refine lv_iconst (v := nI 3) hx hb dL_act_84 (by decide) ?_
  obtain ⟨T9, hR9, hQ⟩ := id hQX
  refine g_iald Fx hK (hQ.pp (k := k) (by omega)) 0 rfl (i := 3) (by decide) (by decide) dL_act_85 ?_
  refine r_as (g 3 k) rfl ?_
  refine r_sel hx hb dL_act_86 dL_act_89 dL_act_90 dL_act_93 ?_
  refine lv_istore (lv' := [(8, .int (bI (lv g k))), (7, .int (nI (1 + n0))), (6, .int (nI o)), (5, .int (nI k)), (4, .int (nI w)), (3, .int (nI f)), (0, .ref (q 0)), (1, .ref (A 0)), (2, .int x)]) hx hb dL_act_94 hl (by decide) rfl (fun ls hl => ?_)
  refine lv_iload_n hx hb dL_act_96 rfl (lv_at hl 8 rfl) ?_
  refine lv_bipush (v := nI 18) hx hb dL_act_97 (by decide) ?_
  refine r_callRS (rest := []) Fx (m_L_below l x 18 (by omega) (by omega)) (va_cwS 2 Fx.2.2.2.2 gL_act_L_below rfl rfl rfl (by decide +kernel) ⟨Nat.le_of_ble_eq_true rfl, Nat.le_of_ble_eq_true rfl⟩) (fun _ _ _ _ h => h) (fun _ _ _ => trivial) rfl hl.1 rfl (Nat.le_of_ble_eq_true rfl) dL_act_99 ⟨by show _ ≤ 100; omega, by show _ ≤ 1300; omega⟩ ?_
  obtain ⟨t, ht, et⟩ : ∃ j, j < 18 ∧ bw x 18 = j := ⟨_, bw_lt (by omega), rfl⟩
  rw [et]
  rcases (show t = 0 ∨ t = 1 ∨ t = 2 ∨ t = 3 ∨ t = 4 ∨ t = 5 ∨ t = 6 ∨ t = 7 ∨ t = 8 ∨ t = 9 ∨ t = 10 ∨ t = 11 ∨ t = 12 ∨ t = 13 ∨ t = 14 ∨ 15 ≤ t by omega) with rfl | rfl | rfl | rfl | rfl | rfl | rfl | rfl | rfl | rfl | rfl | rfl | rfl | rfl | rfl | h15
  · refine lv_tableIn (off := 74) (tgt := 176) hx hb dL_act_102 (by decide) (by decide) (by decide) (by decide) ?_
    exact ac_0 hl0 Fx hr hlocks htab hL hq hqs hAD hsz hI hnn hP hQX hf hw hk ho (n := 1 + n0) (by omega) (by omega) (lv_sub hl [6, 7, 8, 5, 4, 3, 2, 1, 0] rfl)
  · refine lv_tableIn (off := 135) (tgt := 237) hx hb dL_act_102 (by decide) (by decide) (by decide) (by decide) ?_
    exact ac_1 hl0 Fx hr hlocks htab hL hq hqs hAD hsz hI hnn hP hQX hf hw hk ho (n := 1 + n0) (by omega) (by omega) (lv_sub hl [6, 7, 8, 5, 4, 3, 2, 1, 0] rfl)
  · refine lv_tableIn (off := 187) (tgt := 289) hx hb dL_act_102 (by decide) (by decide) (by decide) (by decide) ?_
    exact ac_2 hl0 Fx hr hlocks htab hL hq hqs hAD hsz hI hnn hP hQX hf hw hk ho (n := 1 + n0) (by omega) (by omega) (lv_sub hl [6, 7, 8, 5, 4, 3, 2, 1, 0] rfl)
  · refine lv_tableIn (off := 187) (tgt := 289) hx hb dL_act_102 (by decide) (by decide) (by decide) (by decide) ?_
    exact ac_2 hl0 Fx hr hlocks htab hL hq hqs hAD hsz hI hnn hP hQX hf hw hk ho (n := 1 + n0) (by omega) (by omega) (lv_sub hl [6, 7, 8, 5, 4, 3, 2, 1, 0] rfl)
  · refine lv_tableIn (off := 245) (tgt := 347) hx hb dL_act_102 (by decide) (by decide) (by decide) (by decide) ?_
    exact ac_4 hl0 Fx hr hlocks htab hL hq hqs hAD hsz hI hnn hP hQX hf hw hk ho (n := 1 + n0) (by omega) (by omega) (lv_sub hl [6, 7, 8, 5, 4, 3, 2, 1, 0] rfl)
  · refine lv_tableIn (off := 245) (tgt := 347) hx hb dL_act_102 (by decide) (by decide) (by decide) (by decide) ?_
    exact ac_4 hl0 Fx hr hlocks htab hL hq hqs hAD hsz hI hnn hP hQX hf hw hk ho (n := 1 + n0) (by omega) (by omega) (lv_sub hl [6, 7, 8, 5, 4, 3, 2, 1, 0] rfl)
  · refine lv_tableIn (off := 319) (tgt := 421) hx hb dL_act_102 (by decide) (by decide) (by decide) (by decide) ?_
    exact ac_6 hl0 Fx hr hlocks htab hL hq hqs hAD hsz hI hnn hP hQX hf hw hk ho (n := 1 + n0) (by omega) (by omega) (lv_sub hl [6, 7, 8, 5, 4, 3, 2, 1, 0] rfl)
  · refine lv_tableIn (off := 319) (tgt := 421) hx hb dL_act_102 (by decide) (by decide) (by decide) (by decide) ?_
    exact ac_6 hl0 Fx hr hlocks htab hL hq hqs hAD hsz hI hnn hP hQX hf hw hk ho (n := 1 + n0) (by omega) (by omega) (lv_sub hl [6, 7, 8, 5, 4, 3, 2, 1, 0] rfl)
  · refine lv_tableIn (off := 319) (tgt := 421) hx hb dL_act_102 (by decide) (by decide) (by decide) (by decide) ?_
    exact ac_6 hl0 Fx hr hlocks htab hL hq hqs hAD hsz hI hnn hP hQX hf hw hk ho (n := 1 + n0) (by omega) (by omega) (lv_sub hl [6, 7, 8, 5, 4, 3, 2, 1, 0] rfl)
  · refine lv_tableIn (off := 392) (tgt := 494) hx hb dL_act_102 (by decide) (by decide) (by decide) (by decide) ?_
    exact ac_9 hl0 Fx hr hlocks htab hL hq hqs hAD hsz hI hnn hP hQX hf hw hk ho (n := 1 + n0) (by omega) (by omega) (lv_sub hl [6, 7, 8, 5, 4, 3, 2, 1, 0] rfl)
  · refine lv_tableIn (off := 479) (tgt := 581) hx hb dL_act_102 (by decide) (by decide) (by decide) (by decide) ?_
    exact ac_10 hl0 Fx hr hlocks htab hL hq hqs hAD hsz hI hnn hP hQX hf hw hk ho (n := 1 + n0) (by omega) (by omega) (lv_sub hl [6, 7, 8, 5, 4, 3, 2, 1, 0] rfl)
  · refine lv_tableIn (off := 479) (tgt := 581) hx hb dL_act_102 (by decide) (by decide) (by decide) (by decide) ?_
    exact ac_10 hl0 Fx hr hlocks htab hL hq hqs hAD hsz hI hnn hP hQX hf hw hk ho (n := 1 + n0) (by omega) (by omega) (lv_sub hl [6, 7, 8, 5, 4, 3, 2, 1, 0] rfl)
  · refine lv_tableIn (off := 479) (tgt := 581) hx hb dL_act_102 (by decide) (by decide) (by decide) (by decide) ?_
    exact ac_10 hl0 Fx hr hlocks htab hL hq hqs hAD hsz hI hnn hP hQX hf hw hk ho (n := 1 + n0) (by omega) (by omega) (lv_sub hl [6, 7, 8, 5, 4, 3, 2, 1, 0] rfl)
  · refine lv_tableIn (off := 578) (tgt := 680) hx hb dL_act_102 (by decide) (by decide) (by decide) (by decide) ?_
    exact ac_13 hl0 Fx hr hlocks htab hL hq hqs hAD hsz hI hnn hP hQX hf hw hk ho (n := 1 + n0) (by omega) (by omega) (lv_sub hl [6, 7, 8, 5, 4, 3, 2, 1, 0] rfl)
  · refine lv_tableIn (off := 678) (tgt := 780) hx hb dL_act_102 (by decide) (by decide) (by decide) (by decide) ?_
    exact ac_14 hl0 Fx hr hlocks htab hL hq hqs hAD hsz hI hnn hP hQX hf hw hk ho (n := 1 + n0) (by omega) (by omega) (lv_sub hl [6, 7, 8, 5, 4, 3, 2, 1, 0] rfl)
  · refine lv_tableOut (tgt := 835) hx hb dL_act_102 (Or.inr (by rw [nI_toInt (by omega)]; omega)) (by decide) ?_
    exact ac_15 hl0 Fx hr hlocks htab hL hq hqs hAD hsz hI hnn hP hQX hf hw hk ho (n := 1 + n0) (by omega) (by omega) (lv_sub hl [6, 7, 8, 5, 4, 3, 2, 1, 0] rfl)
end ACT
