/-! PART 31: the Sim, III: carrying, dying. -/
section SIMC
theorem iv_coin {F P : Nat} {g : Nat → Nat → Int32} (h : Iv F P g) (k : Nat) : ∃ e, e ≤ 9999 ∧ g 4 k = nI e := by
  have h1 := h.2.2.2.2.1 k
  obtain ⟨e, he, ee⟩ := nI_of (x := g 4 k) (by rw [Int32.lt_iff_toInt_lt, Int32.toInt_zero]; omega)
  rw [ee, nI_toInt he] at h1
  exact ⟨e, by omega, ee⟩
set_option maxHeartbeats 4000000 in
set_option maxRecDepth 100000 in
theorem m_X1_carry (l : Launch) {D : va_G} {ci cz : ClassId} {cj : ClassId × ClassId} {A : Nat → Nat} {F P : Nat} {g : Nat → Nat → Int32} (hF : F ≤ 6) (hP12 : P ≤ 12) (f : Nat) (h : Nat) (x : Int32) (ha0 : f < F) (ha1 : h < 24) (ha2 : ∀ i j, sV F P i → sV F P j → A i = A j → i = j) : Met l yX1_carry wsX1_carry ({ frames := 2, cells := 0, slots := 0, locals := 39 } : Room) (va_Pc [.ref (A 0), .int (nI f), .int (nI h), .int x] (BX D ci cz cj A F P g)) (WQ (some (.int (lCar g f (h / 6) x P))) (fun H => SS D ci cj A F P (gCry g P f (h / 6) x) H) (SA A F P)) 0 0 (SA A F P) := by
  refine Met.ofWr (cc := cX1_carry) (maxL := 8) (ret := (some .int)) (by decide) rfl (Nat.le_of_ble_eq_true rfl) ?_
  intro pg en s m bl mt cd ls Fx hr hlocks hB hl
  obtain ⟨hQX, hK, hO⟩ := hB
  obtain ⟨T, hR, hQ⟩ := hQX
  have hl : lv_has ls 8 [(0, .ref (A 0)), (1, .int (nI f)), (2, .int (nI h)), (3, .int x)] := hl
  have Fx : CallFix pg m cd cX1_carry 8 s _ wsX1_carry RX1 := Fx
  have hx := Fx.1
  have hb := Fx.2.1
  have hin : ∀ w ∈ wsX10, w ∈ wsX1_carry := by decide +kernel
  have hS : va_S (SA A F P) s.heap s.heap [] := va_S.rf
  have hi := ha2
  refine lv_iload_n hx hb dX1_carry_0 rfl (lv_at hl 3 rfl) ?_
  refine lv_aload_n hx hb dX1_carry_1 rfl (lv_at hl 0 rfl) ?_
  refine g_get Fx hin hK 1 hQ.o rfl 0 (by decide) (by decide +kernel) rfl dX1_carry_2 ?_
  refine lv_iload_n hx hb dX1_carry_5 rfl (lv_at hl 1 rfl) ?_
  refine g_iald Fx hK hQ.to 0 rfl (i := f) (by omega) (by omega) dX1_carry_6 ?_
  refine lv_imul hx hb dX1_carry_7 ?_
  refine r_as (g 0 f * x) (Int32.mul_comm _ _) ?_
  refine lv_istore (lv' := [(4, .int (g 0 f * x)), (0, .ref (A 0)), (1, .int (nI f)), (2, .int (nI h)), (3, .int x)]) hx hb dX1_carry_8 hl (by decide) rfl (fun ls hl => ?_)
  refine lv_iload hx hb dX1_carry_10 (lv_at hl 0 rfl) ?_
  refine lv_istore (lv' := [(5, .int (g 0 f * x)), (4, .int (g 0 f * x)), (0, .ref (A 0)), (1, .int (nI f)), (2, .int (nI h)), (3, .int x)]) hx hb dX1_carry_12 hl (by decide) rfl (fun ls hl => ?_)
  refine lv_iconst (v := nI 0) hx hb dX1_carry_14 (by decide) ?_
  refine lv_istore (lv' := [(6, .int (nI 0)), (5, .int (g 0 f * x)), (4, .int (g 0 f * x)), (0, .ref (A 0)), (1, .int (nI f)), (2, .int (nI h)), (3, .int x)]) hx hb dX1_carry_15 hl (by decide) rfl (fun ls hl => ?_)
  refine wloop (nL := 8) (N := P) (fun _ => True) (fun i => [(0, .ref (A 0)), (1, .int (nI f)), (2, .int (nI h)), (3, .int x), (4, .int (lCar g f (h / 6) x i)), (5, .int (g 0 f * x)), (6, .int (nI i))]) (fun i H => SP D ci cj A F P (gCar g f (h / 6) x i) T H) (trivial) (hQ) hS (lv_sub hl [3, 4, 5, 6, 2, 1, 0] rfl) ?_ ?_
  · intro h1 H locs ls hQ hS hl
    have hl : lv_has ls 8 [(0, .ref (A 0)), (1, .int (nI f)), (2, .int (nI h)), (3, .int x), (4, .int (lCar g f (h / 6) x P)), (5, .int (g 0 f * x)), (6, .int (nI P))] := hl
    have hQ : SP D ci cj A F P (gCar g f (h / 6) x P) T H := hQ
    refine lv_iload hx hb dX1_carry_17 (lv_at hl 6 rfl) ?_
    refine lv_aload_n hx hb dX1_carry_19 rfl (lv_at hl 0 rfl) ?_
    refine g_get Fx hin hK 1 hQ.o rfl 3 (by decide) (by decide +kernel) rfl dX1_carry_20 ?_
    refine g_alenR Fx hK hQ.pe 2 rfl dX1_carry_23 ?_
    refine n_icmp_ge (tgt := 81) hx hb (by omega) (by omega) dX1_carry_24 (by decide) (fun h2 => ?_) (fun h2 => by omega)
    refine lv_aload_n hx hb dX1_carry_81 rfl (lv_at hl 0 rfl) ?_
    refine g_get Fx hin hK 1 hQ.o rfl 1 (by decide) (by decide +kernel) rfl dX1_carry_82 ?_
    refine lv_iload_n hx hb dX1_carry_85 rfl (lv_at hl 1 rfl) ?_
    refine lv_dup2_11 hx hb dX1_carry_86 rfl rfl ?_
    refine g_iald Fx hK hQ.ca 0 rfl (i := f) (by omega) (by omega) dX1_carry_87 ?_
    refine lv_iload_n hx hb dX1_carry_88 rfl (lv_at hl 3 rfl) ?_
    refine lv_iadd hx hb dX1_carry_89 ?_
    refine g_iast Fx hK hQ.ca 0 rfl (SA.i sV2) hS (i := f) (by omega) (by omega) dX1_carry_90 (fun H locs he kp hS => ?_)
    have hQ : SP D ci cj A F P (gCad (gCar g f (h / 6) x P) f x) T H := hQ.st2 hi kp he rfl rfl (fun _ => rfl)
    refine lv_aload_n hx hb dX1_carry_91 rfl (lv_at hl 0 rfl) ?_
    refine lv_dup hx hb dX1_carry_92 rfl ?_
    refine g_get Fx hin hK 1 hQ.o rfl 4 (by decide) (by decide +kernel) rfl dX1_carry_93 ?_
    refine lv_iload hx hb dX1_carry_96 (lv_at hl 4 rfl) ?_
    refine lv_iadd hx hb dX1_carry_98 ?_
    refine g_put (ty := .int) Fx hin tyX1 tyX1_ok nmX1 hK 1 hQ.o SA.o hS rfl 4 (by decide) (by decide +kernel) rfl (by decide +kernel) rfl rfl (Nat.le_of_ble_eq_true rfl) dX1_carry_99 (fun H locs he kp hS => ?_)
    have hQ : SP D ci cj A F P (gCro (gCad (gCar g f (h / 6) x P) f x) (lCar g f (h / 6) x P)) T H := hQ.st0 hi kp he rfl rfl (fun _ => rfl)
    refine lv_iload hx hb dX1_carry_102 (lv_at hl 4 rfl) ?_
    exact w_iret hx hb hr hlocks hS (⟨T, (rt_car hR P).cg (fun _ _ _ _ _ _ => rfl), by rw [carry_1] at hQ; exact hQ⟩) (rfl) dX1_carry_104
  · intro i h4 h3 ih17 H locs ls hQ hS hl
    have hl : lv_has ls 8 [(0, .ref (A 0)), (1, .int (nI f)), (2, .int (nI h)), (3, .int x), (4, .int (lCar g f (h / 6) x i)), (5, .int (g 0 f * x)), (6, .int (nI i))] := hl
    have hQ : SP D ci cj A F P (gCar g f (h / 6) x i) T H := hQ
    refine lv_iload hx hb dX1_carry_17 (lv_at hl 6 rfl) ?_
    refine lv_aload_n hx hb dX1_carry_19 rfl (lv_at hl 0 rfl) ?_
    refine g_get Fx hin hK 1 hQ.o rfl 3 (by decide) (by decide +kernel) rfl dX1_carry_20 ?_
    refine g_alenR Fx hK hQ.pe 2 rfl dX1_carry_23 ?_
    refine n_icmp_ge (tgt := 81) hx hb (by omega) (by omega) dX1_carry_24 (by decide) (fun h5 => by omega) (fun h5 => ?_)
    refine lv_iload hx hb dX1_carry_27 (lv_at hl 5 rfl) ?_
    refine lv_aload_n hx hb dX1_carry_29 rfl (lv_at hl 0 rfl) ?_
    refine lv_iload_n hx hb dX1_carry_30 rfl (lv_at hl 1 rfl) ?_
    refine lv_iload_n hx hb dX1_carry_31 rfl (lv_at hl 2 rfl) ?_
    refine lv_bipush (v := nI 6) hx hb dX1_carry_32 (by decide) ?_
    refine r_idiv_n hx hb (by omega) (by omega) (by omega) dX1_carry_34 ?_
    refine lv_iload hx hb dX1_carry_35 (lv_at hl 6 rfl) ?_
    refine r_callR (rest := [.int (g 0 f * x)]) Fx (m_X1_has l (D := D) (ci := ci) (cz := cz) (cj := cj) (A := A) (F := F) (P := P) (g := gCar g f (h / 6) x i) hF hP12 f (h / 6) i (by omega) (by omega) (by omega)) (cwV 3 Fx.2.2.2.2 gX1_carry_X1_has rfl rfl rfl (by decide +kernel) ⟨Nat.le_of_ble_eq_true rfl, Nat.le_of_ble_eq_true rfl⟩) BX.bl (hQ.rc hK) (BX.at ⟨_, (rt_car hR i), hQ⟩ hK hO) rfl hl.1 rfl (Nat.le_of_ble_eq_true rfl) dX1_carry_37 ⟨Nat.zero_le _, Nat.zero_le _⟩ ?_
    refine lv_imul hx hb dX1_carry_40 ?_
    refine lv_bipush (v := nI 64) hx hb dX1_carry_41 (by decide) ?_
    refine lv_idiv hx hb dX1_carry_43 (by decide) ?_
    refine r_as (sFar (gCar g f (h / 6) x i) f (h / 6) i x) far_car ?_
    refine lv_istore (lv' := [(7, .int (sFar (gCar g f (h / 6) x i) f (h / 6) i x)), (0, .ref (A 0)), (1, .int (nI f)), (2, .int (nI h)), (3, .int x), (4, .int (lCar g f (h / 6) x i)), (5, .int (g 0 f * x)), (6, .int (nI i))]) hx hb dX1_carry_44 hl (by decide) rfl (fun ls hl => ?_)
    refine lv_aload_n hx hb dX1_carry_46 rfl (lv_at hl 1 rfl) ?_
    refine g_get Fx hin hK 1 hQ.o rfl 3 (by decide) (by decide +kernel) rfl dX1_carry_47 ?_
    refine lv_iload hx hb dX1_carry_50 (lv_at hl 7 rfl) ?_
    refine g_aald Fx hK hQ.pe 2 rfl rfl (i := i) (by omega) (by omega) rfl dX1_carry_52 ?_
    refine lv_iconst (v := nI 1) hx hb dX1_carry_53 (by decide) ?_
    refine lv_dup2_11 hx hb dX1_carry_54 rfl rfl ?_
    refine g_iald Fx hK (hQ.pp (k := i) (by omega)) 0 rfl (i := 1) (by decide) (by decide) dX1_carry_55 ?_
    refine r_as ((gCar g f (h / 6) x i) 5 i) rfl ?_
    refine lv_iload hx hb dX1_carry_56 (lv_at hl 0 rfl) ?_
    refine lv_iadd hx hb dX1_carry_58 ?_
    refine g_iast Fx hK (hQ.pp (k := i) (by omega)) 0 rfl (SA.i (sVp (by omega))) hS (i := 1) (by decide) (by decide) dX1_carry_59 (fun H locs he kp hS => ?_)
    have hQ : SP D ci cj A F P (gEar (gCar g f (h / 6) x i) i (sFar (gCar g f (h / 6) x i) f (h / 6) i x)) T H := hQ.stP hi (k := i) (by omega) kp (by rw [rI_ear]; exact he) rfl rfl rfl (fun p hp => rI_ear_ne hp)
    refine lv_aload_n hx hb dX1_carry_60 rfl (lv_at hl 1 rfl) ?_
    refine lv_iload hx hb dX1_carry_61 (lv_at hl 7 rfl) ?_
    refine lv_iload hx hb dX1_carry_63 (lv_at hl 0 rfl) ?_
    refine r_callW (rest := []) Fx (m_X1_getT l (D := D) (ci := ci) (cz := cz) (cj := cj) (A := A) (F := F) (P := P) (g := gEar (gCar g f (h / 6) x i) i (sFar (gCar g f (h / 6) x i) f (h / 6) i x)) (T := T) hF hP12 i (sFar (gCar g f (h / 6) x i) f (h / 6) i x) (by omega) hi) (cwV 2 Fx.2.2.2.2 gX1_carry_X1_get rfl rfl rfl (by decide +kernel) ⟨Nat.le_of_ble_eq_true rfl, Nat.le_of_ble_eq_true rfl⟩) BT.bl (hQ.rc hK) (BT.at hQ hK hO) rfl hl.1 rfl (Nat.le_of_ble_eq_true rfl) dX1_carry_65 ⟨Nat.zero_le _, Nat.zero_le _⟩ hS (fun _ h => h) (fun H locs hQ hS _ _ => ?_)
    have hQ : SP D ci cj A F P (gGet (gEar (gCar g f (h / 6) x i) i (sFar (gCar g f (h / 6) x i) f (h / 6) i x)) i (sFar (gCar g f (h / 6) x i) f (h / 6) i x)) T H := hQ
    refine lv_iload hx hb dX1_carry_68 (lv_at hl 5 rfl) ?_
    refine lv_iload hx hb dX1_carry_70 (lv_at hl 0 rfl) ?_
    refine lv_isub hx hb dX1_carry_72 ?_
    refine lv_istore (lv' := [(4, .int ((lCar g f (h / 6) x i) - (sFar (gCar g f (h / 6) x i) f (h / 6) i x))), (7, .int (sFar (gCar g f (h / 6) x i) f (h / 6) i x)), (0, .ref (A 0)), (1, .int (nI f)), (2, .int (nI h)), (3, .int x), (5, .int (g 0 f * x)), (6, .int (nI i))]) hx hb dX1_carry_73 hl (by decide) rfl (fun ls hl => ?_)
    refine lv_iinc (v := nI (i + 1)) (lv' := [(6, .int (nI (i + 1))), (4, .int ((lCar g f (h / 6) x i) - (sFar (gCar g f (h / 6) x i) f (h / 6) i x))), (7, .int (sFar (gCar g f (h / 6) x i) f (h / 6) i x)), (0, .ref (A 0)), (1, .int (nI f)), (2, .int (nI h)), (3, .int x), (5, .int (g 0 f * x))]) hx hb dX1_carry_75 hl (k := 7) rfl (nI_inc _ 1) (by decide) rfl (fun ls hl => ?_)
    refine lv_goto (tgt := 17) hx hb dX1_carry_78 (by decide) ?_
    exact ih17 (trivial) _ _ _ (hQ) hS (lv_sub hl [3, 4, 5, 6, 1, 7, 0] rfl)
set_option maxHeartbeats 8000000 in
set_option maxRecDepth 100000 in
theorem m_X1_die (l : Launch) {D : va_G} {ci cz : ClassId} {cj : ClassId × ClassId} {A : Nat → Nat} {F P : Nat} {g : Nat → Nat → Int32} (hz : Nat) (hF : F ≤ 6) (hP12 : P ≤ 12) (k : Nat) (ha0 : k < P) (ha1 : Iv F P g) (ha2 : ∀ p, p < P → g 6 p = -1 ∨ ∃ r, r < p ∧ g 6 p = nI r) (hi : ∀ i j, sV F P i → sV F P j → A i = A j → i = j) : Met l yX1_die wsX1_die ({ frames := 3, cells := 51, slots := 620, locals := 69 } : Room) (va_Pc [.ref (A 0), .int (nI k)] (fun U => U.heap.size = hz ∧ BX D ci cz cj A F P g U)) (MQv (fun v H => v = none ∧ SS D ci cj A F P (gDie g F P k) H) (fun a => SA A F P a ∨ hz ≤ a)) 51 620 (fun a => SA A F P a ∨ hz ≤ a) := by
  refine Met.ofM (cc := cX1_die) (maxL := 7) (ret := none) (by decide) rfl (Nat.le_of_ble_eq_true rfl) ?_
  intro pg en s m bl mt cd ls Fx hr hlocks hB hl
  obtain ⟨hz9, hQX, hK, hO⟩ := hB
  have lq : ∀ j, sV F P j → A j < hz := fun j hj => by rw [← hz9]; exact hQX.lt hj
  have hl : lv_has ls 7 [(0, .ref (A 0)), (1, .int (nI k))] := hl
  have Fx : CallFix pg m cd cX1_die 7 s _ wsX1_die RX1 := Fx
  have hx := Fx.1
  have hb := Fx.2.1
  have hin : ∀ w ∈ wsX10, w ∈ wsX1_die := by decide +kernel
  have hS : va_S (fun a => SA A F P a ∨ hz ≤ a) s.heap s.heap [] := va_S.rf
  refine lv_aload_n hx hb dX1_die_0 rfl (lv_at hl 0 rfl) ?_
  refine lv_iload_n hx hb dX1_die_1 rfl (lv_at hl 1 rfl) ?_
  have hz8 := Nat.le_trans (Nat.le_of_eq hz9.symm) hS.1
  have rcv := hQX.rc hK
  refine r_callM (rest := []) Fx (m_X1_heirs l (D := D) (ci := ci) (cz := cz) (cj := cj) (A := A) (F := F) (P := P) (g := g) _ hF hP12 k ha0 ha1 ha2) (cwV 1 Fx.2.2.2.2 gX1_die_X1_heirs rfl rfl rfl (by decide +kernel) ⟨Nat.le_of_ble_eq_true rfl, Nat.le_of_ble_eq_true rfl⟩) (fun U fr mk a h9 => ⟨h9.1, BX.bl U fr mk a h9.2⟩) rcv (fun U hU hW => ⟨by rw [hU], BX.at hQX hK hO U hU hW⟩) rfl hl.1 rfl (Nat.le_of_ble_eq_true rfl) dX1_die_2 ⟨Nat.le_of_ble_eq_true rfl, Nat.le_of_ble_eq_true rfl⟩ hS (fun q9 h9 => Or.inr (Nat.le_trans hz8 h9)) (fun v H locs hv kp hS => ?_)
  obtain ⟨b1, he, rfl, lb1, hHe, hm1⟩ := hv
  have lb1 : hz ≤ b1 := Nat.le_trans hz8 lb1
  have hQX : SS D ci cj A F P g H := hQX.new kp
  obtain ⟨c, hc⟩ : ∃ c, c = sCHe g P k := ⟨_, rfl⟩
  have hc12 : c ≤ 12 := by rw [hc]; exact Nat.le_trans (cn_le _ _) hP12
  rw [← hc] at hm1
  refine lv_astore_n (lv' := [(2, .ref b1), (0, .ref (A 0)), (1, .int (nI k))]) hx hb dX1_die_5 rfl hl (by decide) rfl (fun ls hl => ?_)
  refine lv_iconst (v := nI 0) hx hb dX1_die_6 (by decide) ?_
  refine lv_istore_n (lv' := [(3, .int (nI 0)), (2, .ref b1), (0, .ref (A 0)), (1, .int (nI k))]) hx hb dX1_die_7 rfl hl (by decide) rfl (fun ls hl => ?_)
  refine mloop (nL := 7) (N := F) 4 48 (fun _ => True) (fun i H lv => lv = [(0, .ref (A 0)), (1, .int (nI k)), (2, .ref b1), (3, .int (nI i))] ∧ SS D ci cj A F P (dO g P k c (i * 4)) H ∧ isI D ci H b1 c he) (fun _ _ => True) (trivial) trivial hS (lv0 := [(0, .ref (A 0)), (1, .int (nI k)), (2, .ref b1), (3, .int (nI 0))]) (⟨rfl, hQX.c2 (fun a ha => dO_o ha) (fun f9 w9 p9 _ _ _ => by rw [Nat.zero_mul, dO_0]) hF, hm1⟩) (lv_sub hl [2, 3, 1, 0] rfl) ?_ ?_
  · intro h1 H locs ls lv _ hS hLv hl
    obtain ⟨rfl, hW⟩ := hLv
    obtain ⟨hQX, hm1⟩ := hW
    have hQX : SS D ci cj A F P (dO g P k c (F * 4)) H := hQX
    have hm1 : isI D ci H b1 c he := hm1
    have hl : lv_has ls 7 [(0, .ref (A 0)), (1, .int (nI k)), (2, .ref b1), (3, .int (nI F))] := hl
    refine lv_iload_n hx hb dX1_die_8 rfl (lv_at hl 3 rfl) ?_
    refine lv_aload_n hx hb dX1_die_9 rfl (lv_at hl 0 rfl) ?_
    obtain ⟨T9, hR9, hQ⟩ := id hQX
    refine g_get Fx hin hK 1 hQ.o rfl 0 (by decide) (by decide +kernel) rfl dX1_die_10 ?_
    obtain ⟨T9, hR9, hQ⟩ := id hQX
    refine g_alenI Fx hK hQ.to 0 rfl dX1_die_13 ?_
    refine n_icmp_ge (tgt := 97) hx hb (by omega) (by omega) dX1_die_14 (by decide) (fun h2 => ?_) (fun h2 => by omega)
    have hQX : SS D ci cj A F P (dQ g F P k c 0) H := by rw [dQ_0]; exact hQX
    obtain ⟨e2, he2, hk4⟩ : ∃ e2, e2 ≤ 9999 ∧ g 4 k = nI e2 := iv_coin ha1 k
    obtain ⟨T, hR, hQ⟩ := hQX
    refine lv_aload_n hx hb dX1_die_97 rfl (lv_at hl 0 rfl) ?_
    refine g_get Fx hin hK 1 hQ.o rfl 3 (by decide) (by decide +kernel) rfl dX1_die_98 ?_
    refine lv_iload_n hx hb dX1_die_101 rfl (lv_at hl 1 rfl) ?_
    refine g_aald Fx hK hQ.pe 2 rfl rfl (i := k) (by omega) (by omega) rfl dX1_die_102 ?_
    refine lv_iconst (v := nI 0) hx hb dX1_die_103 (by decide) ?_
    refine g_iald Fx hK (hQ.pp (k := k) (by omega)) 0 rfl (i := 0) (by decide) (by decide) dX1_die_104 ?_
    refine r_as ((dQ g F P k c 0) 4 k) rfl ?_
    refine r_as (nI e2) (dQ_k.trans hk4) ?_
    refine lv_aload_n hx hb dX1_die_105 rfl (lv_at hl 2 rfl) ?_
    refine g_alenI Fx hK hm1 0 rfl dX1_die_106 ?_
    have hQX : SS D ci cj A F P (dQ g F P k c 0) _ := ⟨T, hR, hQ⟩
    have hz8 := Nat.le_trans (Nat.le_of_eq hz9.symm) hS.1
    refine r_callMS (rest := []) Fx (m_X1_parts l (D := D) (ci := ci) (cz := cz) (cj := cj) _ e2 c (by omega) hc12) (va_cwS 2 Fx.2.2.2.2 gX1_die_X1_parts rfl rfl rfl (by decide +kernel) ⟨Nat.le_of_ble_eq_true rfl, Nat.le_of_ble_eq_true rfl⟩) (fun U fr mk a h9 => ⟨h9.1, va_K.moved (u := U) (U := U.calling fr mk a) (Vm.Alike.refl U.vm) h9.2⟩) (fun U hU hW => ⟨by rw [hU], va_K.moved hW.alike hK⟩) rfl hl.1 rfl (Nat.le_of_ble_eq_true rfl) dX1_die_107 ⟨by show 0 + 26 + F * 4 + 1 ≤ 51; omega, by show 0 + 320 + F * 48 + 12 ≤ 620; omega⟩ hS (fun q9 h9 => Or.inr (Nat.le_trans hz8 h9)) (fun v H locs hv kp hS => ?_)
    obtain ⟨a3, rfl, la3, hma3⟩ := hv
    have la3 : hz ≤ a3 := Nat.le_trans hz8 la3
    have hQX : SS D ci cj A F P (dQ g F P k c 0) H := hQX.new kp
    have hm1 : isI D ci H b1 c he := kp.new_at hm1
    refine lv_astore_n (lv' := [(3, .ref a3), (0, .ref (A 0)), (1, .int (nI k)), (2, .ref b1)]) hx hb dX1_die_110 rfl hl (by decide) rfl (fun ls hl => ?_)
    refine lv_iconst (v := nI 0) hx hb dX1_die_111 (by decide) ?_
    refine lv_istore (lv' := [(4, .int (nI 0)), (3, .ref a3), (0, .ref (A 0)), (1, .int (nI k)), (2, .ref b1)]) hx hb dX1_die_112 hl (by decide) rfl (fun ls hl => ?_)
    refine wloop (nL := 7) (N := c) (fun _ => True) (fun i => [(0, .ref (A 0)), (1, .int (nI k)), (2, .ref b1), (3, .ref a3), (4, .int (nI i))]) (fun i H => SS D ci cj A F P (dQ g F P k c i) H ∧ isI D ci H b1 c he ∧ isI D ci H a3 c (fun j => sPar (nI e2) c j)) (trivial) (⟨hQX, hm1, hma3⟩) hS (lv_sub hl [2, 3, 4, 1, 0] rfl) ?_ ?_
    · intro h3 H locs ls hW hS hl
      have hl : lv_has ls 7 [(0, .ref (A 0)), (1, .int (nI k)), (2, .ref b1), (3, .ref a3), (4, .int (nI c))] := hl
      obtain ⟨hQX, hm1, hma3⟩ := hW
      have hQX : SS D ci cj A F P (dQ g F P k c c) H := hQX
      have hm1 : isI D ci H b1 c he := hm1
      have hma3 : isI D ci H a3 c (fun j => sPar (nI e2) c j) := hma3
      refine lv_iload hx hb dX1_die_114 (lv_at hl 4 rfl) ?_
      refine lv_aload_n hx hb dX1_die_116 rfl (lv_at hl 2 rfl) ?_
      refine g_alenI Fx hK hm1 0 rfl dX1_die_117 ?_
      refine n_icmp_ge (tgt := 139) hx hb (by omega) (by omega) dX1_die_118 (by decide) (fun h4 => ?_) (fun h4 => by omega)
      refine lv_aload_n hx hb dX1_die_139 rfl (lv_at hl 2 rfl) ?_
      refine g_alenI Fx hK hm1 0 rfl dX1_die_140 ?_
      refine n_if_ne (tgt := 161) hx hb (by omega) dX1_die_141 (by decide) (fun h5 => ?_) (fun h5 => ?_)
      · obtain ⟨T, hR, hQ⟩ := hQX
        refine lv_aload_n hx hb dX1_die_161 rfl (lv_at hl 0 rfl) ?_
        refine g_get Fx hin hK 1 hQ.o rfl 3 (by decide) (by decide +kernel) rfl dX1_die_162 ?_
        refine lv_iload_n hx hb dX1_die_165 rfl (lv_at hl 1 rfl) ?_
        refine g_aald Fx hK hQ.pe 2 rfl rfl (i := k) (by omega) (by omega) rfl dX1_die_166 ?_
        refine lv_iconst (v := nI 0) hx hb dX1_die_167 (by decide) ?_
        refine lv_iconst (v := nI 0) hx hb dX1_die_168 (by decide) ?_
        refine g_iast Fx hK (hQ.pp (k := k) ha0) 0 rfl (Or.inl (SA.i (sVp ha0))) hS (i := 0) (by decide) (by decide) dX1_die_169 (fun H locs he9 kp hS => ?_)
        have hQ : SP D ci cj A F P (va_up (dQ g F P k c c) 4 (upd ((dQ g F P k c c) 4) k (nI 0))) T H := hQ.stP hi (k := k) ha0 kp (by rw [rI_4]; exact he9) rfl rfl rfl (fun p hp => rI_4n hp)
        refine lv_aload_n hx hb dX1_die_170 rfl (lv_at hl 0 rfl) ?_
        refine g_get Fx hin hK 1 hQ.o rfl 3 (by decide) (by decide +kernel) rfl dX1_die_171 ?_
        refine lv_iload_n hx hb dX1_die_174 rfl (lv_at hl 1 rfl) ?_
        refine g_aald Fx hK hQ.pe 2 rfl rfl (i := k) (by omega) (by omega) rfl dX1_die_175 ?_
        refine lv_iconst (v := nI 3) hx hb dX1_die_176 (by decide) ?_
        refine lv_iconst (v := nI 1) hx hb dX1_die_177 (by decide) ?_
        refine g_iast Fx hK (hQ.pp (k := k) ha0) 0 rfl (Or.inl (SA.i (sVp ha0))) hS (i := 3) (by decide) (by decide) dX1_die_178 (fun H locs he9 kp hS => ?_)
        have hQ : SP D ci cj A F P (va_up (va_up (dQ g F P k c c) 4 (upd ((dQ g F P k c c) 4) k (nI 0))) 3 (upd ((va_up (dQ g F P k c c) 4 (upd ((dQ g F P k c c) 4) k (nI 0))) 3) k (nI 1))) T H := hQ.stP hi (k := k) ha0 kp (he9.cg (fun j hj => (rI_3 j hj).symm)) rfl rfl rfl (fun p hp => rI_3n hp)
        exact m_vret hx hb hr hlocks hS ⟨rfl, by rw [← (die_2 hP12 (by omega) hc).2 h5]; exact ⟨T, hR.cg (fun f9 w9 p9 _ _ _ => rfl), hQ⟩⟩ (by omega) (by omega) dX1_die_179
      · obtain ⟨T, hR, hQ⟩ := hQX
        refine lv_aload_n hx hb dX1_die_144 rfl (lv_at hl 0 rfl) ?_
        refine lv_dup hx hb dX1_die_145 rfl ?_
        refine g_get Fx hin hK 1 hQ.o rfl 4 (by decide) (by decide +kernel) rfl dX1_die_146 ?_
        refine lv_aload_n hx hb dX1_die_149 rfl (lv_at hl 0 rfl) ?_
        refine g_get Fx hin hK 1 hQ.o rfl 3 (by decide) (by decide +kernel) rfl dX1_die_150 ?_
        refine lv_iload_n hx hb dX1_die_153 rfl (lv_at hl 1 rfl) ?_
        refine g_aald Fx hK hQ.pe 2 rfl rfl (i := k) (by omega) (by omega) rfl dX1_die_154 ?_
        refine lv_iconst (v := nI 0) hx hb dX1_die_155 (by decide) ?_
        refine g_iald Fx hK (hQ.pp (k := k) (by omega)) 0 rfl (i := 0) (by decide) (by decide) dX1_die_156 ?_
        refine r_as ((dQ g F P k c c) 4 k) rfl ?_
        refine lv_iadd hx hb dX1_die_157 ?_
        refine g_put (ty := .int) Fx hin tyX1 tyX1_ok nmX1 hK 1 hQ.o (Or.inl SA.o) hS rfl 4 (by decide) (by decide +kernel) rfl (by decide +kernel) rfl rfl (Nat.le_of_ble_eq_true rfl) dX1_die_158 (fun H locs he9 kp hS => ?_)
        have hQ : SP D ci cj A F P (gCro (dQ g F P k c c) ((dQ g F P k c c) 4 k)) T H := hQ.st0 hi kp he9 rfl rfl (fun _ => rfl)
        refine lv_aload_n hx hb dX1_die_161 rfl (lv_at hl 0 rfl) ?_
        refine g_get Fx hin hK 1 hQ.o rfl 3 (by decide) (by decide +kernel) rfl dX1_die_162 ?_
        refine lv_iload_n hx hb dX1_die_165 rfl (lv_at hl 1 rfl) ?_
        refine g_aald Fx hK hQ.pe 2 rfl rfl (i := k) (by omega) (by omega) rfl dX1_die_166 ?_
        refine lv_iconst (v := nI 0) hx hb dX1_die_167 (by decide) ?_
        refine lv_iconst (v := nI 0) hx hb dX1_die_168 (by decide) ?_
        refine g_iast Fx hK (hQ.pp (k := k) ha0) 0 rfl (Or.inl (SA.i (sVp ha0))) hS (i := 0) (by decide) (by decide) dX1_die_169 (fun H locs he9 kp hS => ?_)
        have hQ : SP D ci cj A F P (va_up (gCro (dQ g F P k c c) ((dQ g F P k c c) 4 k)) 4 (upd ((gCro (dQ g F P k c c) ((dQ g F P k c c) 4 k)) 4) k (nI 0))) T H := hQ.stP hi (k := k) ha0 kp (by rw [rI_4]; exact he9) rfl rfl rfl (fun p hp => rI_4n hp)
        refine lv_aload_n hx hb dX1_die_170 rfl (lv_at hl 0 rfl) ?_
        refine g_get Fx hin hK 1 hQ.o rfl 3 (by decide) (by decide +kernel) rfl dX1_die_171 ?_
        refine lv_iload_n hx hb dX1_die_174 rfl (lv_at hl 1 rfl) ?_
        refine g_aald Fx hK hQ.pe 2 rfl rfl (i := k) (by omega) (by omega) rfl dX1_die_175 ?_
        refine lv_iconst (v := nI 3) hx hb dX1_die_176 (by decide) ?_
        refine lv_iconst (v := nI 1) hx hb dX1_die_177 (by decide) ?_
        refine g_iast Fx hK (hQ.pp (k := k) ha0) 0 rfl (Or.inl (SA.i (sVp ha0))) hS (i := 3) (by decide) (by decide) dX1_die_178 (fun H locs he9 kp hS => ?_)
        have hQ : SP D ci cj A F P (va_up (va_up (gCro (dQ g F P k c c) ((dQ g F P k c c) 4 k)) 4 (upd ((gCro (dQ g F P k c c) ((dQ g F P k c c) 4 k)) 4) k (nI 0))) 3 (upd ((va_up (gCro (dQ g F P k c c) ((dQ g F P k c c) 4 k)) 4 (upd ((gCro (dQ g F P k c c) ((dQ g F P k c c) 4 k)) 4) k (nI 0))) 3) k (nI 1))) T H := hQ.stP hi (k := k) ha0 kp (he9.cg (fun j hj => (rI_3 j hj).symm)) rfl rfl rfl (fun p hp => rI_3n hp)
        exact m_vret hx hb hr hlocks hS ⟨rfl, by rw [← (die_2 hP12 (by omega) hc).1 h5]; exact ⟨T, hR.cg (fun f9 w9 p9 _ _ _ => rfl), hQ⟩⟩ (by omega) (by omega) dX1_die_179
    · intro i h7 h6 ih114 H locs ls hW hS hl
      have hl : lv_has ls 7 [(0, .ref (A 0)), (1, .int (nI k)), (2, .ref b1), (3, .ref a3), (4, .int (nI i))] := hl
      obtain ⟨hQX, hm1, hma3⟩ := hW
      have hQX : SS D ci cj A F P (dQ g F P k c i) H := hQX
      have hm1 : isI D ci H b1 c he := hm1
      have hma3 : isI D ci H a3 c (fun j => sPar (nI e2) c j) := hma3
      refine lv_iload hx hb dX1_die_114 (lv_at hl 4 rfl) ?_
      refine lv_aload_n hx hb dX1_die_116 rfl (lv_at hl 2 rfl) ?_
      refine g_alenI Fx hK hm1 0 rfl dX1_die_117 ?_
      refine n_icmp_ge (tgt := 139) hx hb (by omega) (by omega) dX1_die_118 (by decide) (fun h8 => by omega) (fun h8 => ?_)
      refine lv_aload_n hx hb dX1_die_121 rfl (lv_at hl 0 rfl) ?_
      refine lv_aload_n hx hb dX1_die_122 rfl (lv_at hl 2 rfl) ?_
      refine lv_iload hx hb dX1_die_123 (lv_at hl 4 rfl) ?_
      refine g_iald Fx hK hm1 0 rfl (i := i) (by omega) (by omega) dX1_die_125 ?_
      refine lv_aload_n hx hb dX1_die_126 rfl (lv_at hl 3 rfl) ?_
      refine lv_iload hx hb dX1_die_127 (lv_at hl 4 rfl) ?_
      refine g_iald Fx hK hma3 0 rfl (i := i) (by omega) (by omega) dX1_die_129 ?_
      obtain ⟨o, ho, hh, hb9, heq⟩ := hHe.get (show i < sCHe g P k by rw [← hc]; omega)
      rw [heq]
      have rcv := hQX.rc hK
      refine r_callW (rest := []) Fx (m_X1_get l (D := D) (ci := ci) (cz := cz) (cj := cj) (A := A) (F := F) (P := P) (g := dQ g F P k c i) hF hP12 o (sPar (nI e2) c i) ho hi) (cwV 2 Fx.2.2.2.2 gX1_die_X1_get rfl rfl rfl (by decide +kernel) ⟨Nat.le_of_ble_eq_true rfl, Nat.le_of_ble_eq_true rfl⟩) BX.bl rcv (BX.at hQX hK hO) rfl hl.1 rfl (Nat.le_of_ble_eq_true rfl) dX1_die_130 ⟨by show _ ≤ 51; omega, by show _ ≤ 620; omega⟩ hS (fun _ h => Or.inl h) (fun H locs hQ9 hS hsz9 hk9 => ?_)
      have kp : KP (SA A F P) _ H := ⟨hsz9, hk9⟩
      have hQX : SS D ci cj A F P (gGet (dQ g F P k c i) o (sPar (nI e2) c i)) H := hQ9
      have hm1 : isI D ci H b1 c he := kp.at hm1 (fun h9 => by obtain ⟨j9, hj9, e9⟩ := h9; have e9 : b1 = A j9 := e9; have := lq j9 hj9; omega)
      have hma3 : isI D ci H a3 c (fun j => sPar (nI e2) c j) := kp.at hma3 (fun h9 => by obtain ⟨j9, hj9, e9⟩ := h9; have e9 : a3 = A j9 := e9; have := lq j9 hj9; omega)
      have hQX : SS D ci cj A F P (dQ g F P k c (i + 1)) H := by have e9 := dQ_step (g := g) (F := F) (c := c) ho hh hb9; rw [hk4] at e9; rw [← e9]; exact hQX
      refine lv_iinc (v := nI (i + 1)) (lv' := [(4, .int (nI (i + 1))), (0, .ref (A 0)), (1, .int (nI k)), (2, .ref b1), (3, .ref a3)]) hx hb dX1_die_133 hl (k := 4) rfl (nI_inc _ 1) (by decide) rfl (fun ls hl => ?_)
      refine lv_goto (tgt := 114) hx hb dX1_die_136 (by decide) ?_
      exact ih114 (trivial) _ _ _ (⟨hQX, hm1, hma3⟩) hS (lv_sub hl [1, 2, 3, 4, 0] rfl)
  · intro i h10 h9 ih8 H locs ls lv _ hS hLv hl
    obtain ⟨rfl, hW⟩ := hLv
    obtain ⟨hQX, hm1⟩ := hW
    have hQX : SS D ci cj A F P (dO g P k c (i * 4)) H := hQX
    have hm1 : isI D ci H b1 c he := hm1
    have hl : lv_has ls 7 [(0, .ref (A 0)), (1, .int (nI k)), (2, .ref b1), (3, .int (nI i))] := hl
    refine lv_iload_n hx hb dX1_die_8 rfl (lv_at hl 3 rfl) ?_
    refine lv_aload_n hx hb dX1_die_9 rfl (lv_at hl 0 rfl) ?_
    obtain ⟨T9, hR9, hQ⟩ := id hQX
    refine g_get Fx hin hK 1 hQ.o rfl 0 (by decide) (by decide +kernel) rfl dX1_die_10 ?_
    obtain ⟨T9, hR9, hQ⟩ := id hQX
    refine g_alenI Fx hK hQ.to 0 rfl dX1_die_13 ?_
    refine n_icmp_ge (tgt := 97) hx hb (by omega) (by omega) dX1_die_14 (by decide) (fun h11 => by omega) (fun h11 => ?_)
    refine lv_iconst (v := nI 0) hx hb dX1_die_17 (by decide) ?_
    refine lv_istore (lv' := [(4, .int (nI 0)), (0, .ref (A 0)), (1, .int (nI k)), (2, .ref b1), (3, .int (nI i))]) hx hb dX1_die_18 hl (by decide) rfl (fun ls hl => ?_)
    refine mloop (nL := 7) (N := 4) 1 12 (fun _ => True) (fun i' H lv => lv = [(0, .ref (A 0)), (1, .int (nI k)), (2, .ref b1), (3, .int (nI i)), (4, .int (nI i'))] ∧ SS D ci cj A F P (dO g P k c (i * 4 + i')) H ∧ isI D ci H b1 c he) (fun _ _ => True) (trivial) trivial hS (lv0 := [(0, .ref (A 0)), (1, .int (nI k)), (2, .ref b1), (3, .int (nI i)), (4, .int (nI 0))]) (⟨rfl, hQX, hm1⟩) (lv_sub hl [1, 2, 3, 4, 0] rfl) ?_ ?_
    · intro h12 H locs ls lv _ hS hLv hl
      obtain ⟨rfl, hW⟩ := hLv
      obtain ⟨hQX, hm1⟩ := hW
      have hQX : SS D ci cj A F P (dO g P k c (i * 4 + 4)) H := hQX
      have hm1 : isI D ci H b1 c he := hm1
      have hl : lv_has ls 7 [(0, .ref (A 0)), (1, .int (nI k)), (2, .ref b1), (3, .int (nI i)), (4, .int (nI 4))] := hl
      refine lv_iload hx hb dX1_die_20 (lv_at hl 4 rfl) ?_
      refine lv_iconst (v := nI 4) hx hb dX1_die_22 (by decide) ?_
      refine n_icmp_ge (tgt := 91) hx hb (by omega) (by omega) dX1_die_23 (by decide) (fun h13 => ?_) (fun h13 => by omega)
      refine lv_iinc (v := nI (i + 1)) (lv' := [(3, .int (nI (i + 1))), (0, .ref (A 0)), (1, .int (nI k)), (2, .ref b1), (4, .int (nI 4))]) hx hb dX1_die_91 hl (k := 3) rfl (nI_inc _ 1) (by decide) rfl (fun ls hl => ?_)
      refine lv_goto (tgt := 8) hx hb dX1_die_94 (by decide) ?_
      refine W.widen (Nat.le_refl _) (Nat.le_refl _) ?_
      exact ih8 (trivial) _ _ _ _ trivial hS (⟨rfl, by rw [show (i + 1) * 4 = i * 4 + 4 by omega]; exact hQX, hm1⟩) (lv_sub hl [1, 2, 3, 0] rfl)
    · intro i' h15 h14 ih20 H locs ls lv _ hS hLv hl
      obtain ⟨rfl, hW⟩ := hLv
      obtain ⟨hQX, hm1⟩ := hW
      have hQX : SS D ci cj A F P (dO g P k c (i * 4 + i')) H := hQX
      have hm1 : isI D ci H b1 c he := hm1
      have hl : lv_has ls 7 [(0, .ref (A 0)), (1, .int (nI k)), (2, .ref b1), (3, .int (nI i)), (4, .int (nI i'))] := hl
      refine lv_iload hx hb dX1_die_20 (lv_at hl 4 rfl) ?_
      refine lv_iconst (v := nI 4) hx hb dX1_die_22 (by decide) ?_
      refine n_icmp_ge (tgt := 91) hx hb (by omega) (by omega) dX1_die_23 (by decide) (fun h16 => by omega) (fun h16 => ?_)
      refine lv_aload_n hx hb dX1_die_26 rfl (lv_at hl 0 rfl) ?_
      refine lv_iload_n hx hb dX1_die_27 rfl (lv_at hl 3 rfl) ?_
      refine lv_iload hx hb dX1_die_28 (lv_at hl 4 rfl) ?_
      refine lv_iload_n hx hb dX1_die_30 rfl (lv_at hl 1 rfl) ?_
      obtain ⟨e, he64, hxd⟩ := hQX.bd (f := i) (w := i') (k := k) (by omega) (by omega) ha0
      have hx0 : own g i i' k = nI e := by rw [← hxd, dO_k (by omega) (by omega)]
      refine r_callR (rest := []) Fx (m_X1_has l (D := D) (ci := ci) (cz := cz) (cj := cj) (A := A) (F := F) (P := P) (g := dO g P k c (i * 4 + i')) hF hP12 i i' k (by omega) (by omega) ha0) (cwV 3 Fx.2.2.2.2 gX1_die_X1_has rfl rfl rfl (by decide +kernel) ⟨Nat.le_of_ble_eq_true rfl, Nat.le_of_ble_eq_true rfl⟩) BX.bl (hQX.rc hK) (BX.at hQX hK hO) rfl hl.1 rfl (Nat.le_of_ble_eq_true rfl) dX1_die_31 ⟨by show _ ≤ 51; omega, by show _ ≤ 620; omega⟩ ?_
      refine r_as (nI e) hxd ?_
      refine lv_aload_n hx hb dX1_die_34 rfl (lv_at hl 2 rfl) ?_
      refine g_alenI Fx hK hm1 0 rfl dX1_die_35 ?_
      have hz8 := Nat.le_trans (Nat.le_of_eq hz9.symm) hS.1
      refine r_callMS (rest := []) Fx (m_X1_parts l (D := D) (ci := ci) (cz := cz) (cj := cj) _ e c (by omega) hc12) (va_cwS 2 Fx.2.2.2.2 gX1_die_X1_parts rfl rfl rfl (by decide +kernel) ⟨Nat.le_of_ble_eq_true rfl, Nat.le_of_ble_eq_true rfl⟩) (fun U fr mk a h9 => ⟨h9.1, va_K.moved (u := U) (U := U.calling fr mk a) (Vm.Alike.refl U.vm) h9.2⟩) (fun U hU hW => ⟨by rw [hU], va_K.moved hW.alike hK⟩) rfl hl.1 rfl (Nat.le_of_ble_eq_true rfl) dX1_die_36 ⟨by show 0 + 26 + i * 4 + i' * 1 + 1 ≤ 51; omega, by show 0 + 320 + i * 48 + i' * 12 + 12 ≤ 620; omega⟩ hS (fun q9 h9 => Or.inr (Nat.le_trans hz8 h9)) (fun v H locs hv kp hS => ?_)
      obtain ⟨a5, rfl, la5, hma5⟩ := hv
      have la5 : hz ≤ a5 := Nat.le_trans hz8 la5
      have hQX : SS D ci cj A F P (dO g P k c (i * 4 + i')) H := hQX.new kp
      have hm1 : isI D ci H b1 c he := kp.new_at hm1
      refine lv_astore (lv' := [(5, .ref a5), (0, .ref (A 0)), (1, .int (nI k)), (2, .ref b1), (3, .int (nI i)), (4, .int (nI i'))]) hx hb dX1_die_39 hl (by decide) rfl (fun ls hl => ?_)
      refine lv_iconst (v := nI 0) hx hb dX1_die_41 (by decide) ?_
      refine lv_istore (lv' := [(6, .int (nI 0)), (5, .ref a5), (0, .ref (A 0)), (1, .int (nI k)), (2, .ref b1), (3, .int (nI i)), (4, .int (nI i'))]) hx hb dX1_die_42 hl (by decide) rfl (fun ls hl => ?_)
      refine wloop (nL := 7) (N := c) (fun _ => True) (fun i'' => [(0, .ref (A 0)), (1, .int (nI k)), (2, .ref b1), (3, .int (nI i)), (4, .int (nI i')), (5, .ref a5), (6, .int (nI i''))]) (fun i'' H => SS D ci cj A F P (dS g P k c (i * 4 + i') e i'') H ∧ isI D ci H b1 c he ∧ isI D ci H a5 c (fun j => sPar (nI e) c j)) (trivial) (⟨hQX.c2 (fun a ha => by rw [dS_o ha, dO_o ha]) (fun f9 w9 p9 hf9 hw9 hp9 => dS_0 (by omega) hx0 hw9 (by omega)) hF, hm1, hma5⟩) hS (lv_sub hl [2, 3, 4, 5, 6, 1, 0] rfl) ?_ ?_
      · intro h17 H locs ls hW hS hl
        have hl : lv_has ls 7 [(0, .ref (A 0)), (1, .int (nI k)), (2, .ref b1), (3, .int (nI i)), (4, .int (nI i')), (5, .ref a5), (6, .int (nI c))] := hl
        obtain ⟨hQX, hm1, hma5⟩ := hW
        have hQX : SS D ci cj A F P (dS g P k c (i * 4 + i') e c) H := hQX
        have hm1 : isI D ci H b1 c he := hm1
        have hma5 : isI D ci H a5 c (fun j => sPar (nI e) c j) := hma5
        refine lv_iload hx hb dX1_die_44 (lv_at hl 6 rfl) ?_
        refine lv_aload_n hx hb dX1_die_46 rfl (lv_at hl 2 rfl) ?_
        refine g_alenI Fx hK hm1 0 rfl dX1_die_47 ?_
        refine n_icmp_ge (tgt := 74) hx hb (by omega) (by omega) dX1_die_48 (by decide) (fun h18 => ?_) (fun h18 => by omega)
        refine lv_aload_n hx hb dX1_die_74 rfl (lv_at hl 0 rfl) ?_
        refine lv_iload_n hx hb dX1_die_75 rfl (lv_at hl 3 rfl) ?_
        refine lv_iload hx hb dX1_die_76 (lv_at hl 4 rfl) ?_
        refine lv_iload_n hx hb dX1_die_78 rfl (lv_at hl 1 rfl) ?_
        refine lv_iconst (v := -1) hx hb dX1_die_79 (by decide) ?_
        refine lv_bipush (v := nI 64) hx hb dX1_die_80 (by decide) ?_
        have rcv := hQX.rc hK
        refine r_callW (rest := []) Fx (m_X1_handD l (D := D) (ci := ci) (cz := cz) (cj := cj) (A := A) (F := F) (P := P) (g := dS g P k c (i * 4 + i') e c) hF hP12 i i' k (by omega) (by omega) ha0 hi) (cwV 5 Fx.2.2.2.2 gX1_die_X1_hand rfl rfl rfl (by decide +kernel) ⟨Nat.le_of_ble_eq_true rfl, Nat.le_of_ble_eq_true rfl⟩) BX.bl rcv (BX.at hQX hK hO) rfl hl.1 rfl (Nat.le_of_ble_eq_true rfl) dX1_die_82 ⟨by show _ ≤ 51; omega, by show _ ≤ 620; omega⟩ hS (fun _ h => Or.inl h) (fun H locs hQ9 hS hsz9 hk9 => ?_)
        have kp : KP (SA A F P) _ H := ⟨hsz9, hk9⟩
        have hQX : SS D ci cj A F P (va_up (dS g P k c (i * 4 + i') e c) 2 (upd ((dS g P k c (i * 4 + i') e c) 2) (sl i i' k) (nI 0))) H := hQ9
        have hm1 : isI D ci H b1 c he := kp.at hm1 (fun h9 => by obtain ⟨j9, hj9, e9⟩ := h9; have e9 : b1 = A j9 := e9; have := lq j9 hj9; omega)
        have hma5 : isI D ci H a5 c (fun j => sPar (nI e) c j) := kp.at hma5 (fun h9 => by obtain ⟨j9, hj9, e9⟩ := h9; have e9 : a5 = A j9 := e9; have := lq j9 hj9; omega)
        have hQX : SS D ci cj A F P (dO g P k c (i * 4 + i' + 1)) H := hQX.c2 (fun a ha => by rw [dO_o ha]; simp [va_up, ha, dS_o ha]) (fun f' w' p hf' hw' hp => (dS_end hP12 ha0 hc (by omega) hx0 hw' hp).symm) hF
        refine lv_iinc (v := nI (i' + 1)) (lv' := [(4, .int (nI (i' + 1))), (0, .ref (A 0)), (1, .int (nI k)), (2, .ref b1), (3, .int (nI i)), (5, .ref a5), (6, .int (nI c))]) hx hb dX1_die_85 hl (k := 4) rfl (nI_inc _ 1) (by decide) rfl (fun ls hl => ?_)
        refine lv_goto (tgt := 20) hx hb dX1_die_88 (by decide) ?_
        refine W.widen (Nat.le_refl _) (Nat.le_refl _) ?_
        exact ih20 (trivial) _ _ _ _ trivial hS (⟨rfl, hQX, hm1⟩) (lv_sub hl [1, 2, 3, 4, 0] rfl)
      · intro i'' h20 h19 ih44 H locs ls hW hS hl
        have hl : lv_has ls 7 [(0, .ref (A 0)), (1, .int (nI k)), (2, .ref b1), (3, .int (nI i)), (4, .int (nI i')), (5, .ref a5), (6, .int (nI i''))] := hl
        obtain ⟨hQX, hm1, hma5⟩ := hW
        have hQX : SS D ci cj A F P (dS g P k c (i * 4 + i') e i'') H := hQX
        have hm1 : isI D ci H b1 c he := hm1
        have hma5 : isI D ci H a5 c (fun j => sPar (nI e) c j) := hma5
        refine lv_iload hx hb dX1_die_44 (lv_at hl 6 rfl) ?_
        refine lv_aload_n hx hb dX1_die_46 rfl (lv_at hl 2 rfl) ?_
        refine g_alenI Fx hK hm1 0 rfl dX1_die_47 ?_
        refine n_icmp_ge (tgt := 74) hx hb (by omega) (by omega) dX1_die_48 (by decide) (fun h21 => by omega) (fun h21 => ?_)
        refine lv_aload_n hx hb dX1_die_51 rfl (lv_at hl 0 rfl) ?_
        refine lv_iload_n hx hb dX1_die_52 rfl (lv_at hl 3 rfl) ?_
        refine lv_iload hx hb dX1_die_53 (lv_at hl 4 rfl) ?_
        refine lv_iload_n hx hb dX1_die_55 rfl (lv_at hl 1 rfl) ?_
        refine lv_aload_n hx hb dX1_die_56 rfl (lv_at hl 2 rfl) ?_
        refine lv_iload hx hb dX1_die_57 (lv_at hl 6 rfl) ?_
        refine g_iald Fx hK hm1 0 rfl (i := i'') (by omega) (by omega) dX1_die_59 ?_
        refine lv_aload hx hb dX1_die_60 (lv_at hl 5 rfl) ?_
        refine lv_iload hx hb dX1_die_62 (lv_at hl 6 rfl) ?_
        refine g_iald Fx hK hma5 0 rfl (i := i'') (by omega) (by omega) dX1_die_64 ?_
        obtain ⟨o, ho, hh, hb9, heq⟩ := hHe.get (show i'' < sCHe g P k by rw [← hc]; omega)
        obtain ⟨hsum, hprt⟩ := par_N e (by omega) c (by omega) (by omega)
        have hmo := sN_mono (a := fun h => pN e c h) (show i'' + 1 ≤ c by omega)
        have hmo2 : sN (fun h => pN e c h) (i'' + 1) = sN (fun h => pN e c h) i'' + pN e c i'' := rfl
        have hown : own (dS g P k c (i * 4 + i') e i'') i i' k = nI (e - sN (fun h => pN e c h) i'') := by rw [dS_own (by omega) (by omega), if_neg (Nat.lt_irrefl _), if_pos rfl, if_pos rfl]
        rw [heq, (hprt i'' (by omega)).1]
        have rcv := hQX.rc hK
        refine r_callW (rest := []) Fx (m_X1_handP l (D := D) (ci := ci) (cz := cz) (cj := cj) (A := A) (F := F) (P := P) (g := dS g P k c (i * 4 + i') e i'') hF hP12 i i' k o (pN e c i'') (by omega) (by omega) ha0 ho (Ne.symm (isH_ne hh)) (by rw [hown]; exact nI_le (by omega) (by omega)) (hprt i'' (by omega)).2 hi) (cwV 5 Fx.2.2.2.2 gX1_die_X1_hand rfl rfl rfl (by decide +kernel) ⟨Nat.le_of_ble_eq_true rfl, Nat.le_of_ble_eq_true rfl⟩) BX.bl rcv (BX.at hQX hK hO) rfl hl.1 rfl (Nat.le_of_ble_eq_true rfl) dX1_die_65 ⟨by show _ ≤ 51; omega, by show _ ≤ 620; omega⟩ hS (fun _ h => Or.inl h) (fun H locs hQ9 hS hsz9 hk9 => ?_)
        have kp : KP (SA A F P) _ H := ⟨hsz9, hk9⟩
        have hQX : SS D ci cj A F P (gAdd (gAdd (dS g P k c (i * 4 + i') e i'') i i' k (-(nI (pN e c i'')))) i i' o (nI (pN e c i''))) H := hQ9
        have hm1 : isI D ci H b1 c he := kp.at hm1 (fun h9 => by obtain ⟨j9, hj9, e9⟩ := h9; have e9 : b1 = A j9 := e9; have := lq j9 hj9; omega)
        have hma5 : isI D ci H a5 c (fun j => sPar (nI e) c j) := kp.at hma5 (fun h9 => by obtain ⟨j9, hj9, e9⟩ := h9; have e9 : a5 = A j9 := e9; have := lq j9 hj9; omega)
        have hQX : SS D ci cj A F P (dS g P k c (i * 4 + i') e (i'' + 1)) H := hQX.c2 (fun a ha => by rw [dS_o ha]; simp [gAdd, va_up, ha, dS_o ha]) (fun f' w' p hf' hw' hp => (dS_step hP12 ha0 hc (by omega) he64 (by omega) ho hh hb9 hw' hp).symm) hF
        refine lv_iinc (v := nI (i'' + 1)) (lv' := [(6, .int (nI (i'' + 1))), (0, .ref (A 0)), (1, .int (nI k)), (2, .ref b1), (3, .int (nI i)), (4, .int (nI i')), (5, .ref a5)]) hx hb dX1_die_68 hl (k := 6) rfl (nI_inc _ 1) (by decide) rfl (fun ls hl => ?_)
        refine lv_goto (tgt := 44) hx hb dX1_die_71 (by decide) ?_
        exact ih44 (trivial) _ _ _ (⟨hQX, hm1, hma5⟩) hS (lv_sub hl [1, 2, 3, 4, 5, 6, 0] rfl)
end SIMC
