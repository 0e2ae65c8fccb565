/-! PART 29: the Sim, II: rows made anew, heirs, an estate's parts. -/
section SIMB
set_option maxHeartbeats 8000000 in
set_option maxRecDepth 100000 in
theorem m_X1_more (l : Launch) {D : va_G} {ci cz : ClassId} {cj : ClassId × ClassId} (hz a0 n : Nat) (f : Nat → Int32) (x : Int32) (hn : n ≤ 12) : Met l yX1_more wsX1_more ({ frames := 0, cells := 1, slots := 13, locals := 0 } : Room) (va_Pc [.ref a0, .int x] (fun U => U.heap.size = hz ∧ isI D ci U.heap a0 n f ∧ va_K D vwCl (tyL ci cz cj) U)) (MQv (fun v H => ∃ a : Nat, v = some (.ref a) ∧ hz ≤ a ∧ isI D ci H a (n + 1) (upd f n x)) (new_ hz)) 1 13 (new_ hz) := by
  refine Met.ofM (cc := cX1_more) (maxL := 4) (ret := (some (.array .int))) (by decide) rfl (Nat.le_of_ble_eq_true rfl) ?_
  intro pg en s m bl mt cd ls Fx hr hlocks hB hl
  obtain ⟨hz9, hI, hK⟩ := hB
  have la0 : a0 < hz := by rw [← hz9]; exact va_at.lt hI
  have hl : lv_has ls 4 [(0, .ref a0), (1, .int x)] := hl
  have Fx : CallFix pg m cd cX1_more 4 s _ wsX1_more RX1 := Fx
  have hx := Fx.1
  have hb := Fx.2.1
  have hS : va_S (new_ hz) s.heap s.heap [] := va_S.rf
  refine lv_aload_n hx hb dX1_more_0 rfl (lv_at hl 0 rfl) ?_
  refine g_alenI Fx hK hI 0 rfl dX1_more_1 ?_
  refine lv_iconst (v := nI 1) hx hb dX1_more_2 (by decide) ?_
  refine r_iadd_n hx hb dX1_more_3 ?_
  refine g_newa Fx hK 0 rfl (by decide +kernel) hS (by omega) (Nat.le_of_ble_eq_true rfl) (by show 0 + (n + 1) ≤ 13; omega) dX1_more_4 (fun a1 H ea hia1 kp hsz hS => ?_)
  have l_hia1_hI : a0 < a1 := by rw [ea]; exact va_at.lt hI
  have lz_hia1 : hz ≤ a1 := by rw [ea, hz9]; exact Nat.le_refl _
  have hI : isI D ci H a0 n f := kp.at hI (fun h9 => h9.elim)
  refine lv_astore_n (lv' := [(2, .ref a1), (0, .ref a0), (1, .int x)]) hx hb dX1_more_6 rfl hl (by decide) rfl (fun ls hl => ?_)
  refine lv_iconst (v := nI 0) hx hb dX1_more_7 (by decide) ?_
  refine lv_istore_n (lv' := [(3, .int (nI 0)), (2, .ref a1), (0, .ref a0), (1, .int x)]) hx hb dX1_more_8 rfl hl (by decide) rfl (fun ls hl => ?_)
  refine wloop (nL := 4) (N := n) (fun _ => True) (fun i => [(0, .ref a0), (1, .int x), (2, .ref a1), (3, .int (nI i))]) (fun i H => isI D ci H a0 n f ∧ isI D ci H a1 (n + 1) (fun j => if j < i then f j else 0)) (trivial) (⟨hI, hia1.cg (fun j _ => (if_neg (by omega)).symm)⟩) hS (lv_sub hl [2, 3, 1, 0] rfl) ?_ ?_
  · intro h1 H locs ls hW hS hl
    have hl : lv_has ls 4 [(0, .ref a0), (1, .int x), (2, .ref a1), (3, .int (nI n))] := hl
    obtain ⟨hI, hia1⟩ := hW
    have hI : isI D ci H a0 n f := hI
    have hia1 : isI D ci H a1 (n + 1) (fun j => if j < n then f j else 0) := hia1
    refine lv_iload_n hx hb dX1_more_9 rfl (lv_at hl 3 rfl) ?_
    refine lv_aload_n hx hb dX1_more_10 rfl (lv_at hl 0 rfl) ?_
    refine g_alenI Fx hK hI 0 rfl dX1_more_11 ?_
    refine n_icmp_ge (tgt := 27) hx hb (by omega) (by omega) dX1_more_12 (by decide) (fun h2 => ?_) (fun h2 => by omega)
    refine lv_aload_n hx hb dX1_more_27 rfl (lv_at hl 2 rfl) ?_
    refine lv_aload_n hx hb dX1_more_28 rfl (lv_at hl 0 rfl) ?_
    refine g_alenI Fx hK hI 0 rfl dX1_more_29 ?_
    refine lv_iload_n hx hb dX1_more_30 rfl (lv_at hl 1 rfl) ?_
    refine g_iast Fx hK hia1 0 rfl lz_hia1 hS (i := n) (by omega) (by omega) dX1_more_31 (fun H locs hia1 kp hS => ?_)
    have hI : isI D ci H a0 n f := kp.at hI (fun h9 => by have h9 : a0 = a1 := h9; omega)
    refine lv_aload_n hx hb dX1_more_32 rfl (lv_at hl 2 rfl) ?_
    exact m_aret hx hb hr (Or.inr ⟨_, rfl⟩) hlocks hS ⟨_, rfl, lz_hia1, hia1.cg (fun j hj => cp_e j hj)⟩ (by omega) (by omega) dX1_more_33
  · intro i h4 h3 ih9 H locs ls hW hS hl
    have hl : lv_has ls 4 [(0, .ref a0), (1, .int x), (2, .ref a1), (3, .int (nI i))] := hl
    obtain ⟨hI, hia1⟩ := hW
    have hI : isI D ci H a0 n f := hI
    have hia1 : isI D ci H a1 (n + 1) (fun j => if j < i then f j else 0) := hia1
    refine lv_iload_n hx hb dX1_more_9 rfl (lv_at hl 3 rfl) ?_
    refine lv_aload_n hx hb dX1_more_10 rfl (lv_at hl 0 rfl) ?_
    refine g_alenI Fx hK hI 0 rfl dX1_more_11 ?_
    refine n_icmp_ge (tgt := 27) hx hb (by omega) (by omega) dX1_more_12 (by decide) (fun h5 => by omega) (fun h5 => ?_)
    refine lv_aload_n hx hb dX1_more_15 rfl (lv_at hl 2 rfl) ?_
    refine lv_iload_n hx hb dX1_more_16 rfl (lv_at hl 3 rfl) ?_
    refine lv_aload_n hx hb dX1_more_17 rfl (lv_at hl 0 rfl) ?_
    refine lv_iload_n hx hb dX1_more_18 rfl (lv_at hl 3 rfl) ?_
    refine g_iald Fx hK hI 0 rfl (i := i) (by omega) (by omega) dX1_more_19 ?_
    refine g_iast Fx hK hia1 0 rfl lz_hia1 hS (i := i) (by omega) (by omega) dX1_more_20 (fun H locs hia1 kp hS => ?_)
    have hI : isI D ci H a0 n f := kp.at hI (fun h9 => by have h9 : a0 = a1 := h9; omega)
    have hia1 : isI D ci H a1 (n + 1) (fun j => if j < i + 1 then f j else 0) := hia1.cg (fun j _ => cp_s j)
    refine lv_iinc (v := nI (i + 1)) (lv' := [(3, .int (nI (i + 1))), (0, .ref a0), (1, .int x), (2, .ref a1)]) hx hb dX1_more_21 hl (k := 3) rfl (nI_inc _ 1) (by decide) rfl (fun ls hl => ?_)
    refine lv_goto (tgt := 9) hx hb dX1_more_24 (by decide) ?_
    exact ih9 (trivial) _ _ _ (⟨hI, hia1⟩) hS (lv_sub hl [1, 2, 3, 0] rfl)
set_option maxHeartbeats 8000000 in
set_option maxRecDepth 100000 in
theorem m_X1_living (l : Launch) {D : va_G} {ci cz : ClassId} {cj : ClassId × ClassId} {A : Nat → Nat} {F P : Nat} {g : Nat → Nat → Int32} (hz : Nat) (hF : F ≤ 6) (hP12 : P ≤ 12) (pa bu : Int32) : Met l yX1_living wsX1_living ({ frames := 1, cells := 13, slots := 160, locals := 23 } : Room) (va_Pc [.ref (A 0), .int pa, .int bu] (fun U => U.heap.size = hz ∧ BX D ci cz cj A F P g U)) (MQv (fun v H => ∃ a : Nat, v = some (.ref a) ∧ hz ≤ a ∧ isI D ci H a (cn (lB g pa bu) P) (heF (lB g pa bu) (fun _ => 0) P)) (new_ hz)) 13 160 (new_ hz) := by
  refine Met.ofM (cc := cX1_living) (maxL := 5) (ret := (some (.array .int))) (by decide) rfl (Nat.le_of_ble_eq_true rfl) ?_
  intro pg en s m bl mt cd ls Fx hr hlocks hB hl
  obtain ⟨hz9, ⟨T, hR, hQ⟩, hK, hO⟩ := hB
  have lq : ∀ j, sV F P j → A j < hz := fun j hj => by rw [← hz9]; exact hQ.lt hj
  have hl : lv_has ls 5 [(0, .ref (A 0)), (1, .int pa), (2, .int bu)] := hl
  have Fx : CallFix pg m cd cX1_living 5 s _ wsX1_living RX1 := Fx
  have hx := Fx.1
  have hb := Fx.2.1
  have hin : ∀ w ∈ wsX10, w ∈ wsX1_living := by decide +kernel
  have hS : va_S (new_ hz) s.heap s.heap [] := va_S.rf
  refine lv_iconst (v := nI 0) hx hb dX1_living_0 (by decide) ?_
  refine g_newa Fx hK 0 rfl (by decide +kernel) hS (by omega) (Nat.le_of_ble_eq_true rfl) (Nat.le_of_ble_eq_true rfl) dX1_living_1 (fun a1 H ea hia1 kp hsz hS => ?_)
  have lz_hia1 : hz ≤ a1 := by rw [ea, hz9]; exact Nat.le_refl _
  have hQ : SP D ci cj A F P g T H := hQ.mv kp (fun _ _ h9 => h9.elim)
  refine lv_astore_n (lv' := [(3, .ref a1), (0, .ref (A 0)), (1, .int pa), (2, .int bu)]) hx hb dX1_living_3 rfl hl (by decide) rfl (fun ls hl => ?_)
  refine lv_iconst (v := nI 0) hx hb dX1_living_4 (by decide) ?_
  refine lv_istore (lv' := [(4, .int (nI 0)), (3, .ref a1), (0, .ref (A 0)), (1, .int pa), (2, .int bu)]) hx hb dX1_living_5 hl (by decide) rfl (fun ls hl => ?_)
  refine mloop (nL := 5) (N := P) 1 13 (fun _ => True) (fun i H lv => ∃ a9, hz ≤ a9 ∧ lv = [(0, .ref (A 0)), (1, .int pa), (2, .int bu), (3, .ref a9), (4, .int (nI i))] ∧ SP D ci cj A F P g T H ∧ isI D ci H a9 (cn (lB g pa bu) i) (heF (lB g pa bu) (fun _ => 0) i)) (fun _ _ => True) (trivial) trivial hS (lv0 := [(0, .ref (A 0)), (1, .int pa), (2, .int bu), (3, .ref a1), (4, .int (nI 0))]) (⟨a1, lz_hia1, rfl, hQ, hia1⟩) (lv_sub hl [2, 3, 4, 1, 0] rfl) ?_ ?_
  · intro h1 H locs ls lv _ hS hLv hl
    obtain ⟨a9, hex, rfl, hW⟩ := hLv
    obtain ⟨hQ, hm⟩ := hW
    have hQ : SP D ci cj A F P g T H := hQ
    have hm : isI D ci H a9 (cn (lB g pa bu) P) (heF (lB g pa bu) (fun _ => 0) P) := hm
    have hl : lv_has ls 5 [(0, .ref (A 0)), (1, .int pa), (2, .int bu), (3, .ref a9), (4, .int (nI P))] := hl
    refine lv_iload hx hb dX1_living_7 (lv_at hl 4 rfl) ?_
    refine lv_aload_n hx hb dX1_living_9 rfl (lv_at hl 0 rfl) ?_
    refine g_get Fx hin hK 1 hQ.o rfl 3 (by decide) (by decide +kernel) rfl dX1_living_10 ?_
    refine g_alenR Fx hK hQ.pe 2 rfl dX1_living_13 ?_
    refine n_icmp_ge (tgt := 61) hx hb (by omega) (by omega) dX1_living_14 (by decide) (fun h2 => ?_) (fun h2 => by omega)
    refine lv_aload_n hx hb dX1_living_61 rfl (lv_at hl 3 rfl) ?_
    exact m_aret hx hb hr (Or.inr ⟨_, rfl⟩) hlocks hS ⟨_, rfl, hex, hm⟩ (by omega) (by omega) dX1_living_62
  · intro i h4 h3 ih7 H locs ls lv _ hS hLv hl
    obtain ⟨a9, hex, rfl, hW⟩ := hLv
    obtain ⟨hQ, hm⟩ := hW
    have hQ : SP D ci cj A F P g T H := hQ
    have hm : isI D ci H a9 (cn (lB g pa bu) i) (heF (lB g pa bu) (fun _ => 0) i) := hm
    have hl : lv_has ls 5 [(0, .ref (A 0)), (1, .int pa), (2, .int bu), (3, .ref a9), (4, .int (nI i))] := hl
    refine lv_iload hx hb dX1_living_7 (lv_at hl 4 rfl) ?_
    refine lv_aload_n hx hb dX1_living_9 rfl (lv_at hl 0 rfl) ?_
    refine g_get Fx hin hK 1 hQ.o rfl 3 (by decide) (by decide +kernel) rfl dX1_living_10 ?_
    refine g_alenR Fx hK hQ.pe 2 rfl dX1_living_13 ?_
    refine n_icmp_ge (tgt := 61) hx hb (by omega) (by omega) dX1_living_14 (by decide) (fun h5 => by omega) (fun h5 => ?_)
    refine lv_iload hx hb dX1_living_17 (lv_at hl 4 rfl) ?_
    refine lv_iload_n hx hb dX1_living_19 rfl (lv_at hl 2 rfl) ?_
    refine lv_icmp_eq (tgt := 55) hx hb dX1_living_20 (by decide) (fun h6 => ?_) (fun h6 => ?_)
    · refine lv_iinc (v := nI (i + 1)) (lv' := [(4, .int (nI (i + 1))), (0, .ref (A 0)), (1, .int pa), (2, .int bu), (3, .ref a9)]) hx hb dX1_living_55 hl (k := 4) rfl (nI_inc _ 1) (by decide) rfl (fun ls hl => ?_)
      refine lv_goto (tgt := 7) hx hb dX1_living_58 (by decide) ?_
      refine W.widen (Nat.le_add_right _ 1) (Nat.le_add_right _ 13) ?_
      exact ih7 (trivial) _ _ _ _ trivial hS (⟨a9, hex, rfl, hQ, by have hb9 : lB g pa bu i = false := (by first | exact lB_n1 h6 | exact lB_n2 h6 | exact lB_n3 h6); rw [cn_n hb9, heF_n hb9]; exact hm⟩) (lv_sub hl [1, 2, 3, 4, 0] rfl)
    · refine lv_aload_n hx hb dX1_living_23 rfl (lv_at hl 0 rfl) ?_
      refine g_get Fx hin hK 1 hQ.o rfl 3 (by decide) (by decide +kernel) rfl dX1_living_24 ?_
      refine lv_iload hx hb dX1_living_27 (lv_at hl 4 rfl) ?_
      refine g_aald Fx hK hQ.pe 2 rfl rfl (i := i) (by omega) (by omega) rfl dX1_living_29 ?_
      refine lv_iconst (v := nI 2) hx hb dX1_living_30 (by decide) ?_
      refine g_iald Fx hK (hQ.pp (k := i) (by omega)) 0 rfl (i := 2) (by decide) (by decide) dX1_living_31 ?_
      refine r_as (g 6 i) rfl ?_
      refine lv_iload_n hx hb dX1_living_32 rfl (lv_at hl 1 rfl) ?_
      refine lv_icmp_ne (tgt := 55) hx hb dX1_living_33 (by decide) (fun h7 => ?_) (fun h7 => ?_)
      · refine lv_iinc (v := nI (i + 1)) (lv' := [(4, .int (nI (i + 1))), (0, .ref (A 0)), (1, .int pa), (2, .int bu), (3, .ref a9)]) hx hb dX1_living_55 hl (k := 4) rfl (nI_inc _ 1) (by decide) rfl (fun ls hl => ?_)
        refine lv_goto (tgt := 7) hx hb dX1_living_58 (by decide) ?_
        refine W.widen (Nat.le_add_right _ 1) (Nat.le_add_right _ 13) ?_
        exact ih7 (trivial) _ _ _ _ trivial hS (⟨a9, hex, rfl, hQ, by have hb9 : lB g pa bu i = false := (by first | exact lB_n1 h7 | exact lB_n2 h7 | exact lB_n3 h7); rw [cn_n hb9, heF_n hb9]; exact hm⟩) (lv_sub hl [1, 2, 3, 4, 0] rfl)
      · refine lv_aload_n hx hb dX1_living_36 rfl (lv_at hl 0 rfl) ?_
        refine g_get Fx hin hK 1 hQ.o rfl 3 (by decide) (by decide +kernel) rfl dX1_living_37 ?_
        refine lv_iload hx hb dX1_living_40 (lv_at hl 4 rfl) ?_
        refine g_aald Fx hK hQ.pe 2 rfl rfl (i := i) (by omega) (by omega) rfl dX1_living_42 ?_
        refine lv_iconst (v := nI 3) hx hb dX1_living_43 (by decide) ?_
        refine g_iald Fx hK (hQ.pp (k := i) (by omega)) 0 rfl (i := 3) (by decide) (by decide) dX1_living_44 ?_
        refine r_as (g 3 i) rfl ?_
        refine lv_if_ne (tgt := 55) hx hb dX1_living_45 (by decide) (fun h8 => ?_) (fun h8 => ?_)
        · refine lv_iinc (v := nI (i + 1)) (lv' := [(4, .int (nI (i + 1))), (0, .ref (A 0)), (1, .int pa), (2, .int bu), (3, .ref a9)]) hx hb dX1_living_55 hl (k := 4) rfl (nI_inc _ 1) (by decide) rfl (fun ls hl => ?_)
          refine lv_goto (tgt := 7) hx hb dX1_living_58 (by decide) ?_
          refine W.widen (Nat.le_add_right _ 1) (Nat.le_add_right _ 13) ?_
          exact ih7 (trivial) _ _ _ _ trivial hS (⟨a9, hex, rfl, hQ, by have hb9 : lB g pa bu i = false := (by first | exact lB_n1 h8 | exact lB_n2 h8 | exact lB_n3 h8); rw [cn_n hb9, heF_n hb9]; exact hm⟩) (lv_sub hl [1, 2, 3, 4, 0] rfl)
        · refine lv_aload_n hx hb dX1_living_48 rfl (lv_at hl 3 rfl) ?_
          refine lv_iload hx hb dX1_living_49 (lv_at hl 4 rfl) ?_
          have hz8 := Nat.le_trans (Nat.le_of_eq hz9.symm) hS.1
          refine r_callMS (rest := []) Fx (m_X1_more l (D := D) (ci := ci) (cz := cz) (cj := cj) _ a9 (cn (lB g pa bu) i) (heF (lB g pa bu) (fun _ => 0) i) (nI i) (by have := cn_le (lB g pa bu) i; omega)) (va_cwS 2 Fx.2.2.2.2 gX1_living_X1_more rfl rfl rfl (by decide +kernel) ⟨Nat.le_of_ble_eq_true rfl, Nat.le_of_ble_eq_true rfl⟩) (fun U fr mk a h9 => ⟨h9.1, h9.2.1, va_K.moved (u := U) (U := U.calling fr mk a) (Vm.Alike.refl U.vm) h9.2.2⟩) (fun U hU hW => ⟨by rw [hU], by rw [hU]; exact hm, va_K.moved hW.alike hK⟩) rfl hl.1 rfl (Nat.le_of_ble_eq_true rfl) dX1_living_51 ⟨by show 0 + 1 + i * 1 + 1 ≤ 13; omega, by show 0 + 0 + i * 13 + 13 ≤ 160; omega⟩ hS (fun q9 h9 => Nat.le_trans hz8 h9) (fun v H locs hv kp hS => ?_)
          obtain ⟨a8, rfl, lz8, hm8⟩ := hv
          have lz8 : hz ≤ a8 := Nat.le_trans hz8 lz8
          have hQ : SP D ci cj A F P g T H := hQ.new kp
          refine lv_astore_n (lv' := [(3, .ref a8), (0, .ref (A 0)), (1, .int pa), (2, .int bu), (4, .int (nI i))]) hx hb dX1_living_54 rfl hl (by decide) rfl (fun ls hl => ?_)
          refine lv_iinc (v := nI (i + 1)) (lv' := [(4, .int (nI (i + 1))), (3, .ref a8), (0, .ref (A 0)), (1, .int pa), (2, .int bu)]) hx hb dX1_living_55 hl (k := 4) rfl (nI_inc _ 1) (by decide) rfl (fun ls hl => ?_)
          refine lv_goto (tgt := 7) hx hb dX1_living_58 (by decide) ?_
          refine W.widen (Nat.le_refl _) (Nat.le_refl _) ?_
          exact ih7 (trivial) _ _ _ _ trivial hS (⟨a8, lz8, rfl, hQ, by have hb9 : lB g pa bu i = true := lB_y h6 (Classical.not_not.mp (fun h9 => h9 h7)) h8; rw [cn_y hb9, heF_y hb9]; exact hm8⟩) (lv_sub hl [2, 3, 4, 1, 0] rfl)
set_option maxHeartbeats 8000000 in
set_option maxRecDepth 100000 in
theorem m_X1_heirs (l : Launch) {D : va_G} {ci cz : ClassId} {cj : ClassId × ClassId} {A : Nat → Nat} {F P : Nat} {g : Nat → Nat → Int32} (hz : Nat) (hF : F ≤ 6) (hP12 : P ≤ 12) (k : Nat) (ha0 : k < P) (ha1 : Iv F P g) (ha2 : ∀ p, p < P → g 6 p = -1 ∨ ∃ r, r < p ∧ g 6 p = nI r) : Met l yX1_heirs wsX1_heirs ({ frames := 2, cells := 26, slots := 320, locals := 47 } : Room) (va_Pc [.ref (A 0), .int (nI k)] (fun U => U.heap.size = hz ∧ BX D ci cz cj A F P g U)) (MQv (fun v H => ∃ (a : Nat) (he : Nat → Int32), v = some (.ref a) ∧ hz ≤ a ∧ HeOk g P k he ∧ isI D ci H a (sCHe g P k) he) (new_ hz)) 26 320 (new_ hz) := by
  refine Met.ofM (cc := cX1_heirs) (maxL := 3) (ret := (some (.array .int))) (by decide) rfl (Nat.le_of_ble_eq_true rfl) ?_
  intro pg en s m bl mt cd ls Fx hr hlocks hB hl
  obtain ⟨hz9, ⟨T, hR, hQ⟩, hK, hO⟩ := hB
  have hl : lv_has ls 3 [(0, .ref (A 0)), (1, .int (nI k))] := hl
  have Fx : CallFix pg m cd cX1_heirs 3 s _ wsX1_heirs RX1 := Fx
  have hx := Fx.1
  have hb := Fx.2.1
  have hin : ∀ w ∈ wsX10, w ∈ wsX1_heirs := by decide +kernel
  have hS : va_S (new_ hz) s.heap s.heap [] := va_S.rf
  refine lv_aload_n hx hb dX1_heirs_0 rfl (lv_at hl 0 rfl) ?_
  refine lv_iload_n hx hb dX1_heirs_1 rfl (lv_at hl 1 rfl) ?_
  refine lv_iconst (v := -1) hx hb dX1_heirs_2 (by decide) ?_
  have hz8 := Nat.le_trans (Nat.le_of_eq hz9.symm) hS.1
  refine r_callM (rest := []) Fx (m_X1_living l (D := D) (ci := ci) (cz := cz) (cj := cj) (A := A) (F := F) (P := P) (g := g) _ hF hP12 (nI k) (-1)) (cwV 2 Fx.2.2.2.2 gX1_heirs_X1_living rfl rfl rfl (by decide +kernel) ⟨Nat.le_of_ble_eq_true rfl, Nat.le_of_ble_eq_true rfl⟩) (fun U fr mk a h9 => ⟨h9.1, BX.bl U fr mk a h9.2⟩) (hQ.rc hK) (fun U hU hW => ⟨by rw [hU], BX.at ⟨T, hR, hQ⟩ hK hO U hU hW⟩) rfl hl.1 rfl (Nat.le_of_ble_eq_true rfl) dX1_heirs_3 ⟨Nat.le_of_ble_eq_true rfl, Nat.le_of_ble_eq_true rfl⟩ hS (fun q9 h9 => Nat.le_trans hz8 h9) (fun v H locs hv kp hS => ?_)
  obtain ⟨b1, rfl, lb1, hm1⟩ := hv
  have lb1 : hz ≤ b1 := Nat.le_trans hz8 lb1
  have hQ : SP D ci cj A F P g T H := hQ.new kp
  have hm1 : isI D ci H b1 (cn (b1f g k) P) (heF (b1f g k) (fun _ => 0) P) := hm1.cn1 (lB_1 hP12)
  have hcn1 := cn_le (b1f g k) P
  refine lv_astore_n (lv' := [(2, .ref b1), (0, .ref (A 0)), (1, .int (nI k))]) hx hb dX1_heirs_6 rfl hl (by decide) rfl (fun ls hl => ?_)
  refine lv_aload_n hx hb dX1_heirs_7 rfl (lv_at hl 0 rfl) ?_
  refine g_alenI Fx hK hm1 0 rfl dX1_heirs_8 ?_
  refine n_if_gt (tgt := 23) hx hb (by omega) dX1_heirs_9 (by decide) (fun h1 => ?_) (fun h1 => ?_)
  · refine lv_aload_n hx hb dX1_heirs_23 rfl (lv_at hl 0 rfl) ?_
    refine lv_goto (tgt := 40) hx hb dX1_heirs_24 (by decide) ?_
    obtain ⟨e1, e2⟩ := heirs_1 (he := fun _ => 0) ha0 (iv_par ha1) h1
    rw [e1] at hm1
    exact m_aret hx hb hr (Or.inr ⟨_, rfl⟩) hlocks hS ⟨_, _, rfl, lb1, e2, hm1⟩ (by omega) (by omega) dX1_heirs_40
  · refine lv_aload_n hx hb dX1_heirs_12 rfl (lv_at hl 1 rfl) ?_
    refine g_get Fx hin hK 1 hQ.o rfl 3 (by decide) (by decide +kernel) rfl dX1_heirs_13 ?_
    refine lv_iload_n hx hb dX1_heirs_16 rfl (lv_at hl 2 rfl) ?_
    refine g_aald Fx hK hQ.pe 2 rfl rfl (i := k) (by omega) (by omega) rfl dX1_heirs_17 ?_
    refine lv_iconst (v := nI 2) hx hb dX1_heirs_18 (by decide) ?_
    refine g_iald Fx hK (hQ.pp (k := k) (by omega)) 0 rfl (i := 2) (by decide) (by decide) dX1_heirs_19 ?_
    refine r_as (g 6 k) rfl ?_
    refine lv_if_ge (tgt := 27) hx hb dX1_heirs_20 (by decide) (fun h2 => ?_) (fun h2 => ?_)
    · refine lv_aload_n hx hb dX1_heirs_27 rfl (lv_at hl 1 rfl) ?_
      refine lv_aload_n hx hb dX1_heirs_28 rfl (lv_at hl 1 rfl) ?_
      refine g_get Fx hin hK 1 hQ.o rfl 3 (by decide) (by decide +kernel) rfl dX1_heirs_29 ?_
      refine lv_iload_n hx hb dX1_heirs_32 rfl (lv_at hl 2 rfl) ?_
      refine g_aald Fx hK hQ.pe 2 rfl rfl (i := k) (by omega) (by omega) rfl dX1_heirs_33 ?_
      refine lv_iconst (v := nI 2) hx hb dX1_heirs_34 (by decide) ?_
      refine g_iald Fx hK (hQ.pp (k := k) (by omega)) 0 rfl (i := 2) (by decide) (by decide) dX1_heirs_35 ?_
      refine r_as (g 6 k) rfl ?_
      refine lv_iload_n hx hb dX1_heirs_36 rfl (lv_at hl 2 rfl) ?_
      have hz8 := Nat.le_trans (Nat.le_of_eq hz9.symm) hS.1
      refine r_callM (rest := []) Fx (m_X1_living l (D := D) (ci := ci) (cz := cz) (cj := cj) (A := A) (F := F) (P := P) (g := g) _ hF hP12 (g 6 k) (nI k)) (cwV 2 Fx.2.2.2.2 gX1_heirs_X1_living rfl rfl rfl (by decide +kernel) ⟨Nat.le_of_ble_eq_true rfl, Nat.le_of_ble_eq_true rfl⟩) (fun U fr mk a h9 => ⟨h9.1, BX.bl U fr mk a h9.2⟩) (hQ.rc hK) (fun U hU hW => ⟨by rw [hU], BX.at ⟨T, hR, hQ⟩ hK hO U hU hW⟩) rfl hl.1 rfl (Nat.le_of_ble_eq_true rfl) dX1_heirs_37 ⟨Nat.le_of_ble_eq_true rfl, Nat.le_of_ble_eq_true rfl⟩ hS (fun q9 h9 => Nat.le_trans hz8 h9) (fun v H locs hv kp hS => ?_)
      obtain ⟨b2, rfl, lb2, hm2⟩ := hv
      have lb2 : hz ≤ b2 := Nat.le_trans hz8 lb2
      have hQ : SP D ci cj A F P g T H := hQ.new kp
      have hm1 : isI D ci H b1 (cn (b1f g k) P) (heF (b1f g k) (fun _ => 0) P) := kp.new_at hm1
      have hm2 : isI D ci H b2 (cn (b2f g k) P) (heF (b2f g k) (fun _ => 0) P) := hm2.cn1 (lB_2 hP12 ha0)
      have hcn2 := cn_le (b2f g k) P
      obtain ⟨e1, e2⟩ := heirs_2 (he := fun _ => 0) h1 (fun h9 => by rw [h9] at h2; exact absurd h2 (by decide))
      rw [e1] at hm2
      exact m_aret hx hb hr (Or.inr ⟨_, rfl⟩) hlocks hS ⟨_, _, rfl, lb2, e2, hm2⟩ (by omega) (by omega) dX1_heirs_40
    · have h2 := Int32.not_le.mp h2
      refine lv_aload_n hx hb dX1_heirs_23 rfl (lv_at hl 0 rfl) ?_
      refine lv_goto (tgt := 40) hx hb dX1_heirs_24 (by decide) ?_
      obtain ⟨e1, e2⟩ := heirs_0 (he := heF (b1f g k) (fun _ => 0) P) ha0 h1 (by rcases ha2 k ha0 with h9 | ⟨r, hr9, h9⟩ <;> first | exact h9 | (rw [h9] at h2; exact absurd h2 (nI_pos (by omega))))
      rw [h1, e1] at hm1
      exact m_aret hx hb hr (Or.inr ⟨_, rfl⟩) hlocks hS ⟨_, _, rfl, lb1, e2, hm1⟩ (by omega) (by omega) dX1_heirs_40
set_option maxHeartbeats 8000000 in
set_option maxRecDepth 100000 in
theorem m_X1_parts (l : Launch) {D : va_G} {ci cz : ClassId} {cj : ClassId × ClassId} (hz e c : Nat) (he : e ≤ 10000) (hc : c ≤ 12) : Met l yX1_parts wsX1_parts ({ frames := 0, cells := 1, slots := 12, locals := 0 } : Room) (va_Pc [.int (nI e), .int (nI c)] (fun U => U.heap.size = hz ∧ va_K D vwCl (tyL ci cz cj) U)) (MQv (fun v H => ∃ a : Nat, v = some (.ref a) ∧ hz ≤ a ∧ isI D ci H a c (fun j => sPar (nI e) c j)) (new_ hz)) 1 12 (new_ hz) := by
  refine Met.ofM (cc := cX1_parts) (maxL := 5) (ret := (some (.array .int))) (by decide) rfl (Nat.le_of_ble_eq_true rfl) ?_
  intro pg en s m bl mt cd ls Fx hr hlocks hB hl
  obtain ⟨hz9, hK⟩ := hB
  have hl : lv_has ls 5 [(0, .int (nI e)), (1, .int (nI c))] := hl
  have Fx : CallFix pg m cd cX1_parts 5 s _ wsX1_parts RX1 := Fx
  have hx := Fx.1
  have hb := Fx.2.1
  have hS : va_S (new_ hz) s.heap s.heap [] := va_S.rf
  refine lv_iload_n hx hb dX1_parts_0 rfl (lv_at hl 1 rfl) ?_
  refine g_newa Fx hK 0 rfl (by decide +kernel) hS (by omega) (Nat.le_of_ble_eq_true rfl) (by show 0 + c ≤ 12; omega) dX1_parts_1 (fun a1 H ea hia1 kp hsz hS => ?_)
  have lz_hia1 : hz ≤ a1 := by rw [ea, hz9]; exact Nat.le_refl _
  refine lv_astore_n (lv' := [(2, .ref a1), (0, .int (nI e)), (1, .int (nI c))]) hx hb dX1_parts_3 rfl hl (by decide) rfl (fun ls hl => ?_)
  refine lv_iload_n hx hb dX1_parts_4 rfl (lv_at hl 2 rfl) ?_
  refine n_if_ne (tgt := 10) hx hb (by omega) dX1_parts_5 (by decide) (fun h1 => ?_) (fun h1 => ?_)
  · refine lv_aload_n hx hb dX1_parts_10 rfl (lv_at hl 0 rfl) ?_
    refine lv_iconst (v := nI 0) hx hb dX1_parts_11 (by decide) ?_
    refine lv_iload_n hx hb dX1_parts_12 rfl (lv_at hl 2 rfl) ?_
    refine lv_iconst (v := nI 1) hx hb dX1_parts_13 (by decide) ?_
    refine n_icmp_ne (tgt := 21) hx hb (by omega) (by omega) dX1_parts_14 (by decide) (fun h2 => ?_) (fun h2 => ?_)
    · refine lv_iload_n hx hb dX1_parts_21 rfl (lv_at hl 1 rfl) ?_
      refine lv_iconst (v := nI 1) hx hb dX1_parts_22 (by decide) ?_
      refine r_iadd_n hx hb dX1_parts_23 ?_
      refine lv_iconst (v := nI 2) hx hb dX1_parts_24 (by decide) ?_
      refine r_idiv_n hx hb (by omega) (by omega) (by omega) dX1_parts_25 ?_
      refine g_iast Fx hK hia1 0 rfl lz_hia1 hS (i := 0) (by omega) (by omega) dX1_parts_26 (fun H locs hia1 kp hS => ?_)
      have hc2 : 2 ≤ c := by omega
      refine lv_iload_n hx hb dX1_parts_27 rfl (lv_at hl 1 rfl) ?_
      refine lv_aload_n hx hb dX1_parts_28 rfl (lv_at hl 0 rfl) ?_
      refine lv_iconst (v := nI 0) hx hb dX1_parts_29 (by decide) ?_
      refine g_iald Fx hK hia1 0 rfl (i := 0) (by omega) (by omega) dX1_parts_30 ?_
      refine r_as (nI ((e + 1) / 2)) rfl ?_
      refine r_isub_n hx hb (by omega) dX1_parts_31 ?_
      refine lv_istore_n (lv' := [(3, .int (nI (e - ((e + 1) / 2)))), (2, .ref a1), (0, .int (nI e)), (1, .int (nI c))]) hx hb dX1_parts_32 rfl hl (by decide) rfl (fun ls hl => ?_)
      refine lv_iconst (v := nI 1) hx hb dX1_parts_33 (by decide) ?_
      refine lv_istore (lv' := [(4, .int (nI 1)), (3, .int (nI (e - ((e + 1) / 2)))), (2, .ref a1), (0, .int (nI e)), (1, .int (nI c))]) hx hb dX1_parts_34 hl (by decide) rfl (fun ls hl => ?_)
      have e4_ : nI 1 = nI (1 + 0 % (c - 1)) := congrArg nI (by rw [Nat.zero_mod])
      rw [e4_] at hl
      refine wloop (nL := 5) (N := (e - (e + 1) / 2)) (fun _ => True) (fun i => [(0, .int (nI e)), (1, .int (nI c)), (2, .ref a1), (3, .int (nI ((e - (e + 1) / 2) - i))), (4, .int (nI (1 + i % (c - 1))))]) (fun i H => isI D ci H a1 c (pA ((e + 1) / 2) c i)) (trivial) (hia1.cg (pA_0 hc2 hc)) hS (lv_sub hl [3, 4, 2, 1, 0] rfl) ?_ ?_
      · intro h3 H locs ls hW hS hl
        have hl : lv_has ls 5 [(0, .int (nI e)), (1, .int (nI c)), (2, .ref a1), (3, .int (nI ((e - (e + 1) / 2) - (e - (e + 1) / 2)))), (4, .int (nI (1 + (e - (e + 1) / 2) % (c - 1))))] := hl
        have hia1 := hW
        have hia1 : isI D ci H a1 c (pA ((e + 1) / 2) c (e - (e + 1) / 2)) := hia1
        refine lv_iload_n hx hb dX1_parts_36 rfl (lv_at hl 3 rfl) ?_
        refine n_if_le (tgt := 72) hx hb (by omega) dX1_parts_37 (by decide) (fun h4 => ?_) (fun h4 => by omega)
        refine lv_aload_n hx hb dX1_parts_72 rfl (lv_at hl 2 rfl) ?_
        exact m_aret hx hb hr (Or.inr ⟨_, rfl⟩) hlocks hS ⟨_, rfl, lz_hia1, hia1.cg (par_n he hc2 hc)⟩ (by omega) (by omega) dX1_parts_73
      · intro i h6 h5 ih36 H locs ls hW hS hl
        have hl : lv_has ls 5 [(0, .int (nI e)), (1, .int (nI c)), (2, .ref a1), (3, .int (nI ((e - (e + 1) / 2) - i))), (4, .int (nI (1 + i % (c - 1))))] := hl
        have hia1 := hW
        have hia1 : isI D ci H a1 c (pA ((e + 1) / 2) c i) := hia1
        refine lv_iload_n hx hb dX1_parts_36 rfl (lv_at hl 3 rfl) ?_
        refine n_if_le (tgt := 72) hx hb (by omega) dX1_parts_37 (by decide) (fun h7 => by omega) (fun h7 => ?_)
        have hnx := pA_nx (c := c) (i := i) hc2 hc
        refine lv_aload_n hx hb dX1_parts_40 rfl (lv_at hl 2 rfl) ?_
        refine lv_iload hx hb dX1_parts_41 (lv_at hl 4 rfl) ?_
        refine lv_dup2_11 hx hb dX1_parts_43 rfl rfl ?_
        refine g_iald Fx hK hia1 0 rfl (i := 1 + i % (c - 1)) (by have := pA_nx (c := c) (i := i) hc2 hc; omega) (by omega) dX1_parts_44 ?_
        refine lv_iconst (v := nI 1) hx hb dX1_parts_45 (by decide) ?_
        refine lv_iadd hx hb dX1_parts_46 ?_
        refine g_iast Fx hK hia1 0 rfl lz_hia1 hS (i := 1 + i % (c - 1)) (by have := pA_nx (c := c) (i := i) hc2 hc; omega) (by omega) dX1_parts_47 (fun H locs hia1 kp hS => ?_)
        have hia1 : isI D ci H a1 c (pA ((e + 1) / 2) c (i + 1)) := hia1.cg (pA_s hc2 hc)
        refine lv_iload hx hb dX1_parts_48 (lv_at hl 4 rfl) ?_
        refine lv_iconst (v := nI 1) hx hb dX1_parts_50 (by decide) ?_
        refine r_iadd_n hx hb dX1_parts_51 ?_
        refine lv_iload_n hx hb dX1_parts_52 rfl (lv_at hl 1 rfl) ?_
        refine n_icmp_ne (tgt := 60) hx hb (by omega) (by omega) dX1_parts_53 (by decide) (fun h8 => ?_) (fun h8 => ?_)
        · refine lv_iload hx hb dX1_parts_60 (lv_at hl 4 rfl) ?_
          refine lv_iconst (v := nI 1) hx hb dX1_parts_62 (by decide) ?_
          refine r_iadd_n hx hb dX1_parts_63 ?_
          refine lv_istore (lv' := [(4, .int (nI ((1 + i % (c - 1)) + 1))), (0, .int (nI e)), (1, .int (nI c)), (2, .ref a1), (3, .int (nI ((e - (e + 1) / 2) - i)))]) hx hb dX1_parts_64 hl (by decide) rfl (fun ls hl => ?_)
          refine lv_iinc (v := nI ((e - (e + 1) / 2) - i - 1)) (lv' := [(3, .int (nI ((e - (e + 1) / 2) - i - 1))), (4, .int (nI ((1 + i % (c - 1)) + 1))), (0, .int (nI e)), (1, .int (nI c)), (2, .ref a1)]) hx hb dX1_parts_66 hl (k := 4) rfl (nI_dec (by omega)) (by decide) rfl (fun ls hl => ?_)
          refine lv_goto (tgt := 36) hx hb dX1_parts_69 (by decide) ?_
          have e3_ : nI ((e - (e + 1) / 2) - i - 1) = nI ((e - (e + 1) / 2) - (i + 1)) := congrArg nI (by omega)
          rw [e3_] at hl
          have e4_ : nI ((1 + i % (c - 1)) + 1) = nI (1 + (i + 1) % (c - 1)) := congrArg nI (by have h9 := pA_nx (c := c) (i := i) hc2 hc; first | exact (h9.2.1 h8).symm | exact (h9.2.2 h8).symm)
          rw [e4_] at hl
          exact ih36 (trivial) _ _ _ (hia1) hS (lv_sub hl [2, 3, 4, 0, 1] rfl)
        · refine lv_iconst (v := nI 1) hx hb dX1_parts_56 (by decide) ?_
          refine lv_goto (tgt := 64) hx hb dX1_parts_57 (by decide) ?_
          refine lv_istore (lv' := [(4, .int (nI 1)), (0, .int (nI e)), (1, .int (nI c)), (2, .ref a1), (3, .int (nI ((e - (e + 1) / 2) - i)))]) hx hb dX1_parts_64 hl (by decide) rfl (fun ls hl => ?_)
          refine lv_iinc (v := nI ((e - (e + 1) / 2) - i - 1)) (lv' := [(3, .int (nI ((e - (e + 1) / 2) - i - 1))), (4, .int (nI 1)), (0, .int (nI e)), (1, .int (nI c)), (2, .ref a1)]) hx hb dX1_parts_66 hl (k := 4) rfl (nI_dec (by omega)) (by decide) rfl (fun ls hl => ?_)
          refine lv_goto (tgt := 36) hx hb dX1_parts_69 (by decide) ?_
          have e3_ : nI ((e - (e + 1) / 2) - i - 1) = nI ((e - (e + 1) / 2) - (i + 1)) := congrArg nI (by omega)
          rw [e3_] at hl
          have e4_ : nI 1 = nI (1 + (i + 1) % (c - 1)) := congrArg nI (by have h9 := pA_nx (c := c) (i := i) hc2 hc; first | exact (h9.2.1 h8).symm | exact (h9.2.2 h8).symm)
          rw [e4_] at hl
          exact ih36 (trivial) _ _ _ (hia1) hS (lv_sub hl [2, 3, 4, 0, 1] rfl)
    · refine lv_iload_n hx hb dX1_parts_17 rfl (lv_at hl 1 rfl) ?_
      refine lv_goto (tgt := 26) hx hb dX1_parts_18 (by decide) ?_
      refine g_iast Fx hK hia1 0 rfl lz_hia1 hS (i := 0) (by omega) (by omega) dX1_parts_26 (fun H locs hia1 kp hS => ?_)
      have hc1 : c = 1 := by omega
      refine lv_iload_n hx hb dX1_parts_27 rfl (lv_at hl 1 rfl) ?_
      refine lv_aload_n hx hb dX1_parts_28 rfl (lv_at hl 0 rfl) ?_
      refine lv_iconst (v := nI 0) hx hb dX1_parts_29 (by decide) ?_
      refine g_iald Fx hK hia1 0 rfl (i := 0) (by omega) (by omega) dX1_parts_30 ?_
      refine r_as (nI e) rfl ?_
      refine r_isub_n hx hb (by omega) dX1_parts_31 ?_
      refine lv_istore_n (lv' := [(3, .int (nI (e - e))), (2, .ref a1), (0, .int (nI e)), (1, .int (nI c))]) hx hb dX1_parts_32 rfl hl (by decide) rfl (fun ls hl => ?_)
      refine lv_iconst (v := nI 1) hx hb dX1_parts_33 (by decide) ?_
      refine lv_istore (lv' := [(4, .int (nI 1)), (3, .int (nI (e - e))), (2, .ref a1), (0, .int (nI e)), (1, .int (nI c))]) hx hb dX1_parts_34 hl (by decide) rfl (fun ls hl => ?_)
      refine lv_iload_n hx hb dX1_parts_36 rfl (lv_at hl 1 rfl) ?_
      refine n_if_le (tgt := 72) hx hb (by omega) dX1_parts_37 (by decide) (fun h9 => ?_) (fun h9 => by omega)
      refine lv_aload_n hx hb dX1_parts_72 rfl (lv_at hl 2 rfl) ?_
      exact m_aret hx hb hr (Or.inr ⟨_, rfl⟩) hlocks hS ⟨_, rfl, lz_hia1, hia1.cg (par_1 (c := c) (e := e) (by omega) (fun j hj => (by rw [show j = 0 by omega]; rfl : upd (fun _ => 0) 0 (nI e) j = nI e)))⟩ (by omega) (by omega) dX1_parts_73
  · refine lv_aload_n hx hb dX1_parts_8 rfl (lv_at hl 0 rfl) ?_
    exact m_aret hx hb hr (Or.inr ⟨_, rfl⟩) hlocks hS ⟨_, rfl, lz_hia1, hia1.cg (fun j hj => by omega)⟩ (by omega) (by omega) dX1_parts_9
end SIMB
