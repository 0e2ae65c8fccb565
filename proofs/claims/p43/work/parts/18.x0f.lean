/-! FerryRights, VI: the mean -/
set_option maxHeartbeats 4000000 in
set_option maxRecDepth 100000 in
theorem m_X0_meanCoins (l : Launch) {D : va_G} {ci cz : ClassId} {cj : ClassId × ClassId} {q : Nat → Nat} {F P : Nat} {g : Nat → Nat → Int32} (hq : DQ q 8) (hF : F ≤ 6) (hP12 : P ≤ 12) : MetD lw_cs l yX0_meanCoins wsX0_meanCoins ({ frames := 0, cells := 0, slots := 0, locals := 0 } : Room) (va_Pc [.ref (q 0)] (B0 D ci cz cj q F P g)) (DQd (mC g P) (fun H => va_P D vwCl (w0 ci cz q F P g) H) (aw q 8)) 0 0 (aw q 8) := by
  refine MetD.ofD (cc := cX0_meanCoins) (maxL := 4) (ret := (some .double)) (by decide) rfl (Nat.le_of_ble_eq_true rfl) ?_
  intro pg en s m bl mt cd ls Fx hr hlocks hB hd0 hl
  obtain ⟨hP, hK, hE⟩ := hB
  have hl : lv_has ls 4 [(0, .ref (q 0))] := hl
  have Fx : CallFix pg m cd cX0_meanCoins 4 (s.setDrawn s.drawn) _ wsX0_meanCoins RX0 := Fx
  have hK : va_K D vwCl (tyL ci cz cj) (s.setDrawn s.drawn) := hK
  have hE := hE.dr s.drawn
  have hx := Fx.1
  have hb := Fx.2.1
  have hin : ∀ w ∈ wsX00, w ∈ wsX0_meanCoins := by decide +kernel
  have hS : va_S (aw q 8) s.heap s.heap [] := va_S.rf
  have hP : va_P D vwCl (w0 ci cz q F P g) s.heap := hP
  refine lv_iconst (v := nI 0) hx hb dX0_meanCoins_0 (by decide) ?_
  refine lv_istore_n (lv' := [(1, .int (nI 0)), (0, .ref (q 0))]) hx hb dX0_meanCoins_1 rfl hl (by decide) rfl (fun ls hl => ?_)
  refine lv_iconst (v := nI 0) hx hb dX0_meanCoins_2 (by decide) ?_
  refine lv_istore_n (lv' := [(2, .int (nI 0)), (1, .int (nI 0)), (0, .ref (q 0))]) hx hb dX0_meanCoins_3 rfl hl (by decide) rfl (fun ls hl => ?_)
  refine lv_iconst (v := nI 0) hx hb dX0_meanCoins_4 (by decide) ?_
  refine lv_istore_n (lv' := [(3, .int (nI 0)), (2, .int (nI 0)), (1, .int (nI 0)), (0, .ref (q 0))]) hx hb dX0_meanCoins_5 rfl hl (by decide) rfl (fun ls hl => ?_)
  refine rloop (nL := 4) (N := P) (fun _ => True) (fun i => [(0, .ref (q 0)), (1, .int (nI (cn (fun z => lv g z) i))), (2, .int (csm (fun z => lv g z) (fun z => g 4 z) i)), (3, .int (nI i))]) (trivial) (lv_sub hl [3, 2, 1, 0] rfl) ?_ ?_
  · intro h1 ls hl
    have hl : lv_has ls 4 [(0, .ref (q 0)), (1, .int (nI (cn (fun z => lv g z) P))), (2, .int (csm (fun z => lv g z) (fun z => g 4 z) P)), (3, .int (nI P))] := hl
    refine lv_iload_n hx hb dX0_meanCoins_6 rfl (lv_at hl 3 rfl) ?_
    refine lv_aload_n hx hb dX0_meanCoins_7 rfl (lv_at hl 0 rfl) ?_
    refine r_get Fx hin hK hP 0 rfl 4 (by decide) (by decide +kernel) rfl rfl dX0_meanCoins_8 ?_
    refine n_icmp_ge (tgt := 41) hx hb (by omega) (by omega) dX0_meanCoins_11 (by decide) (fun h2 => ?_) (fun h2 => by omega)
    have hcc : cn (fun z => lv g z) P ≤ 12 := Nat.le_trans (cn_le _ _) hP12
    refine lv_iload_n hx hb dX0_meanCoins_41 rfl (lv_at hl 1 rfl) ?_
    refine n_if_ne (tgt := 47) hx hb (by omega) dX0_meanCoins_42 (by decide) (fun h3 => ?_) (fun h3 => ?_)
    · refine lv_iload_n hx hb dX0_meanCoins_47 rfl (lv_at hl 2 rfl) ?_
      refine lv_i2d hx hb dX0_meanCoins_48 ?_
      refine lv_iload_n hx hb dX0_meanCoins_49 rfl (lv_at hl 1 rfl) ?_
      refine lv_i2d hx hb dX0_meanCoins_50 ?_
      refine lv_ddiv_any hd0 lw_bits hx hb dX0_meanCoins_51 (fun r d1 hal hd1 => ?_)
      exact d_dret hd1 hx hb hr hlocks hS (hP) (by simp [mC, sLiv, h2, h3]; exact hal) dX0_meanCoins_52
    · refine lv_dconst0 hx hb dX0_meanCoins_45 ?_
      exact d_dret hd0 hx hb hr hlocks hS (hP) (by simp [mC, sLiv, alike64_refl, h2, h3]) dX0_meanCoins_46
  · intro i h5 h4 ih6 ls hl
    have hl : lv_has ls 4 [(0, .ref (q 0)), (1, .int (nI (cn (fun z => lv g z) i))), (2, .int (csm (fun z => lv g z) (fun z => g 4 z) i)), (3, .int (nI i))] := hl
    refine lv_iload_n hx hb dX0_meanCoins_6 rfl (lv_at hl 3 rfl) ?_
    refine lv_aload_n hx hb dX0_meanCoins_7 rfl (lv_at hl 0 rfl) ?_
    refine r_get Fx hin hK hP 0 rfl 4 (by decide) (by decide +kernel) rfl rfl dX0_meanCoins_8 ?_
    refine n_icmp_ge (tgt := 41) hx hb (by omega) (by omega) dX0_meanCoins_11 (by decide) (fun h6 => by omega) (fun h6 => ?_)
    refine lv_aload_n hx hb dX0_meanCoins_14 rfl (lv_at hl 0 rfl) ?_
    refine r_get Fx hin hK hP 0 rfl 5 (by decide) (by decide +kernel) rfl rfl dX0_meanCoins_15 ?_
    refine lv_iload_n hx hb dX0_meanCoins_18 rfl (lv_at hl 3 rfl) ?_
    refine r_alive Fx hK hP (i := i) (by omega) (by omega) dX0_meanCoins_19 ?_
    refine b_if_eq (tgt := 35) hx hb dX0_meanCoins_20 (by decide) (fun h7 => ?_) (fun h7 => ?_)
    · refine lv_iinc (v := nI (i + 1)) (lv' := [(3, .int (nI (i + 1))), (0, .ref (q 0)), (1, .int (nI (cn (fun z => lv g z) i))), (2, .int (csm (fun z => lv g z) (fun z => g 4 z) i))]) hx hb dX0_meanCoins_35 hl (k := 3) rfl (nI_inc _ 1) (by decide) rfl (fun ls hl => ?_)
      refine lv_goto (tgt := 6) hx hb dX0_meanCoins_38 (by decide) ?_
      have e1_ : nI (cn (fun z => lv g z) i) = nI (cn (fun z => lv g z) (i + 1)) := by simp [cn, h5, h6, h7]
      rw [e1_] at hl
      have e2_ : csm (fun z => lv g z) (fun z => g 4 z) i = csm (fun z => lv g z) (fun z => g 4 z) (i + 1) := by simp [csm, h5, h6, h7]
      rw [e2_] at hl
      exact ih6 (trivial) _ (lv_sub hl [1, 2, 3, 0] rfl)
    · refine lv_iinc (v := nI (cn (fun z => lv g z) i + 1)) (lv' := [(1, .int (nI (cn (fun z => lv g z) i + 1))), (0, .ref (q 0)), (2, .int (csm (fun z => lv g z) (fun z => g 4 z) i)), (3, .int (nI i))]) hx hb dX0_meanCoins_23 hl (k := 1) rfl (nI_inc _ 1) (by decide) rfl (fun ls hl => ?_)
      refine lv_iload_n hx hb dX0_meanCoins_26 rfl (lv_at hl 2 rfl) ?_
      refine lv_aload_n hx hb dX0_meanCoins_27 rfl (lv_at hl 1 rfl) ?_
      refine r_get Fx hin hK hP 0 rfl 6 (by decide) (by decide +kernel) rfl rfl dX0_meanCoins_28 ?_
      refine lv_iload_n hx hb dX0_meanCoins_31 rfl (lv_at hl 3 rfl) ?_
      refine r_iald Fx hK hP 5 0 rfl rfl (i := i) (by omega) (by decide) dX0_meanCoins_32 ?_
      refine lv_iadd hx hb dX0_meanCoins_33 ?_
      refine lv_istore_n (lv' := [(2, .int ((csm (fun z => lv g z) (fun z => g 4 z) i) + (g 4 i))), (1, .int (nI (cn (fun z => lv g z) i + 1))), (0, .ref (q 0)), (3, .int (nI i))]) hx hb dX0_meanCoins_34 rfl hl (by decide) rfl (fun ls hl => ?_)
      refine lv_iinc (v := nI (i + 1)) (lv' := [(3, .int (nI (i + 1))), (2, .int ((csm (fun z => lv g z) (fun z => g 4 z) i) + (g 4 i))), (1, .int (nI (cn (fun z => lv g z) i + 1))), (0, .ref (q 0))]) hx hb dX0_meanCoins_35 hl (k := 3) rfl (nI_inc _ 1) (by decide) rfl (fun ls hl => ?_)
      refine lv_goto (tgt := 6) hx hb dX0_meanCoins_38 (by decide) ?_
      have e1_ : nI (cn (fun z => lv g z) i + 1) = nI (cn (fun z => lv g z) (i + 1)) := by simp [cn, h5, h6, h7]
      rw [e1_] at hl
      have e2_ : (csm (fun z => lv g z) (fun z => g 4 z) i) + (g 4 i) = csm (fun z => lv g z) (fun z => g 4 z) (i + 1) := by simp [csm, h5, h6, h7]
      rw [e2_] at hl
      exact ih6 (trivial) _ (lv_sub hl [3, 2, 1, 0] rfl)
