/-! PART 27: the Sim, I: what it is asked; handing on; getting. -/
section SIMA
theorem nI_leN {n c : Nat} (h : nI n ≤ nI c) (hc : c ≤ 64) (hn : n ≤ 64) : n ≤ c := (nI_leI (by omega) (by omega)).mp h
set_option maxHeartbeats 4000000 in
set_option maxRecDepth 100000 in
theorem m_X1_hasT (l : Launch) {D : va_G} {ci cz : ClassId} {cj : ClassId × ClassId} {A : Nat → Nat} {F P : Nat} {g : Nat → Nat → Int32} {T : Nat → Nat → Int32} (hF : F ≤ 6) (hP12 : P ≤ 12) (f : Nat) (w : Nat) (x : Int32) (ha0 : f < F) (ha1 : w < 4) : Met l yX1_has wsX1_has ({ frames := 0, cells := 0, slots := 0, locals := 0 } : Room) (va_Pc [.ref (A 0), .int (nI f), .int (nI w), .int x] (BT D ci cz cj A F P g T)) (RQ (some (.int (nI (cT (T (f * 4 + w)) x))))) 0 0 none_ := by
  refine Met.ofR (cc := cX1_has) (maxL := 9) (ret := (some .int)) (by decide) rfl (Nat.le_of_ble_eq_true rfl) ?_
  intro pg en s m bl mt cd ls Fx hr hlocks hB hl
  obtain ⟨hQ, hK, hO⟩ := hB
  have hQ : SP D ci cj A F P g T s.heap := hQ
  have hl : lv_has ls 9 [(0, .ref (A 0)), (1, .int (nI f)), (2, .int (nI w)), (3, .int x)] := hl
  have Fx : CallFix pg m cd cX1_has 9 s _ wsX1_has RX1 := Fx
  have hx := Fx.1
  have hb := Fx.2.1
  have hin : ∀ w ∈ wsX10, w ∈ wsX1_has := by decide +kernel
  refine lv_iconst (v := nI 0) hx hb dX1_has_0 (by decide) ?_
  refine lv_istore (lv' := [(4, .int (nI 0)), (0, .ref (A 0)), (1, .int (nI f)), (2, .int (nI w)), (3, .int x)]) hx hb dX1_has_1 hl (by decide) rfl (fun ls hl => ?_)
  refine lv_aload_n hx hb dX1_has_3 rfl (lv_at hl 1 rfl) ?_
  refine g_get Fx hin hK 1 hQ.o rfl 2 (by decide) (by decide +kernel) rfl dX1_has_4 ?_
  refine lv_iload_n hx hb dX1_has_7 rfl (lv_at hl 2 rfl) ?_
  refine g_aald Fx hK hQ.sh 3 rfl rfl (i := f) (by omega) (by omega) rfl dX1_has_8 ?_
  refine lv_iload_n hx hb dX1_has_9 rfl (lv_at hl 3 rfl) ?_
  refine g_aald Fx hK (hQ.fr (f := f) (by omega) hF) 2 rfl rfl (i := w) (by omega) (by decide) rfl dX1_has_10 ?_
  refine lv_astore (lv' := [(5, .ref (A (11 + (f * 4 + w)))), (4, .int (nI 0)), (0, .ref (A 0)), (1, .int (nI f)), (2, .int (nI w)), (3, .int x)]) hx hb dX1_has_11 hl (by decide) rfl (fun ls hl => ?_)
  refine lv_aload hx hb dX1_has_13 (lv_at hl 0 rfl) ?_
  refine g_alenI Fx hK (hQ.rw (f := f) (w := w) (by omega) (by omega) hF) 0 rfl dX1_has_15 ?_
  refine lv_istore (lv' := [(6, .int (nI 64)), (5, .ref (A (11 + (f * 4 + w)))), (4, .int (nI 0)), (0, .ref (A 0)), (1, .int (nI f)), (2, .int (nI w)), (3, .int x)]) hx hb dX1_has_16 hl (by decide) rfl (fun ls hl => ?_)
  refine lv_iconst (v := nI 0) hx hb dX1_has_18 (by decide) ?_
  refine lv_istore (lv' := [(7, .int (nI 0)), (6, .int (nI 64)), (5, .ref (A (11 + (f * 4 + w)))), (4, .int (nI 0)), (0, .ref (A 0)), (1, .int (nI f)), (2, .int (nI w)), (3, .int x)]) hx hb dX1_has_19 hl (by decide) rfl (fun ls hl => ?_)
  refine rloop (nL := 9) (N := 64) (fun _ => True) (fun i => [(0, .ref (A 0)), (1, .int (nI f)), (2, .int (nI w)), (3, .int x), (4, .int (nI (cn (fun z => decide (T (f * 4 + w) z = x)) i))), (5, .ref (A (11 + (f * 4 + w)))), (6, .int (nI 64)), (7, .int (nI i))]) (trivial) (lv_sub hl [4, 5, 6, 7, 3, 2, 1, 0] rfl) ?_ ?_
  · intro h1 ls hl
    have hl : lv_has ls 9 [(0, .ref (A 0)), (1, .int (nI f)), (2, .int (nI w)), (3, .int x), (4, .int (nI (cn (fun z => decide (T (f * 4 + w) z = x)) 64))), (5, .ref (A (11 + (f * 4 + w)))), (6, .int (nI 64)), (7, .int (nI 64))] := hl
    refine lv_iload hx hb dX1_has_21 (lv_at hl 7 rfl) ?_
    refine lv_iload hx hb dX1_has_23 (lv_at hl 6 rfl) ?_
    refine n_icmp_ge (tgt := 57) hx hb (by omega) (by omega) dX1_has_25 (by decide) (fun h2 => ?_) (fun h2 => by omega)
    refine lv_iload hx hb dX1_has_57 (lv_at hl 4 rfl) ?_
    exact r_iret hx hb hr hlocks (rfl) dX1_has_59
  · intro i h4 h3 ih21 ls hl
    have hl : lv_has ls 9 [(0, .ref (A 0)), (1, .int (nI f)), (2, .int (nI w)), (3, .int x), (4, .int (nI (cn (fun z => decide (T (f * 4 + w) z = x)) i))), (5, .ref (A (11 + (f * 4 + w)))), (6, .int (nI 64)), (7, .int (nI i))] := hl
    refine lv_iload hx hb dX1_has_21 (lv_at hl 7 rfl) ?_
    refine lv_iload hx hb dX1_has_23 (lv_at hl 6 rfl) ?_
    refine n_icmp_ge (tgt := 57) hx hb (by omega) (by omega) dX1_has_25 (by decide) (fun h5 => by omega) (fun h5 => ?_)
    refine lv_aload hx hb dX1_has_28 (lv_at hl 5 rfl) ?_
    refine lv_iload hx hb dX1_has_30 (lv_at hl 7 rfl) ?_
    refine g_iald Fx hK (hQ.rw (f := f) (w := w) (by omega) (by omega) hF) 0 rfl (i := i) (by omega) (by decide) dX1_has_32 ?_
    refine lv_istore (lv' := [(8, .int (T (f * 4 + w) i)), (0, .ref (A 0)), (1, .int (nI f)), (2, .int (nI w)), (3, .int x), (4, .int (nI (cn (fun z => decide (T (f * 4 + w) z = x)) i))), (5, .ref (A (11 + (f * 4 + w)))), (6, .int (nI 64)), (7, .int (nI i))]) hx hb dX1_has_33 hl (by decide) rfl (fun ls hl => ?_)
    refine lv_iload hx hb dX1_has_35 (lv_at hl 5 rfl) ?_
    refine lv_iload hx hb dX1_has_37 (lv_at hl 0 rfl) ?_
    refine lv_iload_n hx hb dX1_has_39 rfl (lv_at hl 4 rfl) ?_
    refine lv_icmp_ne (tgt := 47) hx hb dX1_has_40 (by decide) (fun h6 => ?_) (fun h6 => ?_)
    · refine lv_iconst (v := nI 0) hx hb dX1_has_47 (by decide) ?_
      refine r_iadd_n hx hb dX1_has_48 ?_
      refine lv_istore (lv' := [(4, .int (nI ((cn (fun z => decide (T (f * 4 + w) z = x)) i) + 0))), (8, .int (T (f * 4 + w) i)), (0, .ref (A 0)), (1, .int (nI f)), (2, .int (nI w)), (3, .int x), (5, .ref (A (11 + (f * 4 + w)))), (6, .int (nI 64)), (7, .int (nI i))]) hx hb dX1_has_49 hl (by decide) rfl (fun ls hl => ?_)
      refine lv_iinc (v := nI (i + 1)) (lv' := [(7, .int (nI (i + 1))), (4, .int (nI ((cn (fun z => decide (T (f * 4 + w) z = x)) i) + 0))), (8, .int (T (f * 4 + w) i)), (0, .ref (A 0)), (1, .int (nI f)), (2, .int (nI w)), (3, .int x), (5, .ref (A (11 + (f * 4 + w)))), (6, .int (nI 64))]) hx hb dX1_has_51 hl (k := 8) rfl (nI_inc _ 1) (by decide) rfl (fun ls hl => ?_)
      refine lv_goto (tgt := 21) hx hb dX1_has_54 (by decide) ?_
      have e4_ : nI ((cn (fun z => decide (T (f * 4 + w) z = x)) i) + 0) = nI (cn (fun z => decide (T (f * 4 + w) z = x)) (i + 1)) := congrArg nI (by first | exact (cn_y (decide_eq_true h6)).symm | exact (cn_n (decide_eq_false h6)).symm)
      rw [e4_] at hl
      exact ih21 (trivial) _ (lv_sub hl [3, 4, 5, 6, 1, 7, 8, 0] rfl)
    · refine lv_iconst (v := nI 1) hx hb dX1_has_43 (by decide) ?_
      refine lv_goto (tgt := 48) hx hb dX1_has_44 (by decide) ?_
      refine r_iadd_n hx hb dX1_has_48 ?_
      refine lv_istore (lv' := [(4, .int (nI ((cn (fun z => decide (T (f * 4 + w) z = x)) i) + 1))), (8, .int (T (f * 4 + w) i)), (0, .ref (A 0)), (1, .int (nI f)), (2, .int (nI w)), (3, .int x), (5, .ref (A (11 + (f * 4 + w)))), (6, .int (nI 64)), (7, .int (nI i))]) hx hb dX1_has_49 hl (by decide) rfl (fun ls hl => ?_)
      refine lv_iinc (v := nI (i + 1)) (lv' := [(7, .int (nI (i + 1))), (4, .int (nI ((cn (fun z => decide (T (f * 4 + w) z = x)) i) + 1))), (8, .int (T (f * 4 + w) i)), (0, .ref (A 0)), (1, .int (nI f)), (2, .int (nI w)), (3, .int x), (5, .ref (A (11 + (f * 4 + w)))), (6, .int (nI 64))]) hx hb dX1_has_51 hl (k := 8) rfl (nI_inc _ 1) (by decide) rfl (fun ls hl => ?_)
      refine lv_goto (tgt := 21) hx hb dX1_has_54 (by decide) ?_
      have e4_ : nI ((cn (fun z => decide (T (f * 4 + w) z = x)) i) + 1) = nI (cn (fun z => decide (T (f * 4 + w) z = x)) (i + 1)) := congrArg nI (by first | exact (cn_y (decide_eq_true h6)).symm | exact (cn_n (decide_eq_false h6)).symm)
      rw [e4_] at hl
      exact ih21 (trivial) _ (lv_sub hl [3, 4, 5, 6, 1, 7, 8, 0] rfl)
theorem m_X1_has (l : Launch) {D : va_G} {ci cz : ClassId} {cj : ClassId × ClassId} {A : Nat → Nat} {F P : Nat} {g : Nat → Nat → Int32} (hF : F ≤ 6) (hP12 : P ≤ 12) (f w k : Nat) (ha0 : f < F) (ha1 : w < 4) (ha2 : k < P) : Met l yX1_has wsX1_has ({ frames := 0, cells := 0, slots := 0, locals := 0 } : Room) (va_Pc [.ref (A 0), .int (nI f), .int (nI w), .int (nI k)] (BX D ci cz cj A F P g)) (RQ (some (.int (own g f w k)))) 0 0 none_ := by
  refine Met.ex (C9 := fun T => RT F P g T) (Pr := fun T => BT D ci cz cj A F P g T) (fun U h => by obtain ⟨⟨T, h1, h2⟩, h3⟩ := h; exact ⟨T, h1, h2, h3⟩) (fun T hR => ?_)
  rw [(hR f w ha0 ha1).2 k ha2]
  exact m_X1_hasT l hF hP12 f w (nI k) ha0 ha1
theorem m_X1_hasC (l : Launch) {D : va_G} {ci cz : ClassId} {cj : ClassId × ClassId} {A : Nat → Nat} {F P : Nat} {g : Nat → Nat → Int32} (hF : F ≤ 6) (hP12 : P ≤ 12) (f w : Nat) (ha0 : f < F) (ha1 : w < 4) : Met l yX1_has wsX1_has ({ frames := 0, cells := 0, slots := 0, locals := 0 } : Room) (va_Pc [.ref (A 0), .int (nI f), .int (nI w), .int (-1)] (BX D ci cz cj A F P g)) (RQ (some (.int (sCro g P f w)))) 0 0 none_ := by
  refine Met.ex (C9 := fun T => RT F P g T) (Pr := fun T => BT D ci cz cj A F P g T) (fun U h => by obtain ⟨⟨T, h1, h2⟩, h3⟩ := h; exact ⟨T, h1, h2, h3⟩) (fun T hR => ?_)
  rw [hR.cro hP12 ha0 ha1]
  exact m_X1_hasT l hF hP12 f w (-1) ha0 ha1
set_option maxHeartbeats 4000000 in
set_option maxRecDepth 100000 in
theorem m_X1_value (l : Launch) {D : va_G} {ci cz : ClassId} {cj : ClassId × ClassId} {A : Nat → Nat} {F P : Nat} {g : Nat → Nat → Int32} (hF : F ≤ 6) (hP12 : P ≤ 12) (f : Nat) (w : Nat) (ha0 : f < F) (ha1 : w < 4) : Met l yX1_value wsX1_value ({ frames := 0, cells := 0, slots := 0, locals := 0 } : Room) (va_Pc [.ref (A 0), .int (nI f), .int (nI w)] (BX D ci cz cj A F P g)) (RQ (some (.int (sWor g f w)))) 0 0 none_ := by
  refine Met.ofR (cc := cX1_value) (maxL := 3) (ret := (some .int)) (by decide) rfl (Nat.le_of_ble_eq_true rfl) ?_
  intro pg en s m bl mt cd ls Fx hr hlocks hB hl
  obtain ⟨hQX, hK, hO⟩ := hB
  obtain ⟨T, hR, hQ⟩ := hQX
  have hl : lv_has ls 3 [(0, .ref (A 0)), (1, .int (nI f)), (2, .int (nI w))] := hl
  have Fx : CallFix pg m cd cX1_value 3 s _ wsX1_value RX1 := Fx
  have hx := Fx.1
  have hb := Fx.2.1
  have hin : ∀ w ∈ wsX10, w ∈ wsX1_value := by decide +kernel
  refine lv_iconst (v := nI 1) hx hb dX1_value_0 (by decide) ?_
  refine lv_aload_n hx hb dX1_value_1 rfl (lv_at hl 0 rfl) ?_
  refine g_get Fx hin hK 1 hQ.o rfl 0 (by decide) (by decide +kernel) rfl dX1_value_2 ?_
  refine lv_iload_n hx hb dX1_value_5 rfl (lv_at hl 1 rfl) ?_
  refine g_iald Fx hK hQ.to 0 rfl (i := f) (by omega) (by omega) dX1_value_6 ?_
  refine lv_iload_n hx hb dX1_value_7 rfl (lv_at hl 2 rfl) ?_
  refine n_if_ne (tgt := 15) hx hb (by omega) dX1_value_8 (by decide) (fun h1 => ?_) (fun h1 => ?_)
  · refine lv_iload_n hx hb dX1_value_15 rfl (lv_at hl 2 rfl) ?_
    refine lv_iconst (v := nI 1) hx hb dX1_value_16 (by decide) ?_
    refine n_icmp_ne (tgt := 24) hx hb (by omega) (by omega) dX1_value_17 (by decide) (fun h2 => ?_) (fun h2 => ?_)
    · refine lv_iload_n hx hb dX1_value_24 rfl (lv_at hl 2 rfl) ?_
      refine lv_iconst (v := nI 2) hx hb dX1_value_25 (by decide) ?_
      refine n_icmp_ne (tgt := 33) hx hb (by omega) (by omega) dX1_value_26 (by decide) (fun h3 => ?_) (fun h3 => ?_)
      · refine lv_iconst (v := nI 1) hx hb dX1_value_33 (by decide) ?_
        refine lv_imul hx hb dX1_value_34 ?_
        refine lv_iadd hx hb dX1_value_35 ?_
        exact r_iret hx hb hr hlocks (by rcases (show w = 0 ∨ w = 1 ∨ w = 2 ∨ w = 3 by omega) with rfl | rfl | rfl | rfl <;> first | (exfalso; omega) | exact Int32.add_comm _ _) dX1_value_36
      · refine lv_iconst (v := nI 3) hx hb dX1_value_29 (by decide) ?_
        refine lv_goto (tgt := 34) hx hb dX1_value_30 (by decide) ?_
        refine lv_imul hx hb dX1_value_34 ?_
        refine lv_iadd hx hb dX1_value_35 ?_
        exact r_iret hx hb hr hlocks (by rcases (show w = 0 ∨ w = 1 ∨ w = 2 ∨ w = 3 by omega) with rfl | rfl | rfl | rfl <;> first | (exfalso; omega) | exact Int32.add_comm _ _) dX1_value_36
    · refine lv_iconst (v := nI 4) hx hb dX1_value_20 (by decide) ?_
      refine lv_goto (tgt := 34) hx hb dX1_value_21 (by decide) ?_
      refine lv_imul hx hb dX1_value_34 ?_
      refine lv_iadd hx hb dX1_value_35 ?_
      exact r_iret hx hb hr hlocks (by rcases (show w = 0 ∨ w = 1 ∨ w = 2 ∨ w = 3 by omega) with rfl | rfl | rfl | rfl <;> first | (exfalso; omega) | exact Int32.add_comm _ _) dX1_value_36
  · refine lv_iconst (v := nI 2) hx hb dX1_value_11 (by decide) ?_
    refine lv_goto (tgt := 34) hx hb dX1_value_12 (by decide) ?_
    refine lv_imul hx hb dX1_value_34 ?_
    refine lv_iadd hx hb dX1_value_35 ?_
    exact r_iret hx hb hr hlocks (by rcases (show w = 0 ∨ w = 1 ∨ w = 2 ∨ w = 3 by omega) with rfl | rfl | rfl | rfl <;> first | (exfalso; omega) | exact Int32.add_comm _ _) dX1_value_36
set_option maxHeartbeats 4000000 in
set_option maxRecDepth 100000 in
theorem m_X1_of (l : Launch) {D : va_G} {ci cz : ClassId} {cj : ClassId × ClassId} {A : Nat → Nat} {F P : Nat} {g : Nat → Nat → Int32} (hF : F ≤ 6) (hP12 : P ≤ 12) (f : Nat) (k : Nat) (ha0 : f < F) (ha1 : k < P) : Met l yX1_of wsX1_of ({ frames := 1, cells := 0, slots := 0, locals := 28 } : Room) (va_Pc [.ref (A 0), .int (nI f), .int (nI k)] (BX D ci cz cj A F P g)) (RQ (some (.int (sFer g f k)))) 0 0 none_ := by
  refine Met.ofR (cc := cX1_of) (maxL := 5) (ret := (some .int)) (by decide) rfl (Nat.le_of_ble_eq_true rfl) ?_
  intro pg en s m bl mt cd ls Fx hr hlocks hB hl
  obtain ⟨hQX, hK, hO⟩ := hB
  have hl : lv_has ls 5 [(0, .ref (A 0)), (1, .int (nI f)), (2, .int (nI k))] := hl
  have Fx : CallFix pg m cd cX1_of 5 s _ wsX1_of RX1 := Fx
  have hx := Fx.1
  have hb := Fx.2.1
  refine lv_iconst (v := nI 0) hx hb dX1_of_0 (by decide) ?_
  refine lv_istore_n (lv' := [(3, .int (nI 0)), (0, .ref (A 0)), (1, .int (nI f)), (2, .int (nI k))]) hx hb dX1_of_1 rfl hl (by decide) rfl (fun ls hl => ?_)
  refine lv_iconst (v := nI 0) hx hb dX1_of_2 (by decide) ?_
  refine lv_istore (lv' := [(4, .int (nI 0)), (3, .int (nI 0)), (0, .ref (A 0)), (1, .int (nI f)), (2, .int (nI k))]) hx hb dX1_of_3 hl (by decide) rfl (fun ls hl => ?_)
  refine rloop (nL := 5) (N := 4) (fun _ => True) (fun i => [(0, .ref (A 0)), (1, .int (nI f)), (2, .int (nI k)), (3, .int (sm (fun z => own g f z k) i)), (4, .int (nI i))]) (trivial) (lv_sub hl [2, 3, 4, 1, 0] rfl) ?_ ?_
  · intro h1 ls hl
    have hl : lv_has ls 5 [(0, .ref (A 0)), (1, .int (nI f)), (2, .int (nI k)), (3, .int (sm (fun z => own g f z k) 4)), (4, .int (nI 4))] := hl
    refine lv_iload hx hb dX1_of_5 (lv_at hl 4 rfl) ?_
    refine lv_iconst (v := nI 4) hx hb dX1_of_7 (by decide) ?_
    refine n_icmp_ge (tgt := 28) hx hb (by omega) (by omega) dX1_of_8 (by decide) (fun h2 => ?_) (fun h2 => by omega)
    refine lv_iload_n hx hb dX1_of_28 rfl (lv_at hl 3 rfl) ?_
    exact r_iret hx hb hr hlocks (rfl) dX1_of_29
  · intro i h4 h3 ih5 ls hl
    have hl : lv_has ls 5 [(0, .ref (A 0)), (1, .int (nI f)), (2, .int (nI k)), (3, .int (sm (fun z => own g f z k) i)), (4, .int (nI i))] := hl
    refine lv_iload hx hb dX1_of_5 (lv_at hl 4 rfl) ?_
    refine lv_iconst (v := nI 4) hx hb dX1_of_7 (by decide) ?_
    refine n_icmp_ge (tgt := 28) hx hb (by omega) (by omega) dX1_of_8 (by decide) (fun h5 => by omega) (fun h5 => ?_)
    refine lv_iload_n hx hb dX1_of_11 rfl (lv_at hl 3 rfl) ?_
    refine lv_aload_n hx hb dX1_of_12 rfl (lv_at hl 0 rfl) ?_
    refine lv_iload_n hx hb dX1_of_13 rfl (lv_at hl 1 rfl) ?_
    refine lv_iload hx hb dX1_of_14 (lv_at hl 4 rfl) ?_
    refine lv_iload_n hx hb dX1_of_16 rfl (lv_at hl 2 rfl) ?_
    refine r_callR (rest := [.int (sm (fun z => own g f z k) i)]) Fx (m_X1_has l (D := D) (ci := ci) (cz := cz) (cj := cj) (A := A) (F := F) (P := P) (g := g) hF hP12 f i k (by omega) (by omega) (by omega)) (cwV 3 Fx.2.2.2.2 gX1_of_X1_has rfl rfl rfl (by decide +kernel) ⟨Nat.le_of_ble_eq_true rfl, Nat.le_of_ble_eq_true rfl⟩) BX.bl (hQX.rc hK) (BX.at hQX hK hO) rfl hl.1 rfl (Nat.le_of_ble_eq_true rfl) dX1_of_17 ⟨Nat.zero_le _, Nat.zero_le _⟩ ?_
    refine lv_iadd hx hb dX1_of_20 ?_
    refine lv_istore_n (lv' := [(3, .int ((sm (fun z => own g f z k) i) + (own g f i k))), (0, .ref (A 0)), (1, .int (nI f)), (2, .int (nI k)), (4, .int (nI i))]) hx hb dX1_of_21 rfl hl (by decide) rfl (fun ls hl => ?_)
    refine lv_iinc (v := nI (i + 1)) (lv' := [(4, .int (nI (i + 1))), (3, .int ((sm (fun z => own g f z k) i) + (own g f i k))), (0, .ref (A 0)), (1, .int (nI f)), (2, .int (nI k))]) hx hb dX1_of_22 hl (k := 4) rfl (nI_inc _ 1) (by decide) rfl (fun ls hl => ?_)
    refine lv_goto (tgt := 5) hx hb dX1_of_25 (by decide) ?_
    exact ih5 (trivial) _ (lv_sub hl [2, 3, 4, 1, 0] rfl)
set_option maxHeartbeats 4000000 in
set_option maxRecDepth 100000 in
theorem m_X1_master (l : Launch) {D : va_G} {ci cz : ClassId} {cj : ClassId × ClassId} {A : Nat → Nat} {F P : Nat} {g : Nat → Nat → Int32} (hF : F ≤ 6) (hP12 : P ≤ 12) (f : Nat) (ha0 : f < F) (ha1 : Iv F P g) : Met l yX1_master wsX1_master ({ frames := 2, cells := 0, slots := 0, locals := 52 } : Room) (va_Pc [.ref (A 0), .int (nI f)] (BX D ci cz cj A F P g)) (RQ (some (.int (sMas g P f)))) 0 0 none_ := by
  refine Met.ofR (cc := cX1_master) (maxL := 4) (ret := (some .int)) (by decide) rfl (Nat.le_of_ble_eq_true rfl) ?_
  intro pg en s m bl mt cd ls Fx hr hlocks hB hl
  obtain ⟨hQX, hK, hO⟩ := hB
  obtain ⟨T, hR, hQ⟩ := hQX
  have hl : lv_has ls 4 [(0, .ref (A 0)), (1, .int (nI f))] := hl
  have Fx : CallFix pg m cd cX1_master 4 s _ wsX1_master RX1 := Fx
  have hx := Fx.1
  have hb := Fx.2.1
  have hin : ∀ w ∈ wsX10, w ∈ wsX1_master := by decide +kernel
  refine lv_iconst (v := -1) hx hb dX1_master_0 (by decide) ?_
  refine lv_istore_n (lv' := [(2, .int (-1)), (0, .ref (A 0)), (1, .int (nI f))]) hx hb dX1_master_1 rfl hl (by decide) rfl (fun ls hl => ?_)
  refine lv_iconst (v := nI 0) hx hb dX1_master_2 (by decide) ?_
  refine lv_istore_n (lv' := [(3, .int (nI 0)), (2, .int (-1)), (0, .ref (A 0)), (1, .int (nI f))]) hx hb dX1_master_3 rfl hl (by decide) rfl (fun ls hl => ?_)
  refine rloop (nL := 4) (N := P) (fun _ => True) (fun i => [(0, .ref (A 0)), (1, .int (nI f)), (2, .int (lm (fun z => !decide (sFer g f z < nI 129)) i)), (3, .int (nI i))]) (trivial) (lv_sub hl [2, 3, 1, 0] rfl) ?_ ?_
  · intro h1 ls hl
    have hl : lv_has ls 4 [(0, .ref (A 0)), (1, .int (nI f)), (2, .int (lm (fun z => !decide (sFer g f z < nI 129)) P)), (3, .int (nI P))] := hl
    refine lv_iload_n hx hb dX1_master_4 rfl (lv_at hl 3 rfl) ?_
    refine lv_aload_n hx hb dX1_master_5 rfl (lv_at hl 0 rfl) ?_
    refine g_get Fx hin hK 1 hQ.o rfl 3 (by decide) (by decide +kernel) rfl dX1_master_6 ?_
    refine g_alenR Fx hK hQ.pe 2 rfl dX1_master_9 ?_
    refine n_icmp_ge (tgt := 33) hx hb (by omega) (by omega) dX1_master_10 (by decide) (fun h2 => ?_) (fun h2 => by omega)
    refine lv_iload_n hx hb dX1_master_33 rfl (lv_at hl 2 rfl) ?_
    exact r_iret hx hb hr hlocks (mas_lm ha1 (by omega)) dX1_master_34
  · intro i h4 h3 ih4 ls hl
    have hl : lv_has ls 4 [(0, .ref (A 0)), (1, .int (nI f)), (2, .int (lm (fun z => !decide (sFer g f z < nI 129)) i)), (3, .int (nI i))] := hl
    refine lv_iload_n hx hb dX1_master_4 rfl (lv_at hl 3 rfl) ?_
    refine lv_aload_n hx hb dX1_master_5 rfl (lv_at hl 0 rfl) ?_
    refine g_get Fx hin hK 1 hQ.o rfl 3 (by decide) (by decide +kernel) rfl dX1_master_6 ?_
    refine g_alenR Fx hK hQ.pe 2 rfl dX1_master_9 ?_
    refine n_icmp_ge (tgt := 33) hx hb (by omega) (by omega) dX1_master_10 (by decide) (fun h5 => by omega) (fun h5 => ?_)
    refine lv_aload_n hx hb dX1_master_13 rfl (lv_at hl 0 rfl) ?_
    refine lv_iload_n hx hb dX1_master_14 rfl (lv_at hl 1 rfl) ?_
    refine lv_iload_n hx hb dX1_master_15 rfl (lv_at hl 3 rfl) ?_
    refine r_callR (rest := []) Fx (m_X1_of l (D := D) (ci := ci) (cz := cz) (cj := cj) (A := A) (F := F) (P := P) (g := g) hF hP12 f i (by omega) (by omega)) (cwV 2 Fx.2.2.2.2 gX1_master_X1_of rfl rfl rfl (by decide +kernel) ⟨Nat.le_of_ble_eq_true rfl, Nat.le_of_ble_eq_true rfl⟩) BX.bl (hQ.rc hK) (BX.at ⟨_, hR, hQ⟩ hK hO) rfl hl.1 rfl (Nat.le_of_ble_eq_true rfl) dX1_master_16 ⟨Nat.zero_le _, Nat.zero_le _⟩ ?_
    refine lv_sipush (v := nI 129) hx hb dX1_master_19 (by decide) ?_
    refine lv_icmp_lt (tgt := 27) hx hb dX1_master_22 (by decide) (fun h6 => ?_) (fun h6 => ?_)
    · refine lv_iinc (v := nI (i + 1)) (lv' := [(3, .int (nI (i + 1))), (0, .ref (A 0)), (1, .int (nI f)), (2, .int (lm (fun z => !decide (sFer g f z < nI 129)) i))]) hx hb dX1_master_27 hl (k := 3) rfl (nI_inc _ 1) (by decide) rfl (fun ls hl => ?_)
      refine lv_goto (tgt := 4) hx hb dX1_master_30 (by decide) ?_
      have e2_ : lm (fun z => !decide (sFer g f z < nI 129)) i = lm (fun z => !decide (sFer g f z < nI 129)) (i + 1) := by simp [lm, h4, h5, h6, Int32.not_le.mpr h6]
      rw [e2_] at hl
      exact ih4 (trivial) _ (lv_sub hl [1, 2, 3, 0] rfl)
    · have h6 := Int32.not_lt.mp h6
      refine lv_iload_n hx hb dX1_master_25 rfl (lv_at hl 3 rfl) ?_
      refine lv_istore_n (lv' := [(2, .int (nI i)), (0, .ref (A 0)), (1, .int (nI f)), (3, .int (nI i))]) hx hb dX1_master_26 rfl hl (by decide) rfl (fun ls hl => ?_)
      refine lv_iinc (v := nI (i + 1)) (lv' := [(3, .int (nI (i + 1))), (2, .int (nI i)), (0, .ref (A 0)), (1, .int (nI f))]) hx hb dX1_master_27 hl (k := 3) rfl (nI_inc _ 1) (by decide) rfl (fun ls hl => ?_)
      refine lv_goto (tgt := 4) hx hb dX1_master_30 (by decide) ?_
      have e2_ : nI i = lm (fun z => !decide (sFer g f z < nI 129)) (i + 1) := by simp [lm, h4, h5, h6, Int32.not_lt.mpr h6]
      rw [e2_] at hl
      exact ih4 (trivial) _ (lv_sub hl [2, 3, 1, 0] rfl)
set_option maxHeartbeats 4000000 in
set_option maxRecDepth 100000 in
theorem m_X1_canBuy (l : Launch) {D : va_G} {ci cz : ClassId} {cj : ClassId × ClassId} {A : Nat → Nat} {F P : Nat} {g : Nat → Nat → Int32} (hF : F ≤ 6) (hP12 : P ≤ 12) (b : Nat) (s' : Nat) (f : Nat) (w : Nat) (ha0 : b < P) (ha1 : s' < P) (ha2 : f < F) (ha3 : w < 4) (ha4 : Iv F P g) (ha5 : ∀ k, k < P → g 3 k = 0 ∨ g 3 k = 1) : Met l yX1_canBuy wsX1_canBuy ({ frames := 1, cells := 0, slots := 0, locals := 28 } : Room) (va_Pc [.ref (A 0), .int (nI b), .int (nI s'), .int (nI f), .int (nI w)] (BX D ci cz cj A F P g)) (RQ (some (.int (bI (sMay g P b s' f w))))) 0 0 none_ := by
  refine Met.ofR (cc := cX1_canBuy) (maxL := 10) (ret := (some .boolean)) (by decide) rfl (Nat.le_of_ble_eq_true rfl) ?_
  intro pg en s m bl mt cd ls Fx hr hlocks hB hl
  obtain ⟨hQX, hK, hO⟩ := hB
  obtain ⟨T, hR, hQ⟩ := hQX
  have hl : lv_has ls 10 [(0, .ref (A 0)), (1, .int (nI b)), (2, .int (nI s')), (3, .int (nI f)), (4, .int (nI w))] := hl
  have Fx : CallFix pg m cd cX1_canBuy 10 s _ wsX1_canBuy RX1 := Fx
  have hx := Fx.1
  have hb := Fx.2.1
  have hin : ∀ w ∈ wsX10, w ∈ wsX1_canBuy := by decide +kernel
  have hI := ha4
  refine lv_aload_n hx hb dX1_canBuy_0 rfl (lv_at hl 0 rfl) ?_
  refine lv_iload_n hx hb dX1_canBuy_1 rfl (lv_at hl 3 rfl) ?_
  refine lv_iload hx hb dX1_canBuy_2 (lv_at hl 4 rfl) ?_
  refine lv_iload_n hx hb dX1_canBuy_4 rfl (lv_at hl 2 rfl) ?_
  refine r_callR (rest := []) Fx (m_X1_has l (D := D) (ci := ci) (cz := cz) (cj := cj) (A := A) (F := F) (P := P) (g := g) hF hP12 f w s' (by omega) (by omega) (by omega)) (cwV 3 Fx.2.2.2.2 gX1_canBuy_X1_has rfl rfl rfl (by decide +kernel) ⟨Nat.le_of_ble_eq_true rfl, Nat.le_of_ble_eq_true rfl⟩) BX.bl (hQ.rc hK) (BX.at ⟨_, hR, hQ⟩ hK hO) rfl hl.1 rfl (Nat.le_of_ble_eq_true rfl) dX1_canBuy_5 ⟨Nat.zero_le _, Nat.zero_le _⟩ ?_
  refine lv_aload_n hx hb dX1_canBuy_8 rfl (lv_at hl 0 rfl) ?_
  refine lv_iload_n hx hb dX1_canBuy_9 rfl (lv_at hl 3 rfl) ?_
  refine lv_iload hx hb dX1_canBuy_10 (lv_at hl 4 rfl) ?_
  refine r_callR (rest := [.int (own g f w s')]) Fx (m_X1_value l (D := D) (ci := ci) (cz := cz) (cj := cj) (A := A) (F := F) (P := P) (g := g) hF hP12 f w (by omega) (by omega)) (cwV 2 Fx.2.2.2.2 gX1_canBuy_X1_value rfl rfl rfl (by decide +kernel) ⟨Nat.le_of_ble_eq_true rfl, Nat.le_of_ble_eq_true rfl⟩) BX.bl (hQ.rc hK) (BX.at ⟨_, hR, hQ⟩ hK hO) rfl hl.1 rfl (Nat.le_of_ble_eq_true rfl) dX1_canBuy_12 ⟨Nat.zero_le _, Nat.zero_le _⟩ ?_
  refine lv_imul hx hb dX1_canBuy_15 ?_
  refine r_as (sPri g f w s') rfl ?_
  refine lv_istore (lv' := [(5, .int (sPri g f w s')), (0, .ref (A 0)), (1, .int (nI b)), (2, .int (nI s')), (3, .int (nI f)), (4, .int (nI w))]) hx hb dX1_canBuy_16 hl (by decide) rfl (fun ls hl => ?_)
  refine lv_iload_n hx hb dX1_canBuy_18 rfl (lv_at hl 2 rfl) ?_
  refine lv_iload_n hx hb dX1_canBuy_19 rfl (lv_at hl 3 rfl) ?_
  refine n_icmp_eq (tgt := 54) hx hb (by omega) (by omega) dX1_canBuy_20 (by decide) (fun h1 => ?_) (fun h1 => ?_)
  · refine lv_iconst (v := nI 0) hx hb dX1_canBuy_54 (by decide) ?_
    exact r_zret hx hb hr hlocks (bI_f (by first | exact may_1 h1 | exact may_2 hI ha2 ha3 (by omega) h1 | exact may_3 h1 | exact may_4 h1)) dX1_canBuy_55
  · refine lv_iload hx hb dX1_canBuy_23 (lv_at hl 0 rfl) ?_
    refine lv_iconst (v := nI 1) hx hb dX1_canBuy_25 (by decide) ?_
    refine lv_icmp_lt (tgt := 54) hx hb dX1_canBuy_26 (by decide) (fun h2 => ?_) (fun h2 => ?_)
    · refine lv_iconst (v := nI 0) hx hb dX1_canBuy_54 (by decide) ?_
      exact r_zret hx hb hr hlocks (bI_f (by first | exact may_1 h2 | exact may_2 hI ha2 ha3 (by omega) h2 | exact may_3 h2 | exact may_4 h2)) dX1_canBuy_55
    · have h2 := Int32.not_lt.mp h2
      refine lv_aload_n hx hb dX1_canBuy_29 rfl (lv_at hl 1 rfl) ?_
      refine g_get Fx hin hK 1 hQ.o rfl 3 (by decide) (by decide +kernel) rfl dX1_canBuy_30 ?_
      refine lv_iload_n hx hb dX1_canBuy_33 rfl (lv_at hl 2 rfl) ?_
      refine g_aald Fx hK hQ.pe 2 rfl rfl (i := b) (by omega) (by omega) rfl dX1_canBuy_34 ?_
      refine lv_iconst (v := nI 3) hx hb dX1_canBuy_35 (by decide) ?_
      refine g_iald Fx hK (hQ.pp (k := b) (by omega)) 0 rfl (i := 3) (by decide) (by decide) dX1_canBuy_36 ?_
      refine r_as (g 3 b) rfl ?_
      refine lv_iconst (v := nI 1) hx hb dX1_canBuy_37 (by decide) ?_
      refine lv_icmp_eq (tgt := 54) hx hb dX1_canBuy_38 (by decide) (fun h3 => ?_) (fun h3 => ?_)
      · refine lv_iconst (v := nI 0) hx hb dX1_canBuy_54 (by decide) ?_
        exact r_zret hx hb hr hlocks (bI_f (by first | exact may_1 h3 | exact may_2 hI ha2 ha3 (by omega) h3 | exact may_3 h3 | exact may_4 h3)) dX1_canBuy_55
      · refine lv_aload_n hx hb dX1_canBuy_41 rfl (lv_at hl 1 rfl) ?_
        refine g_get Fx hin hK 1 hQ.o rfl 3 (by decide) (by decide +kernel) rfl dX1_canBuy_42 ?_
        refine lv_iload_n hx hb dX1_canBuy_45 rfl (lv_at hl 2 rfl) ?_
        refine g_aald Fx hK hQ.pe 2 rfl rfl (i := b) (by omega) (by omega) rfl dX1_canBuy_46 ?_
        refine lv_iconst (v := nI 0) hx hb dX1_canBuy_47 (by decide) ?_
        refine g_iald Fx hK (hQ.pp (k := b) (by omega)) 0 rfl (i := 0) (by decide) (by decide) dX1_canBuy_48 ?_
        refine r_as (g 4 b) rfl ?_
        refine lv_iload hx hb dX1_canBuy_49 (lv_at hl 0 rfl) ?_
        refine lv_icmp_ge (tgt := 56) hx hb dX1_canBuy_51 (by decide) (fun h4 => ?_) (fun h4 => ?_)
        · have c1 : b ≠ s' := h1
          have c2 := own_ne hI ha2 ha3 (show s' < 12 by omega) (Int32.not_lt.mpr h2)
          have c3 := lv_01 (ha5 b ha0) h3
          have c4 : ¬ g 4 b < sPri g f w s' := Int32.not_lt.mpr h4
          refine lv_aload_n hx hb dX1_canBuy_56 rfl (lv_at hl 1 rfl) ?_
          refine lv_iload_n hx hb dX1_canBuy_57 rfl (lv_at hl 4 rfl) ?_
          refine lv_iload hx hb dX1_canBuy_58 (lv_at hl 5 rfl) ?_
          refine lv_iload_n hx hb dX1_canBuy_60 rfl (lv_at hl 2 rfl) ?_
          refine r_callR (rest := []) Fx (m_X1_has l (D := D) (ci := ci) (cz := cz) (cj := cj) (A := A) (F := F) (P := P) (g := g) hF hP12 f w b (by omega) (by omega) (by omega)) (cwV 3 Fx.2.2.2.2 gX1_canBuy_X1_has rfl rfl rfl (by decide +kernel) ⟨Nat.le_of_ble_eq_true rfl, Nat.le_of_ble_eq_true rfl⟩) BX.bl (hQ.rc hK) (BX.at ⟨_, hR, hQ⟩ hK hO) rfl hl.1 rfl (Nat.le_of_ble_eq_true rfl) dX1_canBuy_61 ⟨Nat.zero_le _, Nat.zero_le _⟩ ?_
          refine lv_if_le (tgt := 69) hx hb dX1_canBuy_64 (by decide) (fun h5 => ?_) (fun h5 => ?_)
          · refine lv_aload_n hx hb dX1_canBuy_69 rfl (lv_at hl 1 rfl) ?_
            refine g_get Fx hin hK 1 hQ.o rfl 2 (by decide) (by decide +kernel) rfl dX1_canBuy_70 ?_
            refine lv_iload_n hx hb dX1_canBuy_73 rfl (lv_at hl 4 rfl) ?_
            refine g_aald Fx hK hQ.sh 3 rfl rfl (i := f) (by omega) (by omega) rfl dX1_canBuy_74 ?_
            refine lv_iload hx hb dX1_canBuy_75 (lv_at hl 5 rfl) ?_
            refine g_aald Fx hK (hQ.fr (f := f) (by omega) hF) 2 rfl rfl (i := w) (by omega) (by decide) rfl dX1_canBuy_77 ?_
            refine lv_astore (lv' := [(6, .ref (A (11 + (f * 4 + w)))), (5, .int (sPri g f w s')), (0, .ref (A 0)), (1, .int (nI b)), (2, .int (nI s')), (3, .int (nI f)), (4, .int (nI w))]) hx hb dX1_canBuy_78 hl (by decide) rfl (fun ls hl => ?_)
            refine lv_aload hx hb dX1_canBuy_80 (lv_at hl 0 rfl) ?_
            refine g_alenI Fx hK (hQ.rw (f := f) (w := w) (by omega) (by omega) hF) 0 rfl dX1_canBuy_82 ?_
            refine lv_istore (lv' := [(7, .int (nI 64)), (6, .ref (A (11 + (f * 4 + w)))), (5, .int (sPri g f w s')), (0, .ref (A 0)), (1, .int (nI b)), (2, .int (nI s')), (3, .int (nI f)), (4, .int (nI w))]) hx hb dX1_canBuy_83 hl (by decide) rfl (fun ls hl => ?_)
            refine lv_iconst (v := nI 0) hx hb dX1_canBuy_85 (by decide) ?_
            refine lv_istore (lv' := [(8, .int (nI 0)), (7, .int (nI 64)), (6, .ref (A (11 + (f * 4 + w)))), (5, .int (sPri g f w s')), (0, .ref (A 0)), (1, .int (nI b)), (2, .int (nI s')), (3, .int (nI f)), (4, .int (nI w))]) hx hb dX1_canBuy_86 hl (by decide) rfl (fun ls hl => ?_)
            refine rloop (nL := 10) (N := 64) (fun i => ∀ z, z < i → ∀ k, k < P → T (f * 4 + w) z = nI k → k = s' ∨ g 4 k < sPri g f w s') (fun i => [(0, .ref (A 0)), (1, .int (nI b)), (2, .int (nI s')), (3, .int (nI f)), (4, .int (nI w)), (5, .int (sPri g f w s')), (6, .ref (A (11 + (f * 4 + w)))), (7, .int (nI 64)), (8, .int (nI i))]) (fun z hz => absurd hz (Nat.not_lt_zero _)) (lv_sub hl [4, 5, 6, 7, 8, 3, 2, 1, 0] rfl) ?_ ?_
            · intro h6 ls hl
              have hl : lv_has ls 10 [(0, .ref (A 0)), (1, .int (nI b)), (2, .int (nI s')), (3, .int (nI f)), (4, .int (nI w)), (5, .int (sPri g f w s')), (6, .ref (A (11 + (f * 4 + w)))), (7, .int (nI 64)), (8, .int (nI 64))] := hl
              refine lv_iload hx hb dX1_canBuy_88 (lv_at hl 8 rfl) ?_
              refine lv_iload hx hb dX1_canBuy_90 (lv_at hl 7 rfl) ?_
              refine n_icmp_ge (tgt := 135) hx hb (by omega) (by omega) dX1_canBuy_92 (by decide) (fun h7 => ?_) (fun h7 => by omega)
              refine lv_iconst (v := nI 1) hx hb dX1_canBuy_135 (by decide) ?_
              exact r_zret hx hb hr hlocks (bI_t (by rw [may_o c1 c2 c3 c4 (Int32.not_lt.mpr h5), oth_n hR ha2 ha3 h6]; rfl)) dX1_canBuy_136
            · intro i h9 h8 ih88 ls hl
              have hl : lv_has ls 10 [(0, .ref (A 0)), (1, .int (nI b)), (2, .int (nI s')), (3, .int (nI f)), (4, .int (nI w)), (5, .int (sPri g f w s')), (6, .ref (A (11 + (f * 4 + w)))), (7, .int (nI 64)), (8, .int (nI i))] := hl
              refine lv_iload hx hb dX1_canBuy_88 (lv_at hl 8 rfl) ?_
              refine lv_iload hx hb dX1_canBuy_90 (lv_at hl 7 rfl) ?_
              refine n_icmp_ge (tgt := 135) hx hb (by omega) (by omega) dX1_canBuy_92 (by decide) (fun h10 => by omega) (fun h10 => ?_)
              refine lv_aload hx hb dX1_canBuy_95 (lv_at hl 6 rfl) ?_
              refine lv_iload hx hb dX1_canBuy_97 (lv_at hl 8 rfl) ?_
              refine g_iald Fx hK (hQ.rw (f := f) (w := w) (by omega) (by omega) hF) 0 rfl (i := i) (by omega) (by decide) dX1_canBuy_99 ?_
              refine lv_istore (lv' := [(9, .int (T (f * 4 + w) i)), (0, .ref (A 0)), (1, .int (nI b)), (2, .int (nI s')), (3, .int (nI f)), (4, .int (nI w)), (5, .int (sPri g f w s')), (6, .ref (A (11 + (f * 4 + w)))), (7, .int (nI 64)), (8, .int (nI i))]) hx hb dX1_canBuy_100 hl (by decide) rfl (fun ls hl => ?_)
              refine lv_iload hx hb dX1_canBuy_102 (lv_at hl 0 rfl) ?_
              refine lv_if_lt (tgt := 129) hx hb dX1_canBuy_104 (by decide) (fun h11 => ?_) (fun h11 => ?_)
              · refine lv_iinc (v := nI (i + 1)) (lv' := [(8, .int (nI (i + 1))), (9, .int (T (f * 4 + w) i)), (0, .ref (A 0)), (1, .int (nI b)), (2, .int (nI s')), (3, .int (nI f)), (4, .int (nI w)), (5, .int (sPri g f w s')), (6, .ref (A (11 + (f * 4 + w)))), (7, .int (nI 64))]) hx hb dX1_canBuy_129 hl (k := 9) rfl (nI_inc _ 1) (by decide) rfl (fun ls hl => ?_)
                refine lv_goto (tgt := 88) hx hb dX1_canBuy_132 (by decide) ?_
                exact ih88 (all_s h8 (fun k' hk' e' => by first | (rw [e'] at h11; exact absurd h11 (nI_pos (by omega))) | (obtain rfl : k = k' := (nI_eq (by omega) (by omega)).mp (rfl.symm.trans e'); first | exact Or.inl h11 | exact Or.inr h11))) _ (lv_sub hl [2, 3, 4, 5, 6, 7, 8, 9, 0] rfl)
              · have h11 := Int32.not_lt.mp h11
                obtain ⟨k, h12, h13⟩ := rt_ix hR ha2 ha3 (by omega) (Int32.not_lt.mpr h11)
                rw [h13] at hl
                refine lv_iload hx hb dX1_canBuy_107 (lv_at hl 0 rfl) ?_
                refine lv_iload_n hx hb dX1_canBuy_109 rfl (lv_at hl 3 rfl) ?_
                refine n_icmp_eq (tgt := 129) hx hb (by omega) (by omega) dX1_canBuy_110 (by decide) (fun h14 => ?_) (fun h14 => ?_)
                · refine lv_iinc (v := nI (i + 1)) (lv' := [(8, .int (nI (i + 1))), (9, .int (nI k)), (0, .ref (A 0)), (1, .int (nI b)), (2, .int (nI s')), (3, .int (nI f)), (4, .int (nI w)), (5, .int (sPri g f w s')), (6, .ref (A (11 + (f * 4 + w)))), (7, .int (nI 64))]) hx hb dX1_canBuy_129 hl (k := 9) rfl (nI_inc _ 1) (by decide) rfl (fun ls hl => ?_)
                  refine lv_goto (tgt := 88) hx hb dX1_canBuy_132 (by decide) ?_
                  exact ih88 (all_s h8 (fun k' hk' e' => by first | (rw [e'] at h14; exact absurd h14 (nI_pos (by omega))) | (obtain rfl : k = k' := (nI_eq (by omega) (by omega)).mp (h13.symm.trans e'); first | exact Or.inl h14 | exact Or.inr h14))) _ (lv_sub hl [2, 3, 4, 5, 6, 7, 8, 9, 0] rfl)
                · refine lv_aload_n hx hb dX1_canBuy_113 rfl (lv_at hl 1 rfl) ?_
                  refine g_get Fx hin hK 1 hQ.o rfl 3 (by decide) (by decide +kernel) rfl dX1_canBuy_114 ?_
                  refine lv_iload hx hb dX1_canBuy_117 (lv_at hl 0 rfl) ?_
                  refine g_aald Fx hK hQ.pe 2 rfl rfl (i := k) (by omega) (by omega) rfl dX1_canBuy_119 ?_
                  refine lv_iconst (v := nI 0) hx hb dX1_canBuy_120 (by decide) ?_
                  refine g_iald Fx hK (hQ.pp (k := k) (by omega)) 0 rfl (i := 0) (by decide) (by decide) dX1_canBuy_121 ?_
                  refine r_as (g 4 k) rfl ?_
                  refine lv_iload hx hb dX1_canBuy_122 (lv_at hl 6 rfl) ?_
                  refine lv_icmp_lt (tgt := 129) hx hb dX1_canBuy_124 (by decide) (fun h15 => ?_) (fun h15 => ?_)
                  · refine lv_iinc (v := nI (i + 1)) (lv' := [(8, .int (nI (i + 1))), (9, .int (nI k)), (0, .ref (A 0)), (1, .int (nI b)), (2, .int (nI s')), (3, .int (nI f)), (4, .int (nI w)), (5, .int (sPri g f w s')), (6, .ref (A (11 + (f * 4 + w)))), (7, .int (nI 64))]) hx hb dX1_canBuy_129 hl (k := 9) rfl (nI_inc _ 1) (by decide) rfl (fun ls hl => ?_)
                    refine lv_goto (tgt := 88) hx hb dX1_canBuy_132 (by decide) ?_
                    exact ih88 (all_s h8 (fun k' hk' e' => by first | (rw [e'] at h15; exact absurd h15 (nI_pos (by omega))) | (obtain rfl : k = k' := (nI_eq (by omega) (by omega)).mp (h13.symm.trans e'); first | exact Or.inl h15 | exact Or.inr h15))) _ (lv_sub hl [2, 3, 4, 5, 6, 7, 8, 9, 0] rfl)
                  · have h15 := Int32.not_lt.mp h15
                    refine lv_iconst (v := nI 0) hx hb dX1_canBuy_127 (by decide) ?_
                    exact r_zret hx hb hr hlocks (bI_f (by rw [may_o c1 c2 c3 c4 (Int32.not_lt.mpr h5), oth_y hR hP12 ha2 ha3 (by omega) h12 h13 h14 (Int32.not_lt.mpr h15)]; rfl)) dX1_canBuy_128
          · have h5 := Int32.not_le.mp h5
            refine lv_iconst (v := nI 1) hx hb dX1_canBuy_67 (by decide) ?_
            exact r_zret hx hb hr hlocks (bI_t (may_y c1 c2 c3 c4 h5)) dX1_canBuy_68
        · have h4 := Int32.not_le.mp h4
          refine lv_iconst (v := nI 0) hx hb dX1_canBuy_54 (by decide) ?_
          exact r_zret hx hb hr hlocks (bI_f (by first | exact may_1 h4 | exact may_2 hI ha2 ha3 (by omega) h4 | exact may_3 h4 | exact may_4 h4)) dX1_canBuy_55
set_option maxHeartbeats 4000000 in
set_option maxRecDepth 100000 in
theorem m_X1_handT (l : Launch) {D : va_G} {ci cz : ClassId} {cj : ClassId × ClassId} {A : Nat → Nat} {F P : Nat} {g : Nat → Nat → Int32} {T : Nat → Nat → Int32} (hF : F ≤ 6) (hP12 : P ≤ 12) (f : Nat) (w : Nat) (a : Int32) (b : Int32) (mm : Nat) (ha0 : f < F) (ha1 : w < 4) (ha2 : mm < 1000) (ha3 : ∀ i j, sV F P i → sV F P j → A i = A j → i = j) : Met l yX1_hand wsX1_hand ({ frames := 0, cells := 0, slots := 0, locals := 0 } : Room) (va_Pc [.ref (A 0), .int (nI f), .int (nI w), .int a, .int b, .int (nI mm)] (BT D ci cz cj A F P g T)) (WQ none (fun H => SP D ci cj A F P g (fun z => if z = f * 4 + w then hR (T (f * 4 + w)) a b mm 64 else T z) H) (SA A F P)) 0 0 (SA A F P) := by
  refine Met.ofWr (cc := cX1_hand) (maxL := 8) (ret := none) (by decide) rfl (Nat.le_of_ble_eq_true rfl) ?_
  intro pg en s m bl mt cd ls Fx hr hlocks hB hl
  obtain ⟨hQ, hK, hO⟩ := hB
  have hQ : SP D ci cj A F P g T s.heap := hQ
  have hl : lv_has ls 8 [(0, .ref (A 0)), (1, .int (nI f)), (2, .int (nI w)), (3, .int a), (4, .int b), (5, .int (nI mm))] := hl
  have Fx : CallFix pg m cd cX1_hand 8 s _ wsX1_hand RX1 := Fx
  have hx := Fx.1
  have hb := Fx.2.1
  have hin : ∀ w ∈ wsX10, w ∈ wsX1_hand := by decide +kernel
  have hS : va_S (SA A F P) s.heap s.heap [] := va_S.rf
  refine lv_iload hx hb dX1_hand_0 (lv_at hl 5 rfl) ?_
  refine lv_istore (lv' := [(6, .int (nI mm)), (0, .ref (A 0)), (1, .int (nI f)), (2, .int (nI w)), (3, .int a), (4, .int b), (5, .int (nI mm))]) hx hb dX1_hand_2 hl (by decide) rfl (fun ls hl => ?_)
  refine lv_iconst (v := nI 0) hx hb dX1_hand_4 (by decide) ?_
  refine lv_istore (lv' := [(7, .int (nI 0)), (6, .int (nI mm)), (0, .ref (A 0)), (1, .int (nI f)), (2, .int (nI w)), (3, .int a), (4, .int b), (5, .int (nI mm))]) hx hb dX1_hand_5 hl (by decide) rfl (fun ls hl => ?_)
  refine wloop (nL := 8) (N := 64) (fun _ => True) (fun i => [(0, .ref (A 0)), (1, .int (nI f)), (2, .int (nI w)), (3, .int a), (4, .int b), (5, .int (nI mm)), (6, .int (nI (mm - cn (fun z => decide (T (f * 4 + w) z = a)) i))), (7, .int (nI i))]) (fun i H => SP D ci cj A F P g (fun z => if z = f * 4 + w then hR (T (f * 4 + w)) a b mm i else T z) H) (trivial) (by show SP D ci cj A F P g (fun z => if z = f * 4 + w then hR (T (f * 4 + w)) a b mm 0 else T z) _; rw [hR_0, T_id]; exact hQ) hS (lv_sub hl [2, 3, 4, 5, 6, 7, 1, 0] rfl) ?_ ?_
  · intro h1 H locs ls hQ hS hl
    have hl : lv_has ls 8 [(0, .ref (A 0)), (1, .int (nI f)), (2, .int (nI w)), (3, .int a), (4, .int b), (5, .int (nI mm)), (6, .int (nI (mm - cn (fun z => decide (T (f * 4 + w) z = a)) 64))), (7, .int (nI 64))] := hl
    have hQ : SP D ci cj A F P g (fun z => if z = f * 4 + w then hR (T (f * 4 + w)) a b mm 64 else T z) H := hQ
    refine lv_iload hx hb dX1_hand_7 (lv_at hl 7 rfl) ?_
    refine lv_bipush (v := nI 64) hx hb dX1_hand_9 (by decide) ?_
    refine n_icmp_ge (tgt := 59) hx hb (by omega) (by omega) dX1_hand_11 (by decide) (fun h2 => ?_) (fun h2 => by omega)
    exact w_vret hx hb hr hlocks hS (hQ) dX1_hand_59
  · intro i h4 h3 ih7 H locs ls hQ hS hl
    have hl : lv_has ls 8 [(0, .ref (A 0)), (1, .int (nI f)), (2, .int (nI w)), (3, .int a), (4, .int b), (5, .int (nI mm)), (6, .int (nI (mm - cn (fun z => decide (T (f * 4 + w) z = a)) i))), (7, .int (nI i))] := hl
    have hQ : SP D ci cj A F P g (fun z => if z = f * 4 + w then hR (T (f * 4 + w)) a b mm i else T z) H := hQ
    refine lv_iload hx hb dX1_hand_7 (lv_at hl 7 rfl) ?_
    refine lv_bipush (v := nI 64) hx hb dX1_hand_9 (by decide) ?_
    refine n_icmp_ge (tgt := 59) hx hb (by omega) (by omega) dX1_hand_11 (by decide) (fun h5 => by omega) (fun h5 => ?_)
    refine lv_iload hx hb dX1_hand_14 (lv_at hl 6 rfl) ?_
    refine n_if_le (tgt := 59) hx hb (by omega) dX1_hand_16 (by decide) (fun h6 => ?_) (fun h6 => ?_)
    · exact w_vret hx hb hr hlocks hS (by rw [← hR_end (N := i) (by omega) (by omega)]; exact hQ) dX1_hand_59
    · refine lv_aload_n hx hb dX1_hand_19 rfl (lv_at hl 0 rfl) ?_
      refine g_get Fx hin hK 1 hQ.o rfl 2 (by decide) (by decide +kernel) rfl dX1_hand_20 ?_
      refine lv_iload_n hx hb dX1_hand_23 rfl (lv_at hl 1 rfl) ?_
      refine g_aald Fx hK hQ.sh 3 rfl rfl (i := f) (by omega) (by omega) rfl dX1_hand_24 ?_
      refine lv_iload_n hx hb dX1_hand_25 rfl (lv_at hl 2 rfl) ?_
      refine g_aald Fx hK (hQ.fr (f := f) (by omega) hF) 2 rfl rfl (i := w) (by omega) (by decide) rfl dX1_hand_26 ?_
      refine lv_iload hx hb dX1_hand_27 (lv_at hl 7 rfl) ?_
      refine g_iald Fx hK (hQ.rw (f := f) (w := w) (by omega) (by omega) hF) 0 rfl (i := i) (by omega) (by decide) dX1_hand_29 ?_
      refine r_as (T (f * 4 + w) i) (by simp [hR]) ?_
      refine lv_iload_n hx hb dX1_hand_30 rfl (lv_at hl 3 rfl) ?_
      refine lv_icmp_eq (tgt := 37) hx hb dX1_hand_31 (by decide) (fun h7 => ?_) (fun h7 => ?_)
      · refine lv_aload_n hx hb dX1_hand_37 rfl (lv_at hl 0 rfl) ?_
        refine g_get Fx hin hK 1 hQ.o rfl 2 (by decide) (by decide +kernel) rfl dX1_hand_38 ?_
        refine lv_iload_n hx hb dX1_hand_41 rfl (lv_at hl 1 rfl) ?_
        refine g_aald Fx hK hQ.sh 3 rfl rfl (i := f) (by omega) (by omega) rfl dX1_hand_42 ?_
        refine lv_iload_n hx hb dX1_hand_43 rfl (lv_at hl 2 rfl) ?_
        refine g_aald Fx hK (hQ.fr (f := f) (by omega) hF) 2 rfl rfl (i := w) (by omega) (by decide) rfl dX1_hand_44 ?_
        refine lv_iload hx hb dX1_hand_45 (lv_at hl 7 rfl) ?_
        refine lv_iload hx hb dX1_hand_47 (lv_at hl 4 rfl) ?_
        refine g_iast Fx hK (hQ.rw (f := f) (w := w) (by omega) (by omega) hF) 0 rfl (SA.i (sVr (by omega) (by omega))) hS (i := i) (by omega) (by decide) dX1_hand_49 (fun H locs he kp hS => ?_)
        have hQ : SP D ci cj A F P g (fun z => if z = f * 4 + w then hR (T (f * 4 + w)) a b mm (i + 1) else T z) H := by
          have h9 := hQ.stT ha3 (f := f) (w := w) (by omega) (by omega) hF kp he
          have e9 : (fun z => if z = f * 4 + w then upd ((fun z => if z = f * 4 + w then hR (T (f * 4 + w)) a b mm i else T z) (f * 4 + w)) i b else (fun z => if z = f * 4 + w then hR (T (f * 4 + w)) a b mm i else T z) z) = (fun z => if z = f * 4 + w then hR (T (f * 4 + w)) a b mm (i + 1) else T z) := by
            funext z
            by_cases hz : z = f * 4 + w
            · simp only [hz, if_pos]; exact hR_s h7 (by omega)
            · simp only [hz, if_false]
          rw [e9] at h9
          exact h9
        refine lv_iinc (v := nI (mm - cn (fun z => decide (T (f * 4 + w) z = a)) i - 1)) (lv' := [(6, .int (nI (mm - cn (fun z => decide (T (f * 4 + w) z = a)) i - 1))), (0, .ref (A 0)), (1, .int (nI f)), (2, .int (nI w)), (3, .int a), (4, .int b), (5, .int (nI mm)), (7, .int (nI i))]) hx hb dX1_hand_50 hl (k := 6) rfl (nI_dec (by omega)) (by decide) rfl (fun ls hl => ?_)
        refine lv_iinc (v := nI (i + 1)) (lv' := [(7, .int (nI (i + 1))), (6, .int (nI (mm - cn (fun z => decide (T (f * 4 + w) z = a)) i - 1))), (0, .ref (A 0)), (1, .int (nI f)), (2, .int (nI w)), (3, .int a), (4, .int b), (5, .int (nI mm))]) hx hb dX1_hand_53 hl (k := 7) rfl (nI_inc _ 1) (by decide) rfl (fun ls hl => ?_)
        refine lv_goto (tgt := 7) hx hb dX1_hand_56 (by decide) ?_
        have e6_ : nI (mm - cn (fun z => decide (T (f * 4 + w) z = a)) i - 1) = nI (mm - cn (fun z => decide (T (f * 4 + w) z = a)) (i + 1)) := congrArg nI (by first | (rw [cn_y (decide_eq_true h7)]; omega) | rw [cn_n (decide_eq_false h7)])
        rw [e6_] at hl
        exact ih7 (trivial) _ _ _ (hQ) hS (lv_sub hl [2, 3, 4, 5, 6, 7, 1, 0] rfl)
      · refine lv_goto (tgt := 53) hx hb dX1_hand_34 (by decide) ?_
        refine lv_iinc (v := nI (i + 1)) (lv' := [(7, .int (nI (i + 1))), (0, .ref (A 0)), (1, .int (nI f)), (2, .int (nI w)), (3, .int a), (4, .int b), (5, .int (nI mm)), (6, .int (nI (mm - cn (fun z => decide (T (f * 4 + w) z = a)) i)))]) hx hb dX1_hand_53 hl (k := 7) rfl (nI_inc _ 1) (by decide) rfl (fun ls hl => ?_)
        refine lv_goto (tgt := 7) hx hb dX1_hand_56 (by decide) ?_
        have e6_ : nI (mm - cn (fun z => decide (T (f * 4 + w) z = a)) i) = nI (mm - cn (fun z => decide (T (f * 4 + w) z = a)) (i + 1)) := congrArg nI (by first | (rw [cn_y (decide_eq_true h7)]; omega) | rw [cn_n (decide_eq_false h7)])
        rw [e6_] at hl
        exact ih7 (trivial) _ _ _ (by rw [hR_n h7]; exact hQ) hS (lv_sub hl [1, 2, 3, 4, 5, 6, 7, 0] rfl)
set_option maxHeartbeats 4000000 in
set_option maxRecDepth 100000 in
theorem m_X1_getT (l : Launch) {D : va_G} {ci cz : ClassId} {cj : ClassId × ClassId} {A : Nat → Nat} {F P : Nat} {g : Nat → Nat → Int32} {T : Nat → Nat → Int32} (hF : F ≤ 6) (hP12 : P ≤ 12) (k : Nat) (x : Int32) (ha0 : k < P) (ha1 : ∀ i j, sV F P i → sV F P j → A i = A j → i = j) : Met l yX1_get wsX1_get ({ frames := 1, cells := 0, slots := 0, locals := 17 } : Room) (va_Pc [.ref (A 0), .int (nI k), .int x] (BT D ci cz cj A F P g T)) (WQ none (fun H => SP D ci cj A F P (gGet g k x) T H) (SA A F P)) 0 0 (SA A F P) := by
  refine Met.ofWr (cc := cX1_get) (maxL := 3) (ret := none) (by decide) rfl (Nat.le_of_ble_eq_true rfl) ?_
  intro pg en s m bl mt cd ls Fx hr hlocks hB hl
  obtain ⟨hQ, hK, hO⟩ := hB
  have hQ : SP D ci cj A F P g T s.heap := hQ
  have hl : lv_has ls 3 [(0, .ref (A 0)), (1, .int (nI k)), (2, .int x)] := hl
  have Fx : CallFix pg m cd cX1_get 3 s _ wsX1_get RX1 := Fx
  have hx := Fx.1
  have hb := Fx.2.1
  have hin : ∀ w ∈ wsX10, w ∈ wsX1_get := by decide +kernel
  have hS : va_S (SA A F P) s.heap s.heap [] := va_S.rf
  have hi := ha1
  refine lv_aload_n hx hb dX1_get_0 rfl (lv_at hl 0 rfl) ?_
  refine g_get Fx hin hK 1 hQ.o rfl 3 (by decide) (by decide +kernel) rfl dX1_get_1 ?_
  refine lv_iload_n hx hb dX1_get_4 rfl (lv_at hl 1 rfl) ?_
  refine g_aald Fx hK hQ.pe 2 rfl rfl (i := k) (by omega) (by omega) rfl dX1_get_5 ?_
  refine lv_iconst (v := nI 0) hx hb dX1_get_6 (by decide) ?_
  refine lv_sipush (v := nI 9999) hx hb dX1_get_7 (by decide) ?_
  refine lv_aload_n hx hb dX1_get_10 rfl (lv_at hl 0 rfl) ?_
  refine g_get Fx hin hK 1 hQ.o rfl 3 (by decide) (by decide +kernel) rfl dX1_get_11 ?_
  refine lv_iload_n hx hb dX1_get_14 rfl (lv_at hl 1 rfl) ?_
  refine g_aald Fx hK hQ.pe 2 rfl rfl (i := k) (by omega) (by omega) rfl dX1_get_15 ?_
  refine lv_iconst (v := nI 0) hx hb dX1_get_16 (by decide) ?_
  refine g_iald Fx hK (hQ.pp (k := k) (by omega)) 0 rfl (i := 0) (by decide) (by decide) dX1_get_17 ?_
  refine r_as (g 4 k) rfl ?_
  refine lv_iload_n hx hb dX1_get_18 rfl (lv_at hl 2 rfl) ?_
  refine lv_iadd hx hb dX1_get_19 ?_
  refine va_mmin hx hb (Fx.2.2.1.trans hl.1.symm) Fx.2.2.2.1 (Fx.2.2.2.2 (.methodLink RX1 30 Lib.Math.min.name) (by decide +kernel)) (Fx.2.2.2.2 (.static Lib.Math.min.name) (by decide +kernel)) (Fx.2.2.2.2 (.initialized "java/lang/Math") (by decide +kernel)) (Fx.2.2.2.2 (.code Lib.Math.min.name Lib.Math.min.code 2 (some .int)) (by decide +kernel)) (Nat.le_of_ble_eq_true rfl) (Nat.le_of_ble_eq_true rfl) (Nat.zero_le _) (Nat.zero_le _) dX1_get_20 ?_
  refine g_iast Fx hK (hQ.pp (k := k) (by omega)) 0 rfl (SA.i (sVp (by omega))) hS (i := 0) (by decide) (by decide) dX1_get_23 (fun H locs he kp hS => ?_)
  have hQ : SP D ci cj A F P (gGet g k x) T H := hQ.stP hi (k := k) (by omega) kp (by rw [rI_get]; exact he) rfl rfl rfl (fun p hp => rI_get_ne hp)
  exact w_vret hx hb hr hlocks hS (hQ) dX1_get_24
theorem m_X1_handC (l : Launch) {D : va_G} {ci cz : ClassId} {cj : ClassId × ClassId} {A : Nat → Nat} {F P : Nat} {g : Nat → Nat → Int32} (hF : F ≤ 6) (hP12 : P ≤ 12) (f w k n : Nat) (ha0 : f < F) (ha1 : w < 4) (ha2 : k < P) (ha3 : nI n ≤ sCro g P f w) (ha4 : n ≤ 64) (hi : ∀ i j, sV F P i → sV F P j → A i = A j → i = j) : Met l yX1_hand wsX1_hand ({ frames := 0, cells := 0, slots := 0, locals := 0 } : Room) (va_Pc [.ref (A 0), .int (nI f), .int (nI w), .int (-1), .int (nI k), .int (nI n)] (BX D ci cz cj A F P g)) (WQ none (fun H => SS D ci cj A F P (gAdd g f w k (nI n)) H) (SA A F P)) 0 0 (SA A F P) := by
  refine Met.ex (C9 := fun T => RT F P g T) (Pr := fun T => BT D ci cz cj A F P g T) (fun U h => by obtain ⟨⟨T, h1, h2⟩, h3⟩ := h; exact ⟨T, h1, h2, h3⟩) (fun T hR => ?_)
  rw [hR.cro hP12 ha0 ha1] at ha3
  have hn := nI_leN ha3 (cT_le _ _) ha4
  refine Met.po (WQ.po (fun H h => ?_)) (m_X1_handT l hF hP12 f w (-1) (nI k) n ha0 ha1 (by omega) hi)
  exact ⟨_, rt_grant hR hP12 ha0 ha1 ha2 hn, h.cg (fun _ _ => rfl) (fun _ _ => rfl) (fun _ _ => rfl) rfl (fun _ _ => rfl) hF⟩
theorem m_X1_handP (l : Launch) {D : va_G} {ci cz : ClassId} {cj : ClassId × ClassId} {A : Nat → Nat} {F P : Nat} {g : Nat → Nat → Int32} (hF : F ≤ 6) (hP12 : P ≤ 12) (f w k o n : Nat) (ha0 : f < F) (ha1 : w < 4) (ha2 : k < P) (ha5 : o < P) (ha6 : k ≠ o) (ha3 : nI n ≤ own g f w k) (ha4 : n ≤ 64) (hi : ∀ i j, sV F P i → sV F P j → A i = A j → i = j) : Met l yX1_hand wsX1_hand ({ frames := 0, cells := 0, slots := 0, locals := 0 } : Room) (va_Pc [.ref (A 0), .int (nI f), .int (nI w), .int (nI k), .int (nI o), .int (nI n)] (BX D ci cz cj A F P g)) (WQ none (fun H => SS D ci cj A F P (gAdd (gAdd g f w k (-(nI n))) f w o (nI n)) H) (SA A F P)) 0 0 (SA A F P) := by
  refine Met.ex (C9 := fun T => RT F P g T) (Pr := fun T => BT D ci cz cj A F P g T) (fun U h => by obtain ⟨⟨T, h1, h2⟩, h3⟩ := h; exact ⟨T, h1, h2, h3⟩) (fun T hR => ?_)
  rw [(hR f w ha0 ha1).2 k ha2] at ha3
  have hn := nI_leN ha3 (cT_le _ _) ha4
  refine Met.po (WQ.po (fun H h => ?_)) (m_X1_handT l hF hP12 f w (nI k) (nI o) n ha0 ha1 (by omega) hi)
  exact ⟨_, rt_give hR hP12 ha0 ha1 ha2 ha5 ha6 hn, h.cg (fun _ _ => rfl) (fun _ _ => rfl) (fun _ _ => rfl) rfl (fun _ _ => rfl) hF⟩
theorem m_X1_handB (l : Launch) {D : va_G} {ci cz : ClassId} {cj : ClassId × ClassId} {A : Nat → Nat} {F P : Nat} {g : Nat → Nat → Int32} (hF : F ≤ 6) (hP12 : P ≤ 12) (f w k o : Nat) (ha0 : f < F) (ha1 : w < 4) (ha2 : k < P) (ha5 : o < P) (ha6 : k ≠ o) (hi : ∀ i j, sV F P i → sV F P j → A i = A j → i = j) : Met l yX1_hand wsX1_hand ({ frames := 0, cells := 0, slots := 0, locals := 0 } : Room) (va_Pc [.ref (A 0), .int (nI f), .int (nI w), .int (nI k), .int (nI o), .int (nI 64)] (BX D ci cz cj A F P g)) (WQ none (fun H => SS D ci cj A F P (gAdd (gAdd g f w k (-(own g f w k))) f w o (own g f w k)) H) (SA A F P)) 0 0 (SA A F P) := by
  refine Met.ex (C9 := fun T => RT F P g T) (Pr := fun T => BT D ci cz cj A F P g T) (fun U h => by obtain ⟨⟨T, h1, h2⟩, h3⟩ := h; exact ⟨T, h1, h2, h3⟩) (fun T hR => ?_)
  refine Met.po (WQ.po (fun H h => ?_)) (m_X1_handT l hF hP12 f w (nI k) (nI o) 64 ha0 ha1 (by omega) hi)
  exact ⟨_, rt_buy hR hP12 ha0 ha1 ha2 ha5 ha6, h.cg (fun _ _ => rfl) (fun _ _ => rfl) (fun _ _ => rfl) rfl (fun _ _ => rfl) hF⟩
theorem m_X1_handD (l : Launch) {D : va_G} {ci cz : ClassId} {cj : ClassId × ClassId} {A : Nat → Nat} {F P : Nat} {g : Nat → Nat → Int32} (hF : F ≤ 6) (hP12 : P ≤ 12) (f w k : Nat) (ha0 : f < F) (ha1 : w < 4) (ha2 : k < P) (hi : ∀ i j, sV F P i → sV F P j → A i = A j → i = j) : Met l yX1_hand wsX1_hand ({ frames := 0, cells := 0, slots := 0, locals := 0 } : Room) (va_Pc [.ref (A 0), .int (nI f), .int (nI w), .int (nI k), .int (-1), .int (nI 64)] (BX D ci cz cj A F P g)) (WQ none (fun H => SS D ci cj A F P (va_up g 2 (upd (g 2) (sl f w k) (nI 0))) H) (SA A F P)) 0 0 (SA A F P) := by
  refine Met.ex (C9 := fun T => RT F P g T) (Pr := fun T => BT D ci cz cj A F P g T) (fun U h => by obtain ⟨⟨T, h1, h2⟩, h3⟩ := h; exact ⟨T, h1, h2, h3⟩) (fun T hR => ?_)
  refine Met.po (WQ.po (fun H h => ?_)) (m_X1_handT l hF hP12 f w (nI k) (-1) 64 ha0 ha1 (by omega) hi)
  exact ⟨_, rt_bury hR hP12 ha0 ha1 ha2, h.cg (fun _ _ => rfl) (fun _ _ => rfl) (fun _ _ => rfl) rfl (fun _ _ => rfl) hF⟩
theorem m_X1_get (l : Launch) {D : va_G} {ci cz : ClassId} {cj : ClassId × ClassId} {A : Nat → Nat} {F P : Nat} {g : Nat → Nat → Int32} (hF : F ≤ 6) (hP12 : P ≤ 12) (k : Nat) (x : Int32) (ha0 : k < P) (hi : ∀ i j, sV F P i → sV F P j → A i = A j → i = j) : Met l yX1_get wsX1_get ({ frames := 1, cells := 0, slots := 0, locals := 17 } : Room) (va_Pc [.ref (A 0), .int (nI k), .int x] (BX D ci cz cj A F P g)) (WQ none (fun H => SS D ci cj A F P (gGet g k x) H) (SA A F P)) 0 0 (SA A F P) := by
  refine Met.ex (C9 := fun T => RT F P g T) (Pr := fun T => BT D ci cz cj A F P g T) (fun U h => by obtain ⟨⟨T, h1, h2⟩, h3⟩ := h; exact ⟨T, h1, h2, h3⟩) (fun T hR => ?_)
  refine Met.po (WQ.po (fun H h => ?_)) (m_X1_getT l hF hP12 k x ha0 hi)
  exact ⟨_, hR.cg (fun _ _ _ _ _ _ => rfl), h⟩
end SIMA
