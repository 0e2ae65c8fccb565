/-! PART 48: the mean, which may be a NaN. -/
section MEAN
theorem LF.dr {p : Program} {m : MethodId} {c : Code} {meth : Method} {s : State} {b L : Nat} {xs : Nat → Int32} {D : va_G} {ci cz cj : ClassId} (lf : LF p m c meth s b L xs D ci cz cj) (d : Drawn) : LF p m c meth (s.setDrawn d) b L xs D ci cz cj :=
  ⟨⟨lf.F.1, lf.F.2.1, lf.F.2.2.1, lf.F.2.2.2.1, dr_words lf.F.2.2.2.2 d⟩, lf.hr, lf.hlocks, va_X.moved (u := s) (U := s.setDrawn d) (Vm.Alike.refl s.vm) lf.X, lf.hb, lf.E.dr d, NC.mv (s := s) (U := s.setDrawn d) (Vm.Alike.refl s.vm) lf.N, va_K.moved (u := s) (U := s.setDrawn d) (Vm.Alike.refl s.vm) lf.K⟩
theorem c_meanCoins {p : Program} {l : Launch} {s : State} {m : MethodId} {below : List Frame} {meth : Method} {c : Code} {H : Heap} {locs : List Loc} {cells slots : Nat} {Q : State → Prop} {e : Env} {ls : Array Slot} {b L : Nat} {D : va_G} {ci cz cj : ClassId} {q0 q1 : Nat → Nat} {F P : Nat} {g : Nat → Nat → Int32} {ob : Nat} {xs : Nat → Int32} {i : Nat} {d0 : Drawn} (hd0 : s.drawn.sameBut d0 lw_cs) (lf : LF p m c meth s b L xs D ci cz cj) (la : LA q0 q1 ob s.heap.size) (hl0 : l.stackTraces = false) (hL : L ≤ 3072) (hi : i + 6 ≤ L) (hw : LW D ci cz cj q0 q1 ob F P g H) (hI : Iw F P g) (hS : va_S (big s) s.heap H locs) (hl : lv_has ls 9 [(0, .ref b), (1, .ref (q0 0)), (2, .ref (q1 0)), (3, .ref ob), (4, .int (nI i))]) (hc : cells + 1 ≤ room_1.cells) (hs : slots + 6 ≤ room_1.slots) (kk : ∀ (F P : Nat) (g : Nat → Nat → Int32) (H : Heap) (locs : List Loc) (ls : Array Slot) (d1 : Drawn), s.drawn.sameBut d1 lw_cs → LW D ci cz cj q0 q1 ob F P g H → Iw F P g → va_S (big s) s.heap H locs → lv_has ls 9 [(0, .ref b), (1, .ref (q0 0)), (2, .ref (q1 0)), (3, .ref ob), (4, .int (nI i))] → W p l e room_1 (s.setDrawn d1) m #[.ref b] below meth c H locs (cells + 1) (slots + 6) Q (F0 m 2627 ls [])) : W p l e room_1 (s.setDrawn d0) m #[.ref b] below meth c H locs cells slots Q (F0 m 2572 ls []) := by
  obtain ⟨hP, ⟨th, he, hn, hM⟩, f, hO⟩ := hw
  have hx := lf.F.1
  have hb := lf.F.2.1
  have hF := hI.1.1.1
  have hP12 := hI.1.1.2
  refine lv_aload_n hx hb dL_law_2572 rfl (lv_at hl 1 rfl) ?_
  refine r_callD (rest := []) hd0 (lf.dr d0).F (m_X0_meanCoins l (D := D) (ci := ci) (cz := cz) (cj := cj) (q := q0) (F := F) (P := P) (g := g) (qo_q la.h9) hF hP12) (cwV 0 (lf.dr d0).F.2.2.2.2 gL_law_X0_meanCoins rfl rfl rfl (by decide +kernel) ⟨Nat.le_of_ble_eq_true rfl, Nat.le_of_ble_eq_true rfl⟩) BW.bl (va_recv lf.K hP (ci := 0) (q0 := 0) rfl rfl) (lf.b0' la hP hS) rfl hl.1 rfl (Nat.le_of_ble_eq_true rfl) dL_law_2573 ⟨Nat.le_of_succ_le hc, Nat.le_trans (Nat.le_add_right _ 6) hs⟩ hS (fun a h => la.o0 a (aw_o h)) (fun r1 d1 H locs ha1 hd1 hP hS _ hkp => ?_)
  have hM : va_P D vwCl (w1 ci cz q1 th F P g he hn) H := P_stay hM hkp (fun k r h hh => la.n1 k r h (aw_o hh))
  have hO : va_P D vwCl (wo cj ob f) H := P_stay hO hkp (wo_n la.h9)
  refine lv_dstore (lv' := [(5, .double r1), (0, .ref b), (1, .ref (q0 0)), (2, .ref (q1 0)), (3, .ref ob), (4, .int (nI i))]) hx hb dL_law_2576 hl (by decide) rfl (fun ls hl => ?_)
  refine lv_aload_n hx hb dL_law_2578 rfl (lv_at hl 3 rfl) ?_
  refine r_callD (rest := []) hd1 (lf.dr d1).F (m_X1_meanCoins l (D := D) (ci := ci) (cz := cz) (cj := cj) (q := q1) (F := F) (P := P) (g := g) (th := th) (he := he) (hn := hn) la.h1 hF hP12 hI.1) (cwV 0 (lf.dr d1).F.2.2.2.2 gL_law_X1_meanCoins rfl rfl rfl (by decide +kernel) ⟨Nat.le_of_ble_eq_true rfl, Nat.le_of_ble_eq_true rfl⟩) BW.bl (va_recv lf.K hM (ci := 1) (q0 := 0) rfl rfl) (lf.b1 la hM hS) rfl hl.1 rfl (Nat.le_of_ble_eq_true rfl) dL_law_2579 ⟨Nat.le_of_succ_le hc, Nat.le_trans (Nat.le_add_right _ 6) hs⟩ hS la.o1 (fun r2 d2 H locs ha2 hd2 hM hS _ hkp => ?_)
  obtain ⟨he, hn, hM⟩ := hM
  have hP : va_P D vwCl (w0 ci cz q0 F P g) H := P_stay hP hkp la.n0
  have hO : va_P D vwCl (wo cj ob f) H := P_stay hO hkp la.no
  refine lv_dstore (lv' := [(7, .double r2), (5, .double r1), (0, .ref b), (1, .ref (q0 0)), (2, .ref (q1 0)), (3, .ref ob), (4, .int (nI i))]) hx hb dL_law_2582 hl (by decide) rfl (fun ls hl => ?_)
  refine lv_dload hx hb dL_law_2584 (lv_at hl 1 rfl) ?_
  refine lv_dload hx hb dL_law_2586 (lv_at hl 0 rfl) ?_
  refine lv_dcmp hx hb dL_law_2588 ?_
  refine lv_if_eq (tgt := 2610) hx hb dL_law_2589 (by decide) (fun _ => ?_) (fun hne => ?_)
  · refine lv_goto (tgt := 2627) hx hb dL_law_2610 (by decide) ?_
    refine W.widen (Nat.le_add_right _ 1) (Nat.le_add_right _ 6) ?_
    exact kk _ _ _ _ _ _ _ hd2 ⟨hP, ⟨_, _, _, hM⟩, f, hO⟩ hI hS (lv_sub hl [2, 3, 4, 5, 6] rfl)
  · have hv : ¬ Op.cmpValue (FP.dcmp r1 r1) CmpOp.l = 0 ∧ ¬ Op.cmpValue (FP.dcmp r2 r2) CmpOp.l = 0 := by
      rcases alike_2 ha1 ha2 with e9 | ⟨n1, n2⟩
      · rw [← e9] at hne ⊢; exact ⟨hne, hne⟩
      · rw [nan_cmp n1, nan_cmp n2]; exact ⟨by decide, by decide⟩
    refine lv_dload hx hb dL_law_2592 (lv_at hl 1 rfl) ?_
    refine lv_dload hx hb dL_law_2594 (lv_at hl 1 rfl) ?_
    refine lv_dcmp hx hb dL_law_2596 ?_
    refine lv_if_eq (tgt := 2608) hx hb dL_law_2597 (by decide) (fun h => absurd h hv.1) (fun _ => ?_)
    refine lv_dload hx hb dL_law_2600 (lv_at hl 0 rfl) ?_
    refine lv_dload hx hb dL_law_2602 (lv_at hl 0 rfl) ?_
    refine lv_dcmp hx hb dL_law_2604 ?_
    refine lv_if_ne (tgt := 2610) hx hb dL_law_2605 (by decide) (fun _ => ?_) (fun h => absurd h hv.2)
    refine lv_goto (tgt := 2627) hx hb dL_law_2610 (by decide) ?_
    refine W.widen (Nat.le_add_right _ 1) (Nat.le_add_right _ 6) ?_
    exact kk _ _ _ _ _ _ _ hd2 ⟨hP, ⟨_, _, _, hM⟩, f, hO⟩ hI hS (lv_sub hl [2, 3, 4, 5, 6] rfl)
end MEAN
