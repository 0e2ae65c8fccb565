/-! PART 47: the calls that the law tries, 3 of 3. -/
section CASES2
theorem c_coins {p : Program} {l : Launch} {s : State} {m : MethodId} {below : List Frame} {meth : Method} {c : Code} {H : Heap} {locs : List Loc} {cells slots : Nat} {Q : State → Prop} {e : Env} {ls : Array Slot} {b L : Nat} {D : va_G} {ci cz cj : ClassId} {q0 q1 : Nat → Nat} {F P : Nat} {g : Nat → Nat → Int32} {ob : Nat} {xs : Nat → Int32} {i : Nat} (lf : LF p m c meth s b L xs D ci cz cj) (la : LA q0 q1 ob s.heap.size) (hl0 : l.stackTraces = false) (hL : L ≤ 3072) (hi : i + 6 ≤ L) (hw : LW D ci cz cj q0 q1 ob F P g H) (hI : Iw F P g) (hS : va_S (big s) s.heap H locs) (hl : lv_has ls 9 [(0, .ref b), (1, .ref (q0 0)), (2, .ref (q1 0)), (3, .ref ob), (4, .int (nI i))]) (hc : cells + 1 ≤ room_1.cells) (hs : slots + 6 ≤ room_1.slots) (kk : ∀ (F P : Nat) (g : Nat → Nat → Int32) (H : Heap) (locs : List Loc) (ls : Array Slot), LW D ci cz cj q0 q1 ob F P g H → Iw F P g → va_S (big s) s.heap H locs → lv_has ls 9 [(0, .ref b), (1, .ref (q0 0)), (2, .ref (q1 0)), (3, .ref ob), (4, .int (nI i))] → W p l e room_1 s m #[.ref b] below meth c H locs (cells + 1) (slots + 6) Q (F0 m 2627 ls [])) : W p l e room_1 s m #[.ref b] below meth c H locs cells slots Q (F0 m 1685 ls []) := by
  obtain ⟨hP, ⟨th, he, hn, hM⟩, f, hO⟩ := hw
  have hx := lf.F.1
  have hb := lf.F.2.1
  have hF := hI.1.1.1
  have hP12 := hI.1.1.2
  refine lv_aload_n hx hb dL_law_1685 rfl (lv_at hl 1 rfl) ?_
  refine r_arg lf hS (lv_at hl 0 rfl) (lv_at hl 4 rfl) (k := 1) rfl (by omega) hL rfl rfl rfl rfl rfl dL_law_1686 dL_law_1687 dL_law_1689 dL_law_1690 dL_law_1691 ?_
  refine lv_aload_n hx hb dL_law_1692 rfl (lv_at hl 3 rfl) ?_
  have hk3 : (k_1 P (xs (i + 1))) ≤ 3 := by unfold k_1; (repeat' split) <;> decide
  refine r_callLW (As := [.ref (q0 0), .int (xs (i + 1)), .ref ob]) (rest := []) lf.F (m_L_coins l hl0 (D := D) (ci := ci) (cz := cz) (cj := cj) (q := q0) (F := F) (P := P) (g := g) (ob := ob) (f0 := f) la.h9 hF hP12 (xs (i + 1)) ) (vx_cwSW 3 lf.F.2.2.2.2 gL_law_L_coins rfl rfl rfl (by decide +kernel) ⟨Nat.le_of_ble_eq_true rfl, Nat.le_of_ble_eq_true rfl⟩) BL.bl (lf.b0 la hP hO hS) rfl hl.1 rfl (Nat.le_of_ble_eq_true rfl) dL_law_1693 ⟨hc, hs⟩ hS la.o0 (fun H locs hQ hS hkp => ?_)
  obtain ⟨hP, f, hO, hans⟩ := hQ
  have hM : va_P D vwCl (w1 ci cz q1 th F P g he hn) H := P_stay hM hkp la.n1
  refine lv_istore (lv' := [(5, .int (nI (k_1 P (xs (i + 1))))), (0, .ref b), (1, .ref (q0 0)), (2, .ref (q1 0)), (3, .ref ob), (4, .int (nI i))]) hx hb dL_law_1696 hl (by decide) rfl (fun ls hl => ?_)
  refine lv_aload_n hx hb dL_law_1698 rfl (lv_at hl 3 rfl) ?_
  refine r_arg lf hS (lv_at hl 1 rfl) (lv_at hl 5 rfl) (k := 1) rfl (by omega) hL rfl rfl rfl rfl rfl dL_law_1699 dL_law_1700 dL_law_1702 dL_law_1703 dL_law_1704 ?_
  refine r_callW (rest := []) lf.F (m_X1_coins l (D := D) (ci := ci) (cz := cz) (cj := cj) (q := q1) (F := F) (P := P) (g := g) (th := th) (he := he) (hn := hn) la.h1 hF hP12 (xs (i + 1)) hI.1) (cwV 1 lf.F.2.2.2.2 gL_law_X1_coins rfl rfl rfl (by decide +kernel) ⟨Nat.le_of_ble_eq_true rfl, Nat.le_of_ble_eq_true rfl⟩) BW.bl (va_recv lf.K hM (ci := 1) (q0 := 0) rfl rfl) (lf.b1 la hM hS) rfl hl.1 rfl (Nat.le_of_ble_eq_true rfl) dL_law_1705 ⟨hc, hs⟩ hS la.o1 (fun H locs hM hS _ hkp => ?_)
  obtain ⟨he, hn, hM⟩ := hM
  have hP : va_P D vwCl (w0 ci cz q0 F P g) H := P_stay hP hkp la.n0
  have hO : va_P D vwCl (wo cj ob f) H := P_stay hO hkp la.no
  refine lv_istore (lv' := [(6, .int (rz (k_1 P (xs (i + 1))) (g 4 (ix (xs (i + 1)))))), (5, .int (nI (k_1 P (xs (i + 1))))), (0, .ref b), (1, .ref (q0 0)), (2, .ref (q1 0)), (3, .ref ob), (4, .int (nI i))]) hx hb dL_law_1708 hl (by decide) rfl (fun ls hl => ?_)
  refine lv_aload_n hx hb dL_law_1710 rfl (lv_at hl 4 rfl) ?_
  refine r_callR (rest := []) lf.F (m_X1_thrown l (D := D) (ci := ci) (cz := cz) (cj := cj) (q := q1) (F := F) (P := P) (g := g) (th := nI (k_1 P (xs (i + 1)))) (he := he) (hn := hn) hF hP12) (cwV 0 lf.F.2.2.2.2 gL_law_X1_thrown rfl rfl rfl (by decide +kernel) ⟨Nat.le_of_ble_eq_true rfl, Nat.le_of_ble_eq_true rfl⟩) BW.bl (va_recv lf.K hM (ci := 1) (q0 := 0) rfl rfl) (lf.b1 la hM hS) rfl hl.1 rfl (Nat.le_of_ble_eq_true rfl) dL_law_1711 ⟨hc, hs⟩ ?_
  refine lv_iload hx hb dL_law_1714 (lv_at hl 1 rfl) ?_
  refine lv_icmp_eq (tgt := 1721) hx hb dL_law_1716 (by decide) (fun _ => ?_) (fun h => absurd rfl h)
  refine lv_iload hx hb dL_law_1721 (lv_at hl 1 rfl) ?_
  refine lv_if_ne (tgt := 1738) hx hb dL_law_1723 (by decide) (fun _ => ?_) (fun hk => ?_)
  · refine lv_goto (tgt := 2627) hx hb dL_law_1738 (by decide) ?_
    exact kk _ _ _ _ _ _ ⟨hP, ⟨_, _, _, hM⟩, f, hO⟩ hI hS (lv_sub hl [2, 3, 4, 5, 6] rfl)
  · have hK0 : (k_1 P (xs (i + 1))) = 0 := nK0 hk3 hk
    refine lv_aload_n hx hb dL_law_1726 rfl (lv_at hl 5 rfl) ?_
    refine lv_iconst (v := nI 0) hx hb dL_law_1727 (by decide) ?_
    refine r_lald hx hb lf.K rfl hO (hans hK0) dL_law_1728 ?_
    refine lv_iload hx hb dL_law_1729 (lv_at hl 0 rfl) ?_
    refine lv_i2l hx hb dL_law_1731 rfl ?_
    refine r_lcmp hx hb (by rw [rz0 hK0]) dL_law_1732 ?_
    refine lv_if_eq (tgt := 1738) hx hb dL_law_1733 (by decide) (fun _ => ?_) (fun h => absurd rfl h)
    refine lv_goto (tgt := 2627) hx hb dL_law_1738 (by decide) ?_
    exact kk _ _ _ _ _ _ ⟨hP, ⟨_, _, _, hM⟩, f, hO⟩ hI hS (lv_sub hl [2, 3, 4, 5, 6] rfl)
theorem c_earned {p : Program} {l : Launch} {s : State} {m : MethodId} {below : List Frame} {meth : Method} {c : Code} {H : Heap} {locs : List Loc} {cells slots : Nat} {Q : State → Prop} {e : Env} {ls : Array Slot} {b L : Nat} {D : va_G} {ci cz cj : ClassId} {q0 q1 : Nat → Nat} {F P : Nat} {g : Nat → Nat → Int32} {ob : Nat} {xs : Nat → Int32} {i : Nat} (lf : LF p m c meth s b L xs D ci cz cj) (la : LA q0 q1 ob s.heap.size) (hl0 : l.stackTraces = false) (hL : L ≤ 3072) (hi : i + 6 ≤ L) (hw : LW D ci cz cj q0 q1 ob F P g H) (hI : Iw F P g) (hS : va_S (big s) s.heap H locs) (hl : lv_has ls 9 [(0, .ref b), (1, .ref (q0 0)), (2, .ref (q1 0)), (3, .ref ob), (4, .int (nI i))]) (hc : cells + 1 ≤ room_1.cells) (hs : slots + 6 ≤ room_1.slots) (kk : ∀ (F P : Nat) (g : Nat → Nat → Int32) (H : Heap) (locs : List Loc) (ls : Array Slot), LW D ci cz cj q0 q1 ob F P g H → Iw F P g → va_S (big s) s.heap H locs → lv_has ls 9 [(0, .ref b), (1, .ref (q0 0)), (2, .ref (q1 0)), (3, .ref ob), (4, .int (nI i))] → W p l e room_1 s m #[.ref b] below meth c H locs (cells + 1) (slots + 6) Q (F0 m 2627 ls [])) : W p l e room_1 s m #[.ref b] below meth c H locs cells slots Q (F0 m 1741 ls []) := by
  obtain ⟨hP, ⟨th, he, hn, hM⟩, f, hO⟩ := hw
  have hx := lf.F.1
  have hb := lf.F.2.1
  have hF := hI.1.1.1
  have hP12 := hI.1.1.2
  refine lv_aload_n hx hb dL_law_1741 rfl (lv_at hl 1 rfl) ?_
  refine r_arg lf hS (lv_at hl 0 rfl) (lv_at hl 4 rfl) (k := 1) rfl (by omega) hL rfl rfl rfl rfl rfl dL_law_1742 dL_law_1743 dL_law_1745 dL_law_1746 dL_law_1747 ?_
  refine lv_aload_n hx hb dL_law_1748 rfl (lv_at hl 3 rfl) ?_
  have hk3 : (k_1 P (xs (i + 1))) ≤ 3 := by unfold k_1; (repeat' split) <;> decide
  refine r_callLW (As := [.ref (q0 0), .int (xs (i + 1)), .ref ob]) (rest := []) lf.F (m_L_earned l hl0 (D := D) (ci := ci) (cz := cz) (cj := cj) (q := q0) (F := F) (P := P) (g := g) (ob := ob) (f0 := f) la.h9 hF hP12 (xs (i + 1)) ) (vx_cwSW 3 lf.F.2.2.2.2 gL_law_L_earned rfl rfl rfl (by decide +kernel) ⟨Nat.le_of_ble_eq_true rfl, Nat.le_of_ble_eq_true rfl⟩) BL.bl (lf.b0 la hP hO hS) rfl hl.1 rfl (Nat.le_of_ble_eq_true rfl) dL_law_1749 ⟨hc, hs⟩ hS la.o0 (fun H locs hQ hS hkp => ?_)
  obtain ⟨hP, f, hO, hans⟩ := hQ
  have hM : va_P D vwCl (w1 ci cz q1 th F P g he hn) H := P_stay hM hkp la.n1
  refine lv_istore (lv' := [(5, .int (nI (k_1 P (xs (i + 1))))), (0, .ref b), (1, .ref (q0 0)), (2, .ref (q1 0)), (3, .ref ob), (4, .int (nI i))]) hx hb dL_law_1752 hl (by decide) rfl (fun ls hl => ?_)
  refine lv_aload_n hx hb dL_law_1754 rfl (lv_at hl 3 rfl) ?_
  refine r_arg lf hS (lv_at hl 1 rfl) (lv_at hl 5 rfl) (k := 1) rfl (by omega) hL rfl rfl rfl rfl rfl dL_law_1755 dL_law_1756 dL_law_1758 dL_law_1759 dL_law_1760 ?_
  refine r_callW (rest := []) lf.F (m_X1_earned l (D := D) (ci := ci) (cz := cz) (cj := cj) (q := q1) (F := F) (P := P) (g := g) (th := th) (he := he) (hn := hn) la.h1 hF hP12 (xs (i + 1)) hI.1) (cwV 1 lf.F.2.2.2.2 gL_law_X1_earned rfl rfl rfl (by decide +kernel) ⟨Nat.le_of_ble_eq_true rfl, Nat.le_of_ble_eq_true rfl⟩) BW.bl (va_recv lf.K hM (ci := 1) (q0 := 0) rfl rfl) (lf.b1 la hM hS) rfl hl.1 rfl (Nat.le_of_ble_eq_true rfl) dL_law_1761 ⟨hc, hs⟩ hS la.o1 (fun H locs hM hS _ hkp => ?_)
  obtain ⟨he, hn, hM⟩ := hM
  have hP : va_P D vwCl (w0 ci cz q0 F P g) H := P_stay hP hkp la.n0
  have hO : va_P D vwCl (wo cj ob f) H := P_stay hO hkp la.no
  refine lv_istore (lv' := [(6, .int (rz (k_1 P (xs (i + 1))) (g 5 (ix (xs (i + 1)))))), (5, .int (nI (k_1 P (xs (i + 1))))), (0, .ref b), (1, .ref (q0 0)), (2, .ref (q1 0)), (3, .ref ob), (4, .int (nI i))]) hx hb dL_law_1764 hl (by decide) rfl (fun ls hl => ?_)
  refine lv_aload_n hx hb dL_law_1766 rfl (lv_at hl 4 rfl) ?_
  refine r_callR (rest := []) lf.F (m_X1_thrown l (D := D) (ci := ci) (cz := cz) (cj := cj) (q := q1) (F := F) (P := P) (g := g) (th := nI (k_1 P (xs (i + 1)))) (he := he) (hn := hn) hF hP12) (cwV 0 lf.F.2.2.2.2 gL_law_X1_thrown rfl rfl rfl (by decide +kernel) ⟨Nat.le_of_ble_eq_true rfl, Nat.le_of_ble_eq_true rfl⟩) BW.bl (va_recv lf.K hM (ci := 1) (q0 := 0) rfl rfl) (lf.b1 la hM hS) rfl hl.1 rfl (Nat.le_of_ble_eq_true rfl) dL_law_1767 ⟨hc, hs⟩ ?_
  refine lv_iload hx hb dL_law_1770 (lv_at hl 1 rfl) ?_
  refine lv_icmp_eq (tgt := 1777) hx hb dL_law_1772 (by decide) (fun _ => ?_) (fun h => absurd rfl h)
  refine lv_iload hx hb dL_law_1777 (lv_at hl 1 rfl) ?_
  refine lv_if_ne (tgt := 1794) hx hb dL_law_1779 (by decide) (fun _ => ?_) (fun hk => ?_)
  · refine lv_goto (tgt := 2627) hx hb dL_law_1794 (by decide) ?_
    exact kk _ _ _ _ _ _ ⟨hP, ⟨_, _, _, hM⟩, f, hO⟩ hI hS (lv_sub hl [2, 3, 4, 5, 6] rfl)
  · have hK0 : (k_1 P (xs (i + 1))) = 0 := nK0 hk3 hk
    refine lv_aload_n hx hb dL_law_1782 rfl (lv_at hl 5 rfl) ?_
    refine lv_iconst (v := nI 0) hx hb dL_law_1783 (by decide) ?_
    refine r_lald hx hb lf.K rfl hO (hans hK0) dL_law_1784 ?_
    refine lv_iload hx hb dL_law_1785 (lv_at hl 0 rfl) ?_
    refine lv_i2l hx hb dL_law_1787 rfl ?_
    refine r_lcmp hx hb (by rw [rz0 hK0]) dL_law_1788 ?_
    refine lv_if_eq (tgt := 1794) hx hb dL_law_1789 (by decide) (fun _ => ?_) (fun h => absurd rfl h)
    refine lv_goto (tgt := 2627) hx hb dL_law_1794 (by decide) ?_
    exact kk _ _ _ _ _ _ ⟨hP, ⟨_, _, _, hM⟩, f, hO⟩ hI hS (lv_sub hl [2, 3, 4, 5, 6] rfl)
theorem c_allShares {p : Program} {l : Launch} {s : State} {m : MethodId} {below : List Frame} {meth : Method} {c : Code} {H : Heap} {locs : List Loc} {cells slots : Nat} {Q : State → Prop} {e : Env} {ls : Array Slot} {b L : Nat} {D : va_G} {ci cz cj : ClassId} {q0 q1 : Nat → Nat} {F P : Nat} {g : Nat → Nat → Int32} {ob : Nat} {xs : Nat → Int32} {i : Nat} (lf : LF p m c meth s b L xs D ci cz cj) (la : LA q0 q1 ob s.heap.size) (hl0 : l.stackTraces = false) (hL : L ≤ 3072) (hi : i + 6 ≤ L) (hw : LW D ci cz cj q0 q1 ob F P g H) (hI : Iw F P g) (hS : va_S (big s) s.heap H locs) (hl : lv_has ls 9 [(0, .ref b), (1, .ref (q0 0)), (2, .ref (q1 0)), (3, .ref ob), (4, .int (nI i))]) (hc : cells + 1 ≤ room_1.cells) (hs : slots + 6 ≤ room_1.slots) (kk : ∀ (F P : Nat) (g : Nat → Nat → Int32) (H : Heap) (locs : List Loc) (ls : Array Slot), LW D ci cz cj q0 q1 ob F P g H → Iw F P g → va_S (big s) s.heap H locs → lv_has ls 9 [(0, .ref b), (1, .ref (q0 0)), (2, .ref (q1 0)), (3, .ref ob), (4, .int (nI i))] → W p l e room_1 s m #[.ref b] below meth c H locs (cells + 1) (slots + 6) Q (F0 m 2627 ls [])) : W p l e room_1 s m #[.ref b] below meth c H locs cells slots Q (F0 m 1797 ls []) := by
  obtain ⟨hP, ⟨th, he, hn, hM⟩, f, hO⟩ := hw
  have hx := lf.F.1
  have hb := lf.F.2.1
  have hF := hI.1.1.1
  have hP12 := hI.1.1.2
  refine lv_aload_n hx hb dL_law_1797 rfl (lv_at hl 1 rfl) ?_
  refine r_arg lf hS (lv_at hl 0 rfl) (lv_at hl 4 rfl) (k := 1) rfl (by omega) hL rfl rfl rfl rfl rfl dL_law_1798 dL_law_1799 dL_law_1801 dL_law_1802 dL_law_1803 ?_
  refine lv_aload_n hx hb dL_law_1804 rfl (lv_at hl 3 rfl) ?_
  have hk3 : (k_1 P (xs (i + 1))) ≤ 3 := by unfold k_1; (repeat' split) <;> decide
  refine r_callLW (As := [.ref (q0 0), .int (xs (i + 1)), .ref ob]) (rest := []) lf.F (m_L_allShares l hl0 (D := D) (ci := ci) (cz := cz) (cj := cj) (q := q0) (F := F) (P := P) (g := g) (ob := ob) (f0 := f) la.h9 hF hP12 (xs (i + 1)) ) (vx_cwSW 3 lf.F.2.2.2.2 gL_law_L_allShares rfl rfl rfl (by decide +kernel) ⟨Nat.le_of_ble_eq_true rfl, Nat.le_of_ble_eq_true rfl⟩) BL.bl (lf.b0 la hP hO hS) rfl hl.1 rfl (Nat.le_of_ble_eq_true rfl) dL_law_1805 ⟨hc, hs⟩ hS la.o0 (fun H locs hQ hS hkp => ?_)
  obtain ⟨hP, f, hO, hans⟩ := hQ
  have hM : va_P D vwCl (w1 ci cz q1 th F P g he hn) H := P_stay hM hkp la.n1
  refine lv_istore (lv' := [(5, .int (nI (k_1 P (xs (i + 1))))), (0, .ref b), (1, .ref (q0 0)), (2, .ref (q1 0)), (3, .ref ob), (4, .int (nI i))]) hx hb dL_law_1808 hl (by decide) rfl (fun ls hl => ?_)
  refine lv_aload_n hx hb dL_law_1810 rfl (lv_at hl 3 rfl) ?_
  refine r_arg lf hS (lv_at hl 1 rfl) (lv_at hl 5 rfl) (k := 1) rfl (by omega) hL rfl rfl rfl rfl rfl dL_law_1811 dL_law_1812 dL_law_1814 dL_law_1815 dL_law_1816 ?_
  refine r_callW (rest := []) lf.F (m_X1_allShares l (D := D) (ci := ci) (cz := cz) (cj := cj) (q := q1) (F := F) (P := P) (g := g) (th := th) (he := he) (hn := hn) la.h1 hF hP12 (xs (i + 1)) hI.1) (cwV 1 lf.F.2.2.2.2 gL_law_X1_allShares rfl rfl rfl (by decide +kernel) ⟨Nat.le_of_ble_eq_true rfl, Nat.le_of_ble_eq_true rfl⟩) BW.bl (va_recv lf.K hM (ci := 1) (q0 := 0) rfl rfl) (lf.b1 la hM hS) rfl hl.1 rfl (Nat.le_of_ble_eq_true rfl) dL_law_1817 ⟨hc, hs⟩ hS la.o1 (fun H locs hM hS _ hkp => ?_)
  obtain ⟨he, hn, hM⟩ := hM
  have hP : va_P D vwCl (w0 ci cz q0 F P g) H := P_stay hP hkp la.n0
  have hO : va_P D vwCl (wo cj ob f) H := P_stay hO hkp la.no
  refine lv_istore (lv' := [(6, .int (rz (k_1 P (xs (i + 1))) (sAll g F (ix (xs (i + 1)))))), (5, .int (nI (k_1 P (xs (i + 1))))), (0, .ref b), (1, .ref (q0 0)), (2, .ref (q1 0)), (3, .ref ob), (4, .int (nI i))]) hx hb dL_law_1820 hl (by decide) rfl (fun ls hl => ?_)
  refine lv_aload_n hx hb dL_law_1822 rfl (lv_at hl 4 rfl) ?_
  refine r_callR (rest := []) lf.F (m_X1_thrown l (D := D) (ci := ci) (cz := cz) (cj := cj) (q := q1) (F := F) (P := P) (g := g) (th := nI (k_1 P (xs (i + 1)))) (he := he) (hn := hn) hF hP12) (cwV 0 lf.F.2.2.2.2 gL_law_X1_thrown rfl rfl rfl (by decide +kernel) ⟨Nat.le_of_ble_eq_true rfl, Nat.le_of_ble_eq_true rfl⟩) BW.bl (va_recv lf.K hM (ci := 1) (q0 := 0) rfl rfl) (lf.b1 la hM hS) rfl hl.1 rfl (Nat.le_of_ble_eq_true rfl) dL_law_1823 ⟨hc, hs⟩ ?_
  refine lv_iload hx hb dL_law_1826 (lv_at hl 1 rfl) ?_
  refine lv_icmp_eq (tgt := 1833) hx hb dL_law_1828 (by decide) (fun _ => ?_) (fun h => absurd rfl h)
  refine lv_iload hx hb dL_law_1833 (lv_at hl 1 rfl) ?_
  refine lv_if_ne (tgt := 1850) hx hb dL_law_1835 (by decide) (fun _ => ?_) (fun hk => ?_)
  · refine lv_goto (tgt := 2627) hx hb dL_law_1850 (by decide) ?_
    exact kk _ _ _ _ _ _ ⟨hP, ⟨_, _, _, hM⟩, f, hO⟩ hI hS (lv_sub hl [2, 3, 4, 5, 6] rfl)
  · have hK0 : (k_1 P (xs (i + 1))) = 0 := nK0 hk3 hk
    refine lv_aload_n hx hb dL_law_1838 rfl (lv_at hl 5 rfl) ?_
    refine lv_iconst (v := nI 0) hx hb dL_law_1839 (by decide) ?_
    refine r_lald hx hb lf.K rfl hO (hans hK0) dL_law_1840 ?_
    refine lv_iload hx hb dL_law_1841 (lv_at hl 0 rfl) ?_
    refine lv_i2l hx hb dL_law_1843 rfl ?_
    refine r_lcmp hx hb (by rw [rz0 hK0]) dL_law_1844 ?_
    refine lv_if_eq (tgt := 1850) hx hb dL_law_1845 (by decide) (fun _ => ?_) (fun h => absurd rfl h)
    refine lv_goto (tgt := 2627) hx hb dL_law_1850 (by decide) ?_
    exact kk _ _ _ _ _ _ ⟨hP, ⟨_, _, _, hM⟩, f, hO⟩ hI hS (lv_sub hl [2, 3, 4, 5, 6] rfl)
theorem c_hasParent {p : Program} {l : Launch} {s : State} {m : MethodId} {below : List Frame} {meth : Method} {c : Code} {H : Heap} {locs : List Loc} {cells slots : Nat} {Q : State → Prop} {e : Env} {ls : Array Slot} {b L : Nat} {D : va_G} {ci cz cj : ClassId} {q0 q1 : Nat → Nat} {F P : Nat} {g : Nat → Nat → Int32} {ob : Nat} {xs : Nat → Int32} {i : Nat} (lf : LF p m c meth s b L xs D ci cz cj) (la : LA q0 q1 ob s.heap.size) (hl0 : l.stackTraces = false) (hL : L ≤ 3072) (hi : i + 6 ≤ L) (hw : LW D ci cz cj q0 q1 ob F P g H) (hI : Iw F P g) (hS : va_S (big s) s.heap H locs) (hl : lv_has ls 9 [(0, .ref b), (1, .ref (q0 0)), (2, .ref (q1 0)), (3, .ref ob), (4, .int (nI i))]) (hc : cells + 1 ≤ room_1.cells) (hs : slots + 6 ≤ room_1.slots) (kk : ∀ (F P : Nat) (g : Nat → Nat → Int32) (H : Heap) (locs : List Loc) (ls : Array Slot), LW D ci cz cj q0 q1 ob F P g H → Iw F P g → va_S (big s) s.heap H locs → lv_has ls 9 [(0, .ref b), (1, .ref (q0 0)), (2, .ref (q1 0)), (3, .ref ob), (4, .int (nI i))] → W p l e room_1 s m #[.ref b] below meth c H locs (cells + 1) (slots + 6) Q (F0 m 2627 ls [])) : W p l e room_1 s m #[.ref b] below meth c H locs cells slots Q (F0 m 1853 ls []) := by
  obtain ⟨hP, ⟨th, he, hn, hM⟩, f, hO⟩ := hw
  have hx := lf.F.1
  have hb := lf.F.2.1
  have hF := hI.1.1.1
  have hP12 := hI.1.1.2
  refine lv_aload_n hx hb dL_law_1853 rfl (lv_at hl 1 rfl) ?_
  refine r_arg lf hS (lv_at hl 0 rfl) (lv_at hl 4 rfl) (k := 1) rfl (by omega) hL rfl rfl rfl rfl rfl dL_law_1854 dL_law_1855 dL_law_1857 dL_law_1858 dL_law_1859 ?_
  refine lv_aload_n hx hb dL_law_1860 rfl (lv_at hl 3 rfl) ?_
  have hk3 : (k_1 P (xs (i + 1))) ≤ 3 := by unfold k_1; (repeat' split) <;> decide
  refine r_callLW (As := [.ref (q0 0), .int (xs (i + 1)), .ref ob]) (rest := []) lf.F (m_L_hasParent l hl0 (D := D) (ci := ci) (cz := cz) (cj := cj) (q := q0) (F := F) (P := P) (g := g) (ob := ob) (f0 := f) la.h9 hF hP12 (xs (i + 1)) ) (vx_cwSW 3 lf.F.2.2.2.2 gL_law_L_hasParent rfl rfl rfl (by decide +kernel) ⟨Nat.le_of_ble_eq_true rfl, Nat.le_of_ble_eq_true rfl⟩) BL.bl (lf.b0 la hP hO hS) rfl hl.1 rfl (Nat.le_of_ble_eq_true rfl) dL_law_1861 ⟨hc, hs⟩ hS la.o0 (fun H locs hQ hS hkp => ?_)
  obtain ⟨hP, f, hO, hans⟩ := hQ
  have hM : va_P D vwCl (w1 ci cz q1 th F P g he hn) H := P_stay hM hkp la.n1
  refine lv_istore (lv' := [(5, .int (nI (k_1 P (xs (i + 1))))), (0, .ref b), (1, .ref (q0 0)), (2, .ref (q1 0)), (3, .ref ob), (4, .int (nI i))]) hx hb dL_law_1864 hl (by decide) rfl (fun ls hl => ?_)
  refine lv_aload_n hx hb dL_law_1866 rfl (lv_at hl 3 rfl) ?_
  refine r_arg lf hS (lv_at hl 1 rfl) (lv_at hl 5 rfl) (k := 1) rfl (by omega) hL rfl rfl rfl rfl rfl dL_law_1867 dL_law_1868 dL_law_1870 dL_law_1871 dL_law_1872 ?_
  refine r_callW (rest := []) lf.F (m_X1_hasParent l (D := D) (ci := ci) (cz := cz) (cj := cj) (q := q1) (F := F) (P := P) (g := g) (th := th) (he := he) (hn := hn) la.h1 hF hP12 (xs (i + 1)) hI.1) (cwV 1 lf.F.2.2.2.2 gL_law_X1_hasParent rfl rfl rfl (by decide +kernel) ⟨Nat.le_of_ble_eq_true rfl, Nat.le_of_ble_eq_true rfl⟩) BW.bl (va_recv lf.K hM (ci := 1) (q0 := 0) rfl rfl) (lf.b1 la hM hS) rfl hl.1 rfl (Nat.le_of_ble_eq_true rfl) dL_law_1873 ⟨hc, hs⟩ hS la.o1 (fun H locs hM hS _ hkp => ?_)
  obtain ⟨he, hn, hM⟩ := hM
  have hP : va_P D vwCl (w0 ci cz q0 F P g) H := P_stay hP hkp la.n0
  have hO : va_P D vwCl (wo cj ob f) H := P_stay hO hkp la.no
  refine lv_istore (lv' := [(6, .int (bI (rb (k_1 P (xs (i + 1))) (decide (g 6 (ix (xs (i + 1))) ≠ -1))))), (5, .int (nI (k_1 P (xs (i + 1))))), (0, .ref b), (1, .ref (q0 0)), (2, .ref (q1 0)), (3, .ref ob), (4, .int (nI i))]) hx hb dL_law_1876 hl (by decide) rfl (fun ls hl => ?_)
  refine lv_aload_n hx hb dL_law_1878 rfl (lv_at hl 4 rfl) ?_
  refine r_callR (rest := []) lf.F (m_X1_thrown l (D := D) (ci := ci) (cz := cz) (cj := cj) (q := q1) (F := F) (P := P) (g := g) (th := nI (k_1 P (xs (i + 1)))) (he := he) (hn := hn) hF hP12) (cwV 0 lf.F.2.2.2.2 gL_law_X1_thrown rfl rfl rfl (by decide +kernel) ⟨Nat.le_of_ble_eq_true rfl, Nat.le_of_ble_eq_true rfl⟩) BW.bl (va_recv lf.K hM (ci := 1) (q0 := 0) rfl rfl) (lf.b1 la hM hS) rfl hl.1 rfl (Nat.le_of_ble_eq_true rfl) dL_law_1879 ⟨hc, hs⟩ ?_
  refine lv_iload hx hb dL_law_1882 (lv_at hl 1 rfl) ?_
  refine lv_icmp_eq (tgt := 1889) hx hb dL_law_1884 (by decide) (fun _ => ?_) (fun h => absurd rfl h)
  refine lv_iload hx hb dL_law_1889 (lv_at hl 1 rfl) ?_
  refine lv_if_ne (tgt := 1913) hx hb dL_law_1891 (by decide) (fun _ => ?_) (fun hk => ?_)
  · refine lv_goto (tgt := 2627) hx hb dL_law_1913 (by decide) ?_
    exact kk _ _ _ _ _ _ ⟨hP, ⟨_, _, _, hM⟩, f, hO⟩ hI hS (lv_sub hl [2, 3, 4, 5, 6] rfl)
  · have hK0 : (k_1 P (xs (i + 1))) = 0 := nK0 hk3 hk
    refine lv_aload_n hx hb dL_law_1894 rfl (lv_at hl 5 rfl) ?_
    refine lv_iconst (v := nI 0) hx hb dL_law_1895 (by decide) ?_
    refine r_lald hx hb lf.K rfl hO (hans hK0) dL_law_1896 ?_
    refine lv_iload hx hb dL_law_1897 (lv_at hl 0 rfl) ?_
    refine b_if_eq (tgt := 1906) hx hb dL_law_1899 (by decide) (fun hb9 => ?_) (fun hb9 => ?_)
    · refine lv_lconst (v := 0) hx hb dL_law_1906 rfl ?_
      refine r_lcmp hx hb (by rw [rb0 hK0] at hb9; rw [hb9]; rfl) dL_law_1907 ?_
      refine lv_if_eq (tgt := 1913) hx hb dL_law_1908 (by decide) (fun _ => ?_) (fun h => absurd rfl h)
      refine lv_goto (tgt := 2627) hx hb dL_law_1913 (by decide) ?_
      exact kk _ _ _ _ _ _ ⟨hP, ⟨_, _, _, hM⟩, f, hO⟩ hI hS (lv_sub hl [2, 3, 4, 5, 6] rfl)
    · refine lv_lconst (v := 1) hx hb dL_law_1902 rfl ?_
      refine lv_goto (tgt := 1907) hx hb dL_law_1903 (by decide) ?_
      refine r_lcmp hx hb (by rw [rb0 hK0] at hb9; rw [hb9]; rfl) dL_law_1907 ?_
      refine lv_if_eq (tgt := 1913) hx hb dL_law_1908 (by decide) (fun _ => ?_) (fun h => absurd rfl h)
      refine lv_goto (tgt := 2627) hx hb dL_law_1913 (by decide) ?_
      exact kk _ _ _ _ _ _ ⟨hP, ⟨_, _, _, hM⟩, f, hO⟩ hI hS (lv_sub hl [2, 3, 4, 5, 6] rfl)
theorem c_parent {p : Program} {l : Launch} {s : State} {m : MethodId} {below : List Frame} {meth : Method} {c : Code} {H : Heap} {locs : List Loc} {cells slots : Nat} {Q : State → Prop} {e : Env} {ls : Array Slot} {b L : Nat} {D : va_G} {ci cz cj : ClassId} {q0 q1 : Nat → Nat} {F P : Nat} {g : Nat → Nat → Int32} {ob : Nat} {xs : Nat → Int32} {i : Nat} (lf : LF p m c meth s b L xs D ci cz cj) (la : LA q0 q1 ob s.heap.size) (hl0 : l.stackTraces = false) (hL : L ≤ 3072) (hi : i + 6 ≤ L) (hw : LW D ci cz cj q0 q1 ob F P g H) (hI : Iw F P g) (hS : va_S (big s) s.heap H locs) (hl : lv_has ls 9 [(0, .ref b), (1, .ref (q0 0)), (2, .ref (q1 0)), (3, .ref ob), (4, .int (nI i))]) (hc : cells + 1 ≤ room_1.cells) (hs : slots + 6 ≤ room_1.slots) (kk : ∀ (F P : Nat) (g : Nat → Nat → Int32) (H : Heap) (locs : List Loc) (ls : Array Slot), LW D ci cz cj q0 q1 ob F P g H → Iw F P g → va_S (big s) s.heap H locs → lv_has ls 9 [(0, .ref b), (1, .ref (q0 0)), (2, .ref (q1 0)), (3, .ref ob), (4, .int (nI i))] → W p l e room_1 s m #[.ref b] below meth c H locs (cells + 1) (slots + 6) Q (F0 m 2627 ls [])) : W p l e room_1 s m #[.ref b] below meth c H locs cells slots Q (F0 m 1916 ls []) := by
  obtain ⟨hP, ⟨th, he, hn, hM⟩, f, hO⟩ := hw
  have hx := lf.F.1
  have hb := lf.F.2.1
  have hF := hI.1.1.1
  have hP12 := hI.1.1.2
  refine lv_aload_n hx hb dL_law_1916 rfl (lv_at hl 1 rfl) ?_
  refine r_arg lf hS (lv_at hl 0 rfl) (lv_at hl 4 rfl) (k := 1) rfl (by omega) hL rfl rfl rfl rfl rfl dL_law_1917 dL_law_1918 dL_law_1920 dL_law_1921 dL_law_1922 ?_
  refine lv_aload_n hx hb dL_law_1923 rfl (lv_at hl 3 rfl) ?_
  have hk3 : (k_parent P g (xs (i + 1))) ≤ 3 := by unfold k_parent; (repeat' split) <;> decide
  refine r_callLW (As := [.ref (q0 0), .int (xs (i + 1)), .ref ob]) (rest := []) lf.F (m_L_parent l hl0 (D := D) (ci := ci) (cz := cz) (cj := cj) (q := q0) (F := F) (P := P) (g := g) (ob := ob) (f0 := f) la.h9 hF hP12 (xs (i + 1)) ) (vx_cwSW 3 lf.F.2.2.2.2 gL_law_L_parent rfl rfl rfl (by decide +kernel) ⟨Nat.le_of_ble_eq_true rfl, Nat.le_of_ble_eq_true rfl⟩) BL.bl (lf.b0 la hP hO hS) rfl hl.1 rfl (Nat.le_of_ble_eq_true rfl) dL_law_1924 ⟨hc, hs⟩ hS la.o0 (fun H locs hQ hS hkp => ?_)
  obtain ⟨hP, f, hO, hans⟩ := hQ
  have hM : va_P D vwCl (w1 ci cz q1 th F P g he hn) H := P_stay hM hkp la.n1
  refine lv_istore (lv' := [(5, .int (nI (k_parent P g (xs (i + 1))))), (0, .ref b), (1, .ref (q0 0)), (2, .ref (q1 0)), (3, .ref ob), (4, .int (nI i))]) hx hb dL_law_1927 hl (by decide) rfl (fun ls hl => ?_)
  refine lv_aload_n hx hb dL_law_1929 rfl (lv_at hl 3 rfl) ?_
  refine r_arg lf hS (lv_at hl 1 rfl) (lv_at hl 5 rfl) (k := 1) rfl (by omega) hL rfl rfl rfl rfl rfl dL_law_1930 dL_law_1931 dL_law_1933 dL_law_1934 dL_law_1935 ?_
  refine r_callW (rest := []) lf.F (m_X1_parent l (D := D) (ci := ci) (cz := cz) (cj := cj) (q := q1) (F := F) (P := P) (g := g) (th := th) (he := he) (hn := hn) la.h1 hF hP12 (xs (i + 1)) hI.1) (cwV 1 lf.F.2.2.2.2 gL_law_X1_parent rfl rfl rfl (by decide +kernel) ⟨Nat.le_of_ble_eq_true rfl, Nat.le_of_ble_eq_true rfl⟩) BW.bl (va_recv lf.K hM (ci := 1) (q0 := 0) rfl rfl) (lf.b1 la hM hS) rfl hl.1 rfl (Nat.le_of_ble_eq_true rfl) dL_law_1936 ⟨hc, hs⟩ hS la.o1 (fun H locs hM hS _ hkp => ?_)
  obtain ⟨he, hn, hM⟩ := hM
  have hP : va_P D vwCl (w0 ci cz q0 F P g) H := P_stay hP hkp la.n0
  have hO : va_P D vwCl (wo cj ob f) H := P_stay hO hkp la.no
  refine lv_istore (lv' := [(6, .int (rz (k_parent P g (xs (i + 1))) (g 6 (ix (xs (i + 1)))))), (5, .int (nI (k_parent P g (xs (i + 1))))), (0, .ref b), (1, .ref (q0 0)), (2, .ref (q1 0)), (3, .ref ob), (4, .int (nI i))]) hx hb dL_law_1939 hl (by decide) rfl (fun ls hl => ?_)
  refine lv_aload_n hx hb dL_law_1941 rfl (lv_at hl 4 rfl) ?_
  refine r_callR (rest := []) lf.F (m_X1_thrown l (D := D) (ci := ci) (cz := cz) (cj := cj) (q := q1) (F := F) (P := P) (g := g) (th := nI (k_parent P g (xs (i + 1)))) (he := he) (hn := hn) hF hP12) (cwV 0 lf.F.2.2.2.2 gL_law_X1_thrown rfl rfl rfl (by decide +kernel) ⟨Nat.le_of_ble_eq_true rfl, Nat.le_of_ble_eq_true rfl⟩) BW.bl (va_recv lf.K hM (ci := 1) (q0 := 0) rfl rfl) (lf.b1 la hM hS) rfl hl.1 rfl (Nat.le_of_ble_eq_true rfl) dL_law_1942 ⟨hc, hs⟩ ?_
  refine lv_iload hx hb dL_law_1945 (lv_at hl 1 rfl) ?_
  refine lv_icmp_eq (tgt := 1952) hx hb dL_law_1947 (by decide) (fun _ => ?_) (fun h => absurd rfl h)
  refine lv_iload hx hb dL_law_1952 (lv_at hl 1 rfl) ?_
  refine lv_if_ne (tgt := 1969) hx hb dL_law_1954 (by decide) (fun _ => ?_) (fun hk => ?_)
  · refine lv_goto (tgt := 2627) hx hb dL_law_1969 (by decide) ?_
    exact kk _ _ _ _ _ _ ⟨hP, ⟨_, _, _, hM⟩, f, hO⟩ hI hS (lv_sub hl [2, 3, 4, 5, 6] rfl)
  · have hK0 : (k_parent P g (xs (i + 1))) = 0 := nK0 hk3 hk
    refine lv_aload_n hx hb dL_law_1957 rfl (lv_at hl 5 rfl) ?_
    refine lv_iconst (v := nI 0) hx hb dL_law_1958 (by decide) ?_
    refine r_lald hx hb lf.K rfl hO (hans hK0) dL_law_1959 ?_
    refine lv_iload hx hb dL_law_1960 (lv_at hl 0 rfl) ?_
    refine lv_i2l hx hb dL_law_1962 rfl ?_
    refine r_lcmp hx hb (by rw [rz0 hK0]) dL_law_1963 ?_
    refine lv_if_eq (tgt := 1969) hx hb dL_law_1964 (by decide) (fun _ => ?_) (fun h => absurd rfl h)
    refine lv_goto (tgt := 2627) hx hb dL_law_1969 (by decide) ?_
    exact kk _ _ _ _ _ _ ⟨hP, ⟨_, _, _, hM⟩, f, hO⟩ hI hS (lv_sub hl [2, 3, 4, 5, 6] rfl)
theorem c_children {p : Program} {l : Launch} {s : State} {m : MethodId} {below : List Frame} {meth : Method} {c : Code} {H : Heap} {locs : List Loc} {cells slots : Nat} {Q : State → Prop} {e : Env} {ls : Array Slot} {b L : Nat} {D : va_G} {ci cz cj : ClassId} {q0 q1 : Nat → Nat} {F P : Nat} {g : Nat → Nat → Int32} {ob : Nat} {xs : Nat → Int32} {i : Nat} (lf : LF p m c meth s b L xs D ci cz cj) (la : LA q0 q1 ob s.heap.size) (hl0 : l.stackTraces = false) (hL : L ≤ 3072) (hi : i + 6 ≤ L) (hw : LW D ci cz cj q0 q1 ob F P g H) (hI : Iw F P g) (hS : va_S (big s) s.heap H locs) (hl : lv_has ls 9 [(0, .ref b), (1, .ref (q0 0)), (2, .ref (q1 0)), (3, .ref ob), (4, .int (nI i))]) (hc : cells + 1 ≤ room_1.cells) (hs : slots + 6 ≤ room_1.slots) (kk : ∀ (F P : Nat) (g : Nat → Nat → Int32) (H : Heap) (locs : List Loc) (ls : Array Slot), LW D ci cz cj q0 q1 ob F P g H → Iw F P g → va_S (big s) s.heap H locs → lv_has ls 9 [(0, .ref b), (1, .ref (q0 0)), (2, .ref (q1 0)), (3, .ref ob), (4, .int (nI i))] → W p l e room_1 s m #[.ref b] below meth c H locs (cells + 1) (slots + 6) Q (F0 m 2627 ls [])) : W p l e room_1 s m #[.ref b] below meth c H locs cells slots Q (F0 m 1972 ls []) := by
  obtain ⟨hP, ⟨th, he, hn, hM⟩, f, hO⟩ := hw
  have hx := lf.F.1
  have hb := lf.F.2.1
  have hF := hI.1.1.1
  have hP12 := hI.1.1.2
  refine lv_aload_n hx hb dL_law_1972 rfl (lv_at hl 1 rfl) ?_
  refine r_arg lf hS (lv_at hl 0 rfl) (lv_at hl 4 rfl) (k := 1) rfl (by omega) hL rfl rfl rfl rfl rfl dL_law_1973 dL_law_1974 dL_law_1976 dL_law_1977 dL_law_1978 ?_
  refine lv_aload_n hx hb dL_law_1979 rfl (lv_at hl 3 rfl) ?_
  have hk3 : (k_1 P (xs (i + 1))) ≤ 3 := by unfold k_1; (repeat' split) <;> decide
  refine r_callLW (As := [.ref (q0 0), .int (xs (i + 1)), .ref ob]) (rest := []) lf.F (m_L_children l hl0 (D := D) (ci := ci) (cz := cz) (cj := cj) (q := q0) (F := F) (P := P) (g := g) (ob := ob) (f0 := f) la.h9 hF hP12 (xs (i + 1)) ) (vx_cwSW 3 lf.F.2.2.2.2 gL_law_L_children rfl rfl rfl (by decide +kernel) ⟨Nat.le_of_ble_eq_true rfl, Nat.le_of_ble_eq_true rfl⟩) BL.bl (lf.b0 la hP hO hS) rfl hl.1 rfl (Nat.le_of_ble_eq_true rfl) dL_law_1980 ⟨hc, hs⟩ hS la.o0 (fun H locs hQ hS hkp => ?_)
  obtain ⟨hP, f, hO, hans⟩ := hQ
  have hM : va_P D vwCl (w1 ci cz q1 th F P g he hn) H := P_stay hM hkp la.n1
  refine lv_istore (lv' := [(5, .int (nI (k_1 P (xs (i + 1))))), (0, .ref b), (1, .ref (q0 0)), (2, .ref (q1 0)), (3, .ref ob), (4, .int (nI i))]) hx hb dL_law_1983 hl (by decide) rfl (fun ls hl => ?_)
  refine lv_aload_n hx hb dL_law_1985 rfl (lv_at hl 3 rfl) ?_
  refine r_arg lf hS (lv_at hl 1 rfl) (lv_at hl 5 rfl) (k := 1) rfl (by omega) hL rfl rfl rfl rfl rfl dL_law_1986 dL_law_1987 dL_law_1989 dL_law_1990 dL_law_1991 ?_
  refine r_callW (rest := []) lf.F (m_X1_children l (D := D) (ci := ci) (cz := cz) (cj := cj) (q := q1) (F := F) (P := P) (g := g) (th := th) (he := he) (hn := hn) la.h1 hF hP12 (xs (i + 1)) hI.1) (cwV 1 lf.F.2.2.2.2 gL_law_X1_children rfl rfl rfl (by decide +kernel) ⟨Nat.le_of_ble_eq_true rfl, Nat.le_of_ble_eq_true rfl⟩) BW.bl (va_recv lf.K hM (ci := 1) (q0 := 0) rfl rfl) (lf.b1 la hM hS) rfl hl.1 rfl (Nat.le_of_ble_eq_true rfl) dL_law_1992 ⟨hc, hs⟩ hS la.o1 (fun H locs hM hS _ hkp => ?_)
  obtain ⟨he, hn, hM⟩ := hM
  have hP : va_P D vwCl (w0 ci cz q0 F P g) H := P_stay hP hkp la.n0
  have hO : va_P D vwCl (wo cj ob f) H := P_stay hO hkp la.no
  refine lv_istore (lv' := [(6, .int (rz (k_1 P (xs (i + 1))) (nI (sChi g P (ix (xs (i + 1))))))), (5, .int (nI (k_1 P (xs (i + 1))))), (0, .ref b), (1, .ref (q0 0)), (2, .ref (q1 0)), (3, .ref ob), (4, .int (nI i))]) hx hb dL_law_1995 hl (by decide) rfl (fun ls hl => ?_)
  refine lv_aload_n hx hb dL_law_1997 rfl (lv_at hl 4 rfl) ?_
  refine r_callR (rest := []) lf.F (m_X1_thrown l (D := D) (ci := ci) (cz := cz) (cj := cj) (q := q1) (F := F) (P := P) (g := g) (th := nI (k_1 P (xs (i + 1)))) (he := he) (hn := hn) hF hP12) (cwV 0 lf.F.2.2.2.2 gL_law_X1_thrown rfl rfl rfl (by decide +kernel) ⟨Nat.le_of_ble_eq_true rfl, Nat.le_of_ble_eq_true rfl⟩) BW.bl (va_recv lf.K hM (ci := 1) (q0 := 0) rfl rfl) (lf.b1 la hM hS) rfl hl.1 rfl (Nat.le_of_ble_eq_true rfl) dL_law_1998 ⟨hc, hs⟩ ?_
  refine lv_iload hx hb dL_law_2001 (lv_at hl 1 rfl) ?_
  refine lv_icmp_eq (tgt := 2008) hx hb dL_law_2003 (by decide) (fun _ => ?_) (fun h => absurd rfl h)
  refine lv_iload hx hb dL_law_2008 (lv_at hl 1 rfl) ?_
  refine lv_if_ne (tgt := 2025) hx hb dL_law_2010 (by decide) (fun _ => ?_) (fun hk => ?_)
  · refine lv_goto (tgt := 2627) hx hb dL_law_2025 (by decide) ?_
    exact kk _ _ _ _ _ _ ⟨hP, ⟨_, _, _, hM⟩, f, hO⟩ hI hS (lv_sub hl [2, 3, 4, 5, 6] rfl)
  · have hK0 : (k_1 P (xs (i + 1))) = 0 := nK0 hk3 hk
    refine lv_aload_n hx hb dL_law_2013 rfl (lv_at hl 5 rfl) ?_
    refine lv_iconst (v := nI 0) hx hb dL_law_2014 (by decide) ?_
    refine r_lald hx hb lf.K rfl hO (hans hK0) dL_law_2015 ?_
    refine lv_iload hx hb dL_law_2016 (lv_at hl 0 rfl) ?_
    refine lv_i2l hx hb dL_law_2018 rfl ?_
    refine r_lcmp hx hb (by rw [rz0 hK0]) dL_law_2019 ?_
    refine lv_if_eq (tgt := 2025) hx hb dL_law_2020 (by decide) (fun _ => ?_) (fun h => absurd rfl h)
    refine lv_goto (tgt := 2627) hx hb dL_law_2025 (by decide) ?_
    exact kk _ _ _ _ _ _ ⟨hP, ⟨_, _, _, hM⟩, f, hO⟩ hI hS (lv_sub hl [2, 3, 4, 5, 6] rfl)
theorem c_heirs {p : Program} {l : Launch} {s : State} {m : MethodId} {below : List Frame} {meth : Method} {c : Code} {H : Heap} {locs : List Loc} {cells slots : Nat} {Q : State → Prop} {e : Env} {ls : Array Slot} {b L : Nat} {D : va_G} {ci cz cj : ClassId} {q0 q1 : Nat → Nat} {F P : Nat} {g : Nat → Nat → Int32} {ob : Nat} {xs : Nat → Int32} {i : Nat} (lf : LF p m c meth s b L xs D ci cz cj) (la : LA q0 q1 ob s.heap.size) (hl0 : l.stackTraces = false) (hL : L ≤ 3072) (hi : i + 6 ≤ L) (hw : LW D ci cz cj q0 q1 ob F P g H) (hI : Iw F P g) (hS : va_S (big s) s.heap H locs) (hl : lv_has ls 9 [(0, .ref b), (1, .ref (q0 0)), (2, .ref (q1 0)), (3, .ref ob), (4, .int (nI i))]) (hc : cells + 1 ≤ room_1.cells) (hs : slots + 6 ≤ room_1.slots) (kk : ∀ (F P : Nat) (g : Nat → Nat → Int32) (H : Heap) (locs : List Loc) (ls : Array Slot), LW D ci cz cj q0 q1 ob F P g H → Iw F P g → va_S (big s) s.heap H locs → lv_has ls 9 [(0, .ref b), (1, .ref (q0 0)), (2, .ref (q1 0)), (3, .ref ob), (4, .int (nI i))] → W p l e room_1 s m #[.ref b] below meth c H locs (cells + 1) (slots + 6) Q (F0 m 2627 ls [])) : W p l e room_1 s m #[.ref b] below meth c H locs cells slots Q (F0 m 2028 ls []) := by
  obtain ⟨hP, ⟨th, he, hn, hM⟩, f, hO⟩ := hw
  have hx := lf.F.1
  have hb := lf.F.2.1
  have hF := hI.1.1.1
  have hP12 := hI.1.1.2
  refine lv_aload_n hx hb dL_law_2028 rfl (lv_at hl 1 rfl) ?_
  refine r_arg lf hS (lv_at hl 0 rfl) (lv_at hl 4 rfl) (k := 1) rfl (by omega) hL rfl rfl rfl rfl rfl dL_law_2029 dL_law_2030 dL_law_2032 dL_law_2033 dL_law_2034 ?_
  refine lv_aload_n hx hb dL_law_2035 rfl (lv_at hl 3 rfl) ?_
  have hk3 : (k_1 P (xs (i + 1))) ≤ 3 := by unfold k_1; (repeat' split) <;> decide
  refine r_callLW (As := [.ref (q0 0), .int (xs (i + 1)), .ref ob]) (rest := []) lf.F (m_L_heirs l hl0 (D := D) (ci := ci) (cz := cz) (cj := cj) (q := q0) (F := F) (P := P) (g := g) (ob := ob) (f0 := f) la.h9 hF hP12 (xs (i + 1)) ) (vx_cwSW 3 lf.F.2.2.2.2 gL_law_L_heirs rfl rfl rfl (by decide +kernel) ⟨Nat.le_of_ble_eq_true rfl, Nat.le_of_ble_eq_true rfl⟩) BL.bl (lf.b0 la hP hO hS) rfl hl.1 rfl (Nat.le_of_ble_eq_true rfl) dL_law_2036 ⟨hc, hs⟩ hS la.o0 (fun H locs hQ hS hkp => ?_)
  obtain ⟨hP, f, hO, hans⟩ := hQ
  have hM : va_P D vwCl (w1 ci cz q1 th F P g he hn) H := P_stay hM hkp la.n1
  refine lv_istore (lv' := [(5, .int (nI (k_1 P (xs (i + 1))))), (0, .ref b), (1, .ref (q0 0)), (2, .ref (q1 0)), (3, .ref ob), (4, .int (nI i))]) hx hb dL_law_2039 hl (by decide) rfl (fun ls hl => ?_)
  refine lv_aload_n hx hb dL_law_2041 rfl (lv_at hl 3 rfl) ?_
  refine r_arg lf hS (lv_at hl 1 rfl) (lv_at hl 5 rfl) (k := 1) rfl (by omega) hL rfl rfl rfl rfl rfl dL_law_2042 dL_law_2043 dL_law_2045 dL_law_2046 dL_law_2047 ?_
  refine r_callW (rest := []) lf.F (m_X1_heirs l (D := D) (ci := ci) (cz := cz) (cj := cj) (q := q1) (F := F) (P := P) (g := g) (th := th) (he := he) (hn := hn) la.h1 hF hP12 (xs (i + 1)) hI.1) (cwV 1 lf.F.2.2.2.2 gL_law_X1_heirs rfl rfl rfl (by decide +kernel) ⟨Nat.le_of_ble_eq_true rfl, Nat.le_of_ble_eq_true rfl⟩) BW.bl (va_recv lf.K hM (ci := 1) (q0 := 0) rfl rfl) (lf.b1 la hM hS) rfl hl.1 rfl (Nat.le_of_ble_eq_true rfl) dL_law_2048 ⟨hc, hs⟩ hS la.o1 (fun H locs hM hS _ hkp => ?_)
  obtain ⟨he, hn, hM⟩ := hM
  have hP : va_P D vwCl (w0 ci cz q0 F P g) H := P_stay hP hkp la.n0
  have hO : va_P D vwCl (wo cj ob f) H := P_stay hO hkp la.no
  refine lv_istore (lv' := [(6, .int (rz (k_1 P (xs (i + 1))) (nI (sCHe g P (ix (xs (i + 1))))))), (5, .int (nI (k_1 P (xs (i + 1))))), (0, .ref b), (1, .ref (q0 0)), (2, .ref (q1 0)), (3, .ref ob), (4, .int (nI i))]) hx hb dL_law_2051 hl (by decide) rfl (fun ls hl => ?_)
  refine lv_aload_n hx hb dL_law_2053 rfl (lv_at hl 4 rfl) ?_
  refine r_callR (rest := []) lf.F (m_X1_thrown l (D := D) (ci := ci) (cz := cz) (cj := cj) (q := q1) (F := F) (P := P) (g := g) (th := nI (k_1 P (xs (i + 1)))) (he := he) (hn := hn) hF hP12) (cwV 0 lf.F.2.2.2.2 gL_law_X1_thrown rfl rfl rfl (by decide +kernel) ⟨Nat.le_of_ble_eq_true rfl, Nat.le_of_ble_eq_true rfl⟩) BW.bl (va_recv lf.K hM (ci := 1) (q0 := 0) rfl rfl) (lf.b1 la hM hS) rfl hl.1 rfl (Nat.le_of_ble_eq_true rfl) dL_law_2054 ⟨hc, hs⟩ ?_
  refine lv_iload hx hb dL_law_2057 (lv_at hl 1 rfl) ?_
  refine lv_icmp_eq (tgt := 2064) hx hb dL_law_2059 (by decide) (fun _ => ?_) (fun h => absurd rfl h)
  refine lv_iload hx hb dL_law_2064 (lv_at hl 1 rfl) ?_
  refine lv_if_ne (tgt := 2081) hx hb dL_law_2066 (by decide) (fun _ => ?_) (fun hk => ?_)
  · refine lv_goto (tgt := 2627) hx hb dL_law_2081 (by decide) ?_
    exact kk _ _ _ _ _ _ ⟨hP, ⟨_, _, _, hM⟩, f, hO⟩ hI hS (lv_sub hl [2, 3, 4, 5, 6] rfl)
  · have hK0 : (k_1 P (xs (i + 1))) = 0 := nK0 hk3 hk
    refine lv_aload_n hx hb dL_law_2069 rfl (lv_at hl 5 rfl) ?_
    refine lv_iconst (v := nI 0) hx hb dL_law_2070 (by decide) ?_
    refine r_lald hx hb lf.K rfl hO (hans hK0) dL_law_2071 ?_
    refine lv_iload hx hb dL_law_2072 (lv_at hl 0 rfl) ?_
    refine lv_i2l hx hb dL_law_2074 rfl ?_
    refine r_lcmp hx hb (by rw [rz0 hK0]) dL_law_2075 ?_
    refine lv_if_eq (tgt := 2081) hx hb dL_law_2076 (by decide) (fun _ => ?_) (fun h => absurd rfl h)
    refine lv_goto (tgt := 2627) hx hb dL_law_2081 (by decide) ?_
    exact kk _ _ _ _ _ _ ⟨hP, ⟨_, _, _, hM⟩, f, hO⟩ hI hS (lv_sub hl [2, 3, 4, 5, 6] rfl)
theorem c_heir {p : Program} {l : Launch} {s : State} {m : MethodId} {below : List Frame} {meth : Method} {c : Code} {H : Heap} {locs : List Loc} {cells slots : Nat} {Q : State → Prop} {e : Env} {ls : Array Slot} {b L : Nat} {D : va_G} {ci cz cj : ClassId} {q0 q1 : Nat → Nat} {F P : Nat} {g : Nat → Nat → Int32} {ob : Nat} {xs : Nat → Int32} {i : Nat} (lf : LF p m c meth s b L xs D ci cz cj) (la : LA q0 q1 ob s.heap.size) (hl0 : l.stackTraces = false) (hL : L ≤ 3072) (hi : i + 6 ≤ L) (hw : LW D ci cz cj q0 q1 ob F P g H) (hI : Iw F P g) (hS : va_S (big s) s.heap H locs) (hl : lv_has ls 9 [(0, .ref b), (1, .ref (q0 0)), (2, .ref (q1 0)), (3, .ref ob), (4, .int (nI i))]) (hc : cells + 1 ≤ room_1.cells) (hs : slots + 6 ≤ room_1.slots) (kk : ∀ (F P : Nat) (g : Nat → Nat → Int32) (H : Heap) (locs : List Loc) (ls : Array Slot), LW D ci cz cj q0 q1 ob F P g H → Iw F P g → va_S (big s) s.heap H locs → lv_has ls 9 [(0, .ref b), (1, .ref (q0 0)), (2, .ref (q1 0)), (3, .ref ob), (4, .int (nI i))] → W p l e room_1 s m #[.ref b] below meth c H locs (cells + 1) (slots + 6) Q (F0 m 2627 ls [])) : W p l e room_1 s m #[.ref b] below meth c H locs cells slots Q (F0 m 2084 ls []) := by
  obtain ⟨hP, ⟨th, he, hn, hM⟩, f, hO⟩ := hw
  have hx := lf.F.1
  have hb := lf.F.2.1
  have hF := hI.1.1.1
  have hP12 := hI.1.1.2
  refine lv_aload_n hx hb dL_law_2084 rfl (lv_at hl 1 rfl) ?_
  refine r_arg lf hS (lv_at hl 0 rfl) (lv_at hl 4 rfl) (k := 1) rfl (by omega) hL rfl rfl rfl rfl rfl dL_law_2085 dL_law_2086 dL_law_2088 dL_law_2089 dL_law_2090 ?_
  refine r_arg lf hS (lv_at hl 0 rfl) (lv_at hl 4 rfl) (k := 2) rfl (by omega) hL rfl rfl rfl rfl rfl dL_law_2091 dL_law_2092 dL_law_2094 dL_law_2095 dL_law_2096 ?_
  refine lv_aload_n hx hb dL_law_2097 rfl (lv_at hl 3 rfl) ?_
  have hk3 : (k_heir P g (xs (i + 1)) (xs (i + 2))) ≤ 3 := by unfold k_heir; (repeat' split) <;> decide
  refine r_callLW (As := [.ref (q0 0), .int (xs (i + 1)), .int (xs (i + 2)), .ref ob]) (rest := []) lf.F (m_L_heir l hl0 (D := D) (ci := ci) (cz := cz) (cj := cj) (q := q0) (F := F) (P := P) (g := g) (ob := ob) (f0 := f) la.h9 hF hP12 (xs (i + 1)) (xs (i + 2)) ) (vx_cwSW 4 lf.F.2.2.2.2 gL_law_L_heir rfl rfl rfl (by decide +kernel) ⟨Nat.le_of_ble_eq_true rfl, Nat.le_of_ble_eq_true rfl⟩) BL.bl (lf.b0 la hP hO hS) rfl hl.1 rfl (Nat.le_of_ble_eq_true rfl) dL_law_2098 ⟨hc, hs⟩ hS la.o0 (fun H locs hQ hS hkp => ?_)
  obtain ⟨hP, f, hO, hans⟩ := hQ
  have hM : va_P D vwCl (w1 ci cz q1 th F P g he hn) H := P_stay hM hkp la.n1
  refine lv_istore (lv' := [(5, .int (nI (k_heir P g (xs (i + 1)) (xs (i + 2))))), (0, .ref b), (1, .ref (q0 0)), (2, .ref (q1 0)), (3, .ref ob), (4, .int (nI i))]) hx hb dL_law_2101 hl (by decide) rfl (fun ls hl => ?_)
  refine lv_aload_n hx hb dL_law_2103 rfl (lv_at hl 3 rfl) ?_
  refine r_arg lf hS (lv_at hl 1 rfl) (lv_at hl 5 rfl) (k := 1) rfl (by omega) hL rfl rfl rfl rfl rfl dL_law_2104 dL_law_2105 dL_law_2107 dL_law_2108 dL_law_2109 ?_
  refine r_arg lf hS (lv_at hl 1 rfl) (lv_at hl 5 rfl) (k := 2) rfl (by omega) hL rfl rfl rfl rfl rfl dL_law_2110 dL_law_2111 dL_law_2113 dL_law_2114 dL_law_2115 ?_
  refine r_callW (rest := []) lf.F (m_X1_heir l (D := D) (ci := ci) (cz := cz) (cj := cj) (q := q1) (F := F) (P := P) (g := g) (th := th) (he := he) (hn := hn) la.h1 hF hP12 (xs (i + 1)) (xs (i + 2)) hI.1) (cwV 2 lf.F.2.2.2.2 gL_law_X1_heir rfl rfl rfl (by decide +kernel) ⟨Nat.le_of_ble_eq_true rfl, Nat.le_of_ble_eq_true rfl⟩) BW.bl (va_recv lf.K hM (ci := 1) (q0 := 0) rfl rfl) (lf.b1 la hM hS) rfl hl.1 rfl (Nat.le_of_ble_eq_true rfl) dL_law_2116 ⟨hc, hs⟩ hS la.o1 (fun H locs hM hS _ hkp => ?_)
  obtain ⟨he, hn, hM⟩ := hM
  have hP : va_P D vwCl (w0 ci cz q0 F P g) H := P_stay hP hkp la.n0
  have hO : va_P D vwCl (wo cj ob f) H := P_stay hO hkp la.no
  refine lv_istore (lv' := [(6, .int (rz (k_heir P g (xs (i + 1)) (xs (i + 2))) (sFH g P (ix (xs (i + 1))) (xs (i + 2))))), (5, .int (nI (k_heir P g (xs (i + 1)) (xs (i + 2))))), (0, .ref b), (1, .ref (q0 0)), (2, .ref (q1 0)), (3, .ref ob), (4, .int (nI i))]) hx hb dL_law_2119 hl (by decide) rfl (fun ls hl => ?_)
  refine lv_aload_n hx hb dL_law_2121 rfl (lv_at hl 4 rfl) ?_
  refine r_callR (rest := []) lf.F (m_X1_thrown l (D := D) (ci := ci) (cz := cz) (cj := cj) (q := q1) (F := F) (P := P) (g := g) (th := nI (k_heir P g (xs (i + 1)) (xs (i + 2)))) (he := he) (hn := hn) hF hP12) (cwV 0 lf.F.2.2.2.2 gL_law_X1_thrown rfl rfl rfl (by decide +kernel) ⟨Nat.le_of_ble_eq_true rfl, Nat.le_of_ble_eq_true rfl⟩) BW.bl (va_recv lf.K hM (ci := 1) (q0 := 0) rfl rfl) (lf.b1 la hM hS) rfl hl.1 rfl (Nat.le_of_ble_eq_true rfl) dL_law_2122 ⟨hc, hs⟩ ?_
  refine lv_iload hx hb dL_law_2125 (lv_at hl 1 rfl) ?_
  refine lv_icmp_eq (tgt := 2132) hx hb dL_law_2127 (by decide) (fun _ => ?_) (fun h => absurd rfl h)
  refine lv_iload hx hb dL_law_2132 (lv_at hl 1 rfl) ?_
  refine lv_if_ne (tgt := 2149) hx hb dL_law_2134 (by decide) (fun _ => ?_) (fun hk => ?_)
  · refine lv_goto (tgt := 2627) hx hb dL_law_2149 (by decide) ?_
    exact kk _ _ _ _ _ _ ⟨hP, ⟨_, _, _, hM⟩, f, hO⟩ hI hS (lv_sub hl [2, 3, 4, 5, 6] rfl)
  · have hK0 : (k_heir P g (xs (i + 1)) (xs (i + 2))) = 0 := nK0 hk3 hk
    refine lv_aload_n hx hb dL_law_2137 rfl (lv_at hl 5 rfl) ?_
    refine lv_iconst (v := nI 0) hx hb dL_law_2138 (by decide) ?_
    refine r_lald hx hb lf.K rfl hO (hans hK0) dL_law_2139 ?_
    refine lv_iload hx hb dL_law_2140 (lv_at hl 0 rfl) ?_
    refine lv_i2l hx hb dL_law_2142 rfl ?_
    refine r_lcmp hx hb (by rw [rz0 hK0]) dL_law_2143 ?_
    refine lv_if_eq (tgt := 2149) hx hb dL_law_2144 (by decide) (fun _ => ?_) (fun h => absurd rfl h)
    refine lv_goto (tgt := 2627) hx hb dL_law_2149 (by decide) ?_
    exact kk _ _ _ _ _ _ ⟨hP, ⟨_, _, _, hM⟩, f, hO⟩ hI hS (lv_sub hl [2, 3, 4, 5, 6] rfl)
theorem c_crownCoins {p : Program} {l : Launch} {s : State} {m : MethodId} {below : List Frame} {meth : Method} {c : Code} {H : Heap} {locs : List Loc} {cells slots : Nat} {Q : State → Prop} {e : Env} {ls : Array Slot} {b L : Nat} {D : va_G} {ci cz cj : ClassId} {q0 q1 : Nat → Nat} {F P : Nat} {g : Nat → Nat → Int32} {ob : Nat} {xs : Nat → Int32} {i : Nat} (lf : LF p m c meth s b L xs D ci cz cj) (la : LA q0 q1 ob s.heap.size) (hl0 : l.stackTraces = false) (hL : L ≤ 3072) (hi : i + 6 ≤ L) (hw : LW D ci cz cj q0 q1 ob F P g H) (hI : Iw F P g) (hS : va_S (big s) s.heap H locs) (hl : lv_has ls 9 [(0, .ref b), (1, .ref (q0 0)), (2, .ref (q1 0)), (3, .ref ob), (4, .int (nI i))]) (hc : cells + 1 ≤ room_1.cells) (hs : slots + 6 ≤ room_1.slots) (kk : ∀ (F P : Nat) (g : Nat → Nat → Int32) (H : Heap) (locs : List Loc) (ls : Array Slot), LW D ci cz cj q0 q1 ob F P g H → Iw F P g → va_S (big s) s.heap H locs → lv_has ls 9 [(0, .ref b), (1, .ref (q0 0)), (2, .ref (q1 0)), (3, .ref ob), (4, .int (nI i))] → W p l e room_1 s m #[.ref b] below meth c H locs (cells + 1) (slots + 6) Q (F0 m 2627 ls [])) : W p l e room_1 s m #[.ref b] below meth c H locs cells slots Q (F0 m 2152 ls []) := by
  obtain ⟨hP, ⟨th, he, hn, hM⟩, f, hO⟩ := hw
  have hx := lf.F.1
  have hb := lf.F.2.1
  have hF := hI.1.1.1
  have hP12 := hI.1.1.2
  refine lv_aload_n hx hb dL_law_2152 rfl (lv_at hl 1 rfl) ?_
  refine r_callR (rest := []) lf.F (m_X0_crownCoins l (D := D) (ci := ci) (cz := cz) (cj := cj) (q := q0) (F := F) (P := P) (g := g) hF hP12) (cwV 0 lf.F.2.2.2.2 gL_law_X0_crownCoins rfl rfl rfl (by decide +kernel) ⟨Nat.le_of_ble_eq_true rfl, Nat.le_of_ble_eq_true rfl⟩) BW.bl (va_recv lf.K hP (ci := 0) (q0 := 0) rfl rfl) (lf.b0' la hP hS) rfl hl.1 rfl (Nat.le_of_ble_eq_true rfl) dL_law_2153 ⟨Nat.le_of_succ_le hc, Nat.le_trans (Nat.le_add_right _ 6) hs⟩ ?_
  refine lv_aload_n hx hb dL_law_2156 rfl (lv_at hl 2 rfl) ?_
  refine r_callW (rest := [.int (g 7 0)]) lf.F (m_X1_crownCoins l (D := D) (ci := ci) (cz := cz) (cj := cj) (q := q1) (F := F) (P := P) (g := g) (th := th) (he := he) (hn := hn) la.h1 hF hP12 hI.1) (cwV 0 lf.F.2.2.2.2 gL_law_X1_crownCoins rfl rfl rfl (by decide +kernel) ⟨Nat.le_of_ble_eq_true rfl, Nat.le_of_ble_eq_true rfl⟩) BW.bl (va_recv lf.K hM (ci := 1) (q0 := 0) rfl rfl) (lf.b1 la hM hS) rfl hl.1 rfl (Nat.le_of_ble_eq_true rfl) dL_law_2157 ⟨Nat.le_of_succ_le hc, Nat.le_trans (Nat.le_add_right _ 6) hs⟩ hS la.o1 (fun H locs hM hS _ hkp => ?_)
  obtain ⟨he, hn, hM⟩ := hM
  have hP : va_P D vwCl (w0 ci cz q0 F P g) H := P_stay hP hkp la.n0
  have hO : va_P D vwCl (wo cj ob f) H := P_stay hO hkp la.no
  refine lv_icmp_eq (tgt := 2627) hx hb dL_law_2160 (by decide) (fun _ => ?_) (fun h => absurd rfl h)
  refine W.widen (Nat.le_add_right _ 1) (Nat.le_add_right _ 6) ?_
  exact kk _ _ _ _ _ _ ⟨hP, ⟨_, _, _, hM⟩, f, hO⟩ hI hS hl
theorem c_price {p : Program} {l : Launch} {s : State} {m : MethodId} {below : List Frame} {meth : Method} {c : Code} {H : Heap} {locs : List Loc} {cells slots : Nat} {Q : State → Prop} {e : Env} {ls : Array Slot} {b L : Nat} {D : va_G} {ci cz cj : ClassId} {q0 q1 : Nat → Nat} {F P : Nat} {g : Nat → Nat → Int32} {ob : Nat} {xs : Nat → Int32} {i : Nat} (lf : LF p m c meth s b L xs D ci cz cj) (la : LA q0 q1 ob s.heap.size) (hl0 : l.stackTraces = false) (hL : L ≤ 3072) (hi : i + 6 ≤ L) (hw : LW D ci cz cj q0 q1 ob F P g H) (hI : Iw F P g) (hS : va_S (big s) s.heap H locs) (hl : lv_has ls 9 [(0, .ref b), (1, .ref (q0 0)), (2, .ref (q1 0)), (3, .ref ob), (4, .int (nI i))]) (hc : cells + 1 ≤ room_1.cells) (hs : slots + 6 ≤ room_1.slots) (kk : ∀ (F P : Nat) (g : Nat → Nat → Int32) (H : Heap) (locs : List Loc) (ls : Array Slot), LW D ci cz cj q0 q1 ob F P g H → Iw F P g → va_S (big s) s.heap H locs → lv_has ls 9 [(0, .ref b), (1, .ref (q0 0)), (2, .ref (q1 0)), (3, .ref ob), (4, .int (nI i))] → W p l e room_1 s m #[.ref b] below meth c H locs (cells + 1) (slots + 6) Q (F0 m 2627 ls [])) : W p l e room_1 s m #[.ref b] below meth c H locs cells slots Q (F0 m 2165 ls []) := by
  obtain ⟨hP, ⟨th, he, hn, hM⟩, f, hO⟩ := hw
  have hx := lf.F.1
  have hb := lf.F.2.1
  have hF := hI.1.1.1
  have hP12 := hI.1.1.2
  refine lv_aload_n hx hb dL_law_2165 rfl (lv_at hl 1 rfl) ?_
  refine r_arg lf hS (lv_at hl 0 rfl) (lv_at hl 4 rfl) (k := 1) rfl (by omega) hL rfl rfl rfl rfl rfl dL_law_2166 dL_law_2167 dL_law_2169 dL_law_2170 dL_law_2171 ?_
  refine r_arg lf hS (lv_at hl 0 rfl) (lv_at hl 4 rfl) (k := 2) rfl (by omega) hL rfl rfl rfl rfl rfl dL_law_2172 dL_law_2173 dL_law_2175 dL_law_2176 dL_law_2177 ?_
  refine r_arg lf hS (lv_at hl 0 rfl) (lv_at hl 4 rfl) (k := 3) rfl (by omega) hL rfl rfl rfl rfl rfl dL_law_2178 dL_law_2179 dL_law_2181 dL_law_2182 dL_law_2183 ?_
  refine lv_aload_n hx hb dL_law_2184 rfl (lv_at hl 3 rfl) ?_
  have hk3 : (k_pfw F P (xs (i + 1)) (xs (i + 2)) (xs (i + 3))) ≤ 3 := by unfold k_pfw; (repeat' split) <;> decide
  refine r_callLW (As := [.ref (q0 0), .int (xs (i + 1)), .int (xs (i + 2)), .int (xs (i + 3)), .ref ob]) (rest := []) lf.F (m_L_price l hl0 (D := D) (ci := ci) (cz := cz) (cj := cj) (q := q0) (F := F) (P := P) (g := g) (ob := ob) (f0 := f) la.h9 hF hP12 (xs (i + 1)) (xs (i + 2)) (xs (i + 3)) ) (vx_cwSW 5 lf.F.2.2.2.2 gL_law_L_price rfl rfl rfl (by decide +kernel) ⟨Nat.le_of_ble_eq_true rfl, Nat.le_of_ble_eq_true rfl⟩) BL.bl (lf.b0 la hP hO hS) rfl hl.1 rfl (Nat.le_of_ble_eq_true rfl) dL_law_2185 ⟨hc, hs⟩ hS la.o0 (fun H locs hQ hS hkp => ?_)
  obtain ⟨hP, f, hO, hans⟩ := hQ
  have hM : va_P D vwCl (w1 ci cz q1 th F P g he hn) H := P_stay hM hkp la.n1
  refine lv_istore (lv' := [(5, .int (nI (k_pfw F P (xs (i + 1)) (xs (i + 2)) (xs (i + 3))))), (0, .ref b), (1, .ref (q0 0)), (2, .ref (q1 0)), (3, .ref ob), (4, .int (nI i))]) hx hb dL_law_2188 hl (by decide) rfl (fun ls hl => ?_)
  refine lv_aload_n hx hb dL_law_2190 rfl (lv_at hl 3 rfl) ?_
  refine r_arg lf hS (lv_at hl 1 rfl) (lv_at hl 5 rfl) (k := 1) rfl (by omega) hL rfl rfl rfl rfl rfl dL_law_2191 dL_law_2192 dL_law_2194 dL_law_2195 dL_law_2196 ?_
  refine r_arg lf hS (lv_at hl 1 rfl) (lv_at hl 5 rfl) (k := 2) rfl (by omega) hL rfl rfl rfl rfl rfl dL_law_2197 dL_law_2198 dL_law_2200 dL_law_2201 dL_law_2202 ?_
  refine r_arg lf hS (lv_at hl 1 rfl) (lv_at hl 5 rfl) (k := 3) rfl (by omega) hL rfl rfl rfl rfl rfl dL_law_2203 dL_law_2204 dL_law_2206 dL_law_2207 dL_law_2208 ?_
  refine r_callW (rest := []) lf.F (m_X1_price l (D := D) (ci := ci) (cz := cz) (cj := cj) (q := q1) (F := F) (P := P) (g := g) (th := th) (he := he) (hn := hn) la.h1 hF hP12 (xs (i + 1)) (xs (i + 2)) (xs (i + 3)) hI.1) (cwV 3 lf.F.2.2.2.2 gL_law_X1_price rfl rfl rfl (by decide +kernel) ⟨Nat.le_of_ble_eq_true rfl, Nat.le_of_ble_eq_true rfl⟩) BW.bl (va_recv lf.K hM (ci := 1) (q0 := 0) rfl rfl) (lf.b1 la hM hS) rfl hl.1 rfl (Nat.le_of_ble_eq_true rfl) dL_law_2209 ⟨hc, hs⟩ hS la.o1 (fun H locs hM hS _ hkp => ?_)
  obtain ⟨he, hn, hM⟩ := hM
  have hP : va_P D vwCl (w0 ci cz q0 F P g) H := P_stay hP hkp la.n0
  have hO : va_P D vwCl (wo cj ob f) H := P_stay hO hkp la.no
  refine lv_istore (lv' := [(6, .int (rz (k_pfw F P (xs (i + 1)) (xs (i + 2)) (xs (i + 3))) (sPri g (ix (xs (i + 2))) (ix (xs (i + 3))) (ix (xs (i + 1)))))), (5, .int (nI (k_pfw F P (xs (i + 1)) (xs (i + 2)) (xs (i + 3))))), (0, .ref b), (1, .ref (q0 0)), (2, .ref (q1 0)), (3, .ref ob), (4, .int (nI i))]) hx hb dL_law_2212 hl (by decide) rfl (fun ls hl => ?_)
  refine lv_aload_n hx hb dL_law_2214 rfl (lv_at hl 4 rfl) ?_
  refine r_callR (rest := []) lf.F (m_X1_thrown l (D := D) (ci := ci) (cz := cz) (cj := cj) (q := q1) (F := F) (P := P) (g := g) (th := nI (k_pfw F P (xs (i + 1)) (xs (i + 2)) (xs (i + 3)))) (he := he) (hn := hn) hF hP12) (cwV 0 lf.F.2.2.2.2 gL_law_X1_thrown rfl rfl rfl (by decide +kernel) ⟨Nat.le_of_ble_eq_true rfl, Nat.le_of_ble_eq_true rfl⟩) BW.bl (va_recv lf.K hM (ci := 1) (q0 := 0) rfl rfl) (lf.b1 la hM hS) rfl hl.1 rfl (Nat.le_of_ble_eq_true rfl) dL_law_2215 ⟨hc, hs⟩ ?_
  refine lv_iload hx hb dL_law_2218 (lv_at hl 1 rfl) ?_
  refine lv_icmp_eq (tgt := 2225) hx hb dL_law_2220 (by decide) (fun _ => ?_) (fun h => absurd rfl h)
  refine lv_iload hx hb dL_law_2225 (lv_at hl 1 rfl) ?_
  refine lv_if_ne (tgt := 2242) hx hb dL_law_2227 (by decide) (fun _ => ?_) (fun hk => ?_)
  · refine lv_goto (tgt := 2627) hx hb dL_law_2242 (by decide) ?_
    exact kk _ _ _ _ _ _ ⟨hP, ⟨_, _, _, hM⟩, f, hO⟩ hI hS (lv_sub hl [2, 3, 4, 5, 6] rfl)
  · have hK0 : (k_pfw F P (xs (i + 1)) (xs (i + 2)) (xs (i + 3))) = 0 := nK0 hk3 hk
    refine lv_aload_n hx hb dL_law_2230 rfl (lv_at hl 5 rfl) ?_
    refine lv_iconst (v := nI 0) hx hb dL_law_2231 (by decide) ?_
    refine r_lald hx hb lf.K rfl hO (hans hK0) dL_law_2232 ?_
    refine lv_iload hx hb dL_law_2233 (lv_at hl 0 rfl) ?_
    refine lv_i2l hx hb dL_law_2235 rfl ?_
    refine r_lcmp hx hb (by rw [rz0 hK0]) dL_law_2236 ?_
    refine lv_if_eq (tgt := 2242) hx hb dL_law_2237 (by decide) (fun _ => ?_) (fun h => absurd rfl h)
    refine lv_goto (tgt := 2627) hx hb dL_law_2242 (by decide) ?_
    exact kk _ _ _ _ _ _ ⟨hP, ⟨_, _, _, hM⟩, f, hO⟩ hI hS (lv_sub hl [2, 3, 4, 5, 6] rfl)
theorem c_canBuy {p : Program} {l : Launch} {s : State} {m : MethodId} {below : List Frame} {meth : Method} {c : Code} {H : Heap} {locs : List Loc} {cells slots : Nat} {Q : State → Prop} {e : Env} {ls : Array Slot} {b L : Nat} {D : va_G} {ci cz cj : ClassId} {q0 q1 : Nat → Nat} {F P : Nat} {g : Nat → Nat → Int32} {ob : Nat} {xs : Nat → Int32} {i : Nat} (lf : LF p m c meth s b L xs D ci cz cj) (la : LA q0 q1 ob s.heap.size) (hl0 : l.stackTraces = false) (hL : L ≤ 3072) (hi : i + 6 ≤ L) (hw : LW D ci cz cj q0 q1 ob F P g H) (hI : Iw F P g) (hS : va_S (big s) s.heap H locs) (hl : lv_has ls 9 [(0, .ref b), (1, .ref (q0 0)), (2, .ref (q1 0)), (3, .ref ob), (4, .int (nI i))]) (hc : cells + 1 ≤ room_1.cells) (hs : slots + 6 ≤ room_1.slots) (kk : ∀ (F P : Nat) (g : Nat → Nat → Int32) (H : Heap) (locs : List Loc) (ls : Array Slot), LW D ci cz cj q0 q1 ob F P g H → Iw F P g → va_S (big s) s.heap H locs → lv_has ls 9 [(0, .ref b), (1, .ref (q0 0)), (2, .ref (q1 0)), (3, .ref ob), (4, .int (nI i))] → W p l e room_1 s m #[.ref b] below meth c H locs (cells + 1) (slots + 6) Q (F0 m 2627 ls [])) : W p l e room_1 s m #[.ref b] below meth c H locs cells slots Q (F0 m 2245 ls []) := by
  obtain ⟨hP, ⟨th, he, hn, hM⟩, f, hO⟩ := hw
  have hx := lf.F.1
  have hb := lf.F.2.1
  have hF := hI.1.1.1
  have hP12 := hI.1.1.2
  refine lv_aload_n hx hb dL_law_2245 rfl (lv_at hl 1 rfl) ?_
  refine r_arg lf hS (lv_at hl 0 rfl) (lv_at hl 4 rfl) (k := 1) rfl (by omega) hL rfl rfl rfl rfl rfl dL_law_2246 dL_law_2247 dL_law_2249 dL_law_2250 dL_law_2251 ?_
  refine r_arg lf hS (lv_at hl 0 rfl) (lv_at hl 4 rfl) (k := 2) rfl (by omega) hL rfl rfl rfl rfl rfl dL_law_2252 dL_law_2253 dL_law_2255 dL_law_2256 dL_law_2257 ?_
  refine r_arg lf hS (lv_at hl 0 rfl) (lv_at hl 4 rfl) (k := 3) rfl (by omega) hL rfl rfl rfl rfl rfl dL_law_2258 dL_law_2259 dL_law_2261 dL_law_2262 dL_law_2263 ?_
  refine r_arg lf hS (lv_at hl 0 rfl) (lv_at hl 4 rfl) (k := 4) rfl (by omega) hL rfl rfl rfl rfl rfl dL_law_2264 dL_law_2265 dL_law_2267 dL_law_2268 dL_law_2269 ?_
  refine lv_aload_n hx hb dL_law_2270 rfl (lv_at hl 3 rfl) ?_
  have hk3 : (k_ppfw F P (xs (i + 1)) (xs (i + 2)) (xs (i + 3)) (xs (i + 4))) ≤ 3 := by unfold k_ppfw; (repeat' split) <;> decide
  refine r_callLW (As := [.ref (q0 0), .int (xs (i + 1)), .int (xs (i + 2)), .int (xs (i + 3)), .int (xs (i + 4)), .ref ob]) (rest := []) lf.F (m_L_canBuy l hl0 (D := D) (ci := ci) (cz := cz) (cj := cj) (q := q0) (F := F) (P := P) (g := g) (ob := ob) (f0 := f) la.h9 hF hP12 (xs (i + 1)) (xs (i + 2)) (xs (i + 3)) (xs (i + 4)) ) (vx_cwSW 6 lf.F.2.2.2.2 gL_law_L_canBuy rfl rfl rfl (by decide +kernel) ⟨Nat.le_of_ble_eq_true rfl, Nat.le_of_ble_eq_true rfl⟩) BL.bl (lf.b0 la hP hO hS) rfl hl.1 rfl (Nat.le_of_ble_eq_true rfl) dL_law_2271 ⟨hc, hs⟩ hS la.o0 (fun H locs hQ hS hkp => ?_)
  obtain ⟨hP, f, hO, hans⟩ := hQ
  have hM : va_P D vwCl (w1 ci cz q1 th F P g he hn) H := P_stay hM hkp la.n1
  refine lv_istore (lv' := [(5, .int (nI (k_ppfw F P (xs (i + 1)) (xs (i + 2)) (xs (i + 3)) (xs (i + 4))))), (0, .ref b), (1, .ref (q0 0)), (2, .ref (q1 0)), (3, .ref ob), (4, .int (nI i))]) hx hb dL_law_2274 hl (by decide) rfl (fun ls hl => ?_)
  refine lv_aload_n hx hb dL_law_2276 rfl (lv_at hl 3 rfl) ?_
  refine r_arg lf hS (lv_at hl 1 rfl) (lv_at hl 5 rfl) (k := 1) rfl (by omega) hL rfl rfl rfl rfl rfl dL_law_2277 dL_law_2278 dL_law_2280 dL_law_2281 dL_law_2282 ?_
  refine r_arg lf hS (lv_at hl 1 rfl) (lv_at hl 5 rfl) (k := 2) rfl (by omega) hL rfl rfl rfl rfl rfl dL_law_2283 dL_law_2284 dL_law_2286 dL_law_2287 dL_law_2288 ?_
  refine r_arg lf hS (lv_at hl 1 rfl) (lv_at hl 5 rfl) (k := 3) rfl (by omega) hL rfl rfl rfl rfl rfl dL_law_2289 dL_law_2290 dL_law_2292 dL_law_2293 dL_law_2294 ?_
  refine r_arg lf hS (lv_at hl 1 rfl) (lv_at hl 5 rfl) (k := 4) rfl (by omega) hL rfl rfl rfl rfl rfl dL_law_2295 dL_law_2296 dL_law_2298 dL_law_2299 dL_law_2300 ?_
  refine r_callW (rest := []) lf.F (m_X1_canBuy l (D := D) (ci := ci) (cz := cz) (cj := cj) (q := q1) (F := F) (P := P) (g := g) (th := th) (he := he) (hn := hn) la.h1 hF hP12 (xs (i + 1)) (xs (i + 2)) (xs (i + 3)) (xs (i + 4)) hI.1) (cwV 4 lf.F.2.2.2.2 gL_law_X1_canBuy rfl rfl rfl (by decide +kernel) ⟨Nat.le_of_ble_eq_true rfl, Nat.le_of_ble_eq_true rfl⟩) BW.bl (va_recv lf.K hM (ci := 1) (q0 := 0) rfl rfl) (lf.b1 la hM hS) rfl hl.1 rfl (Nat.le_of_ble_eq_true rfl) dL_law_2301 ⟨hc, hs⟩ hS la.o1 (fun H locs hM hS _ hkp => ?_)
  obtain ⟨he, hn, hM⟩ := hM
  have hP : va_P D vwCl (w0 ci cz q0 F P g) H := P_stay hP hkp la.n0
  have hO : va_P D vwCl (wo cj ob f) H := P_stay hO hkp la.no
  refine lv_istore (lv' := [(6, .int (bI (rb (k_ppfw F P (xs (i + 1)) (xs (i + 2)) (xs (i + 3)) (xs (i + 4))) (sMay g P (ix (xs (i + 1))) (ix (xs (i + 2))) (ix (xs (i + 3))) (ix (xs (i + 4))))))), (5, .int (nI (k_ppfw F P (xs (i + 1)) (xs (i + 2)) (xs (i + 3)) (xs (i + 4))))), (0, .ref b), (1, .ref (q0 0)), (2, .ref (q1 0)), (3, .ref ob), (4, .int (nI i))]) hx hb dL_law_2304 hl (by decide) rfl (fun ls hl => ?_)
  refine lv_aload_n hx hb dL_law_2306 rfl (lv_at hl 4 rfl) ?_
  refine r_callR (rest := []) lf.F (m_X1_thrown l (D := D) (ci := ci) (cz := cz) (cj := cj) (q := q1) (F := F) (P := P) (g := g) (th := nI (k_ppfw F P (xs (i + 1)) (xs (i + 2)) (xs (i + 3)) (xs (i + 4)))) (he := he) (hn := hn) hF hP12) (cwV 0 lf.F.2.2.2.2 gL_law_X1_thrown rfl rfl rfl (by decide +kernel) ⟨Nat.le_of_ble_eq_true rfl, Nat.le_of_ble_eq_true rfl⟩) BW.bl (va_recv lf.K hM (ci := 1) (q0 := 0) rfl rfl) (lf.b1 la hM hS) rfl hl.1 rfl (Nat.le_of_ble_eq_true rfl) dL_law_2307 ⟨hc, hs⟩ ?_
  refine lv_iload hx hb dL_law_2310 (lv_at hl 1 rfl) ?_
  refine lv_icmp_eq (tgt := 2317) hx hb dL_law_2312 (by decide) (fun _ => ?_) (fun h => absurd rfl h)
  refine lv_iload hx hb dL_law_2317 (lv_at hl 1 rfl) ?_
  refine lv_if_ne (tgt := 2341) hx hb dL_law_2319 (by decide) (fun _ => ?_) (fun hk => ?_)
  · refine lv_goto (tgt := 2627) hx hb dL_law_2341 (by decide) ?_
    exact kk _ _ _ _ _ _ ⟨hP, ⟨_, _, _, hM⟩, f, hO⟩ hI hS (lv_sub hl [2, 3, 4, 5, 6] rfl)
  · have hK0 : (k_ppfw F P (xs (i + 1)) (xs (i + 2)) (xs (i + 3)) (xs (i + 4))) = 0 := nK0 hk3 hk
    refine lv_aload_n hx hb dL_law_2322 rfl (lv_at hl 5 rfl) ?_
    refine lv_iconst (v := nI 0) hx hb dL_law_2323 (by decide) ?_
    refine r_lald hx hb lf.K rfl hO (hans hK0) dL_law_2324 ?_
    refine lv_iload hx hb dL_law_2325 (lv_at hl 0 rfl) ?_
    refine b_if_eq (tgt := 2334) hx hb dL_law_2327 (by decide) (fun hb9 => ?_) (fun hb9 => ?_)
    · refine lv_lconst (v := 0) hx hb dL_law_2334 rfl ?_
      refine r_lcmp hx hb (by rw [rb0 hK0] at hb9; rw [hb9]; rfl) dL_law_2335 ?_
      refine lv_if_eq (tgt := 2341) hx hb dL_law_2336 (by decide) (fun _ => ?_) (fun h => absurd rfl h)
      refine lv_goto (tgt := 2627) hx hb dL_law_2341 (by decide) ?_
      exact kk _ _ _ _ _ _ ⟨hP, ⟨_, _, _, hM⟩, f, hO⟩ hI hS (lv_sub hl [2, 3, 4, 5, 6] rfl)
    · refine lv_lconst (v := 1) hx hb dL_law_2330 rfl ?_
      refine lv_goto (tgt := 2335) hx hb dL_law_2331 (by decide) ?_
      refine r_lcmp hx hb (by rw [rb0 hK0] at hb9; rw [hb9]; rfl) dL_law_2335 ?_
      refine lv_if_eq (tgt := 2341) hx hb dL_law_2336 (by decide) (fun _ => ?_) (fun h => absurd rfl h)
      refine lv_goto (tgt := 2627) hx hb dL_law_2341 (by decide) ?_
      exact kk _ _ _ _ _ _ ⟨hP, ⟨_, _, _, hM⟩, f, hO⟩ hI hS (lv_sub hl [2, 3, 4, 5, 6] rfl)
theorem c_inheritance {p : Program} {l : Launch} {s : State} {m : MethodId} {below : List Frame} {meth : Method} {c : Code} {H : Heap} {locs : List Loc} {cells slots : Nat} {Q : State → Prop} {e : Env} {ls : Array Slot} {b L : Nat} {D : va_G} {ci cz cj : ClassId} {q0 q1 : Nat → Nat} {F P : Nat} {g : Nat → Nat → Int32} {ob : Nat} {xs : Nat → Int32} {i : Nat} (lf : LF p m c meth s b L xs D ci cz cj) (la : LA q0 q1 ob s.heap.size) (hl0 : l.stackTraces = false) (hL : L ≤ 3072) (hi : i + 6 ≤ L) (hw : LW D ci cz cj q0 q1 ob F P g H) (hI : Iw F P g) (hS : va_S (big s) s.heap H locs) (hl : lv_has ls 9 [(0, .ref b), (1, .ref (q0 0)), (2, .ref (q1 0)), (3, .ref ob), (4, .int (nI i))]) (hc : cells + 1 ≤ room_1.cells) (hs : slots + 6 ≤ room_1.slots) (kk : ∀ (F P : Nat) (g : Nat → Nat → Int32) (H : Heap) (locs : List Loc) (ls : Array Slot), LW D ci cz cj q0 q1 ob F P g H → Iw F P g → va_S (big s) s.heap H locs → lv_has ls 9 [(0, .ref b), (1, .ref (q0 0)), (2, .ref (q1 0)), (3, .ref ob), (4, .int (nI i))] → W p l e room_1 s m #[.ref b] below meth c H locs (cells + 1) (slots + 6) Q (F0 m 2627 ls [])) : W p l e room_1 s m #[.ref b] below meth c H locs cells slots Q (F0 m 2344 ls []) := by
  obtain ⟨hP, ⟨th, he, hn, hM⟩, f, hO⟩ := hw
  have hx := lf.F.1
  have hb := lf.F.2.1
  have hF := hI.1.1.1
  have hP12 := hI.1.1.2
  refine lv_aload_n hx hb dL_law_2344 rfl (lv_at hl 1 rfl) ?_
  refine r_arg lf hS (lv_at hl 0 rfl) (lv_at hl 4 rfl) (k := 1) rfl (by omega) hL rfl rfl rfl rfl rfl dL_law_2345 dL_law_2346 dL_law_2348 dL_law_2349 dL_law_2350 ?_
  refine r_arg lf hS (lv_at hl 0 rfl) (lv_at hl 4 rfl) (k := 2) rfl (by omega) hL rfl rfl rfl rfl rfl dL_law_2351 dL_law_2352 dL_law_2354 dL_law_2355 dL_law_2356 ?_
  refine r_arg lf hS (lv_at hl 0 rfl) (lv_at hl 4 rfl) (k := 3) rfl (by omega) hL rfl rfl rfl rfl rfl dL_law_2357 dL_law_2358 dL_law_2360 dL_law_2361 dL_law_2362 ?_
  refine r_arg lf hS (lv_at hl 0 rfl) (lv_at hl 4 rfl) (k := 4) rfl (by omega) hL rfl rfl rfl rfl rfl dL_law_2363 dL_law_2364 dL_law_2366 dL_law_2367 dL_law_2368 ?_
  refine lv_aload_n hx hb dL_law_2369 rfl (lv_at hl 3 rfl) ?_
  have hk3 : (k_ppfw F P (xs (i + 1)) (xs (i + 2)) (xs (i + 3)) (xs (i + 4))) ≤ 3 := by unfold k_ppfw; (repeat' split) <;> decide
  refine r_callLW (As := [.ref (q0 0), .int (xs (i + 1)), .int (xs (i + 2)), .int (xs (i + 3)), .int (xs (i + 4)), .ref ob]) (rest := []) lf.F (m_L_inheritance l hl0 (D := D) (ci := ci) (cz := cz) (cj := cj) (q := q0) (F := F) (P := P) (g := g) (ob := ob) (f0 := f) la.h9 hF hP12 (xs (i + 1)) (xs (i + 2)) (xs (i + 3)) (xs (i + 4)) ) (vx_cwSW 6 lf.F.2.2.2.2 gL_law_L_inheritance rfl rfl rfl (by decide +kernel) ⟨Nat.le_of_ble_eq_true rfl, Nat.le_of_ble_eq_true rfl⟩) BL.bl (lf.b0 la hP hO hS) rfl hl.1 rfl (Nat.le_of_ble_eq_true rfl) dL_law_2370 ⟨hc, hs⟩ hS la.o0 (fun H locs hQ hS hkp => ?_)
  obtain ⟨hP, f, hO, hans⟩ := hQ
  have hM : va_P D vwCl (w1 ci cz q1 th F P g he hn) H := P_stay hM hkp la.n1
  refine lv_istore (lv' := [(5, .int (nI (k_ppfw F P (xs (i + 1)) (xs (i + 2)) (xs (i + 3)) (xs (i + 4))))), (0, .ref b), (1, .ref (q0 0)), (2, .ref (q1 0)), (3, .ref ob), (4, .int (nI i))]) hx hb dL_law_2373 hl (by decide) rfl (fun ls hl => ?_)
  refine lv_aload_n hx hb dL_law_2375 rfl (lv_at hl 3 rfl) ?_
  refine r_arg lf hS (lv_at hl 1 rfl) (lv_at hl 5 rfl) (k := 1) rfl (by omega) hL rfl rfl rfl rfl rfl dL_law_2376 dL_law_2377 dL_law_2379 dL_law_2380 dL_law_2381 ?_
  refine r_arg lf hS (lv_at hl 1 rfl) (lv_at hl 5 rfl) (k := 2) rfl (by omega) hL rfl rfl rfl rfl rfl dL_law_2382 dL_law_2383 dL_law_2385 dL_law_2386 dL_law_2387 ?_
  refine r_arg lf hS (lv_at hl 1 rfl) (lv_at hl 5 rfl) (k := 3) rfl (by omega) hL rfl rfl rfl rfl rfl dL_law_2388 dL_law_2389 dL_law_2391 dL_law_2392 dL_law_2393 ?_
  refine r_arg lf hS (lv_at hl 1 rfl) (lv_at hl 5 rfl) (k := 4) rfl (by omega) hL rfl rfl rfl rfl rfl dL_law_2394 dL_law_2395 dL_law_2397 dL_law_2398 dL_law_2399 ?_
  refine r_callW (rest := []) lf.F (m_X1_inheritance l (D := D) (ci := ci) (cz := cz) (cj := cj) (q := q1) (F := F) (P := P) (g := g) (th := th) (he := he) (hn := hn) la.h1 hF hP12 (xs (i + 1)) (xs (i + 2)) (xs (i + 3)) (xs (i + 4)) hI.1) (cwV 4 lf.F.2.2.2.2 gL_law_X1_inheritance rfl rfl rfl (by decide +kernel) ⟨Nat.le_of_ble_eq_true rfl, Nat.le_of_ble_eq_true rfl⟩) BW.bl (va_recv lf.K hM (ci := 1) (q0 := 0) rfl rfl) (lf.b1 la hM hS) rfl hl.1 rfl (Nat.le_of_ble_eq_true rfl) dL_law_2400 ⟨hc, hs⟩ hS la.o1 (fun H locs hM hS _ hkp => ?_)
  obtain ⟨he, hn, hM⟩ := hM
  have hP : va_P D vwCl (w0 ci cz q0 F P g) H := P_stay hP hkp la.n0
  have hO : va_P D vwCl (wo cj ob f) H := P_stay hO hkp la.no
  refine lv_istore (lv' := [(6, .int (rz (k_ppfw F P (xs (i + 1)) (xs (i + 2)) (xs (i + 3)) (xs (i + 4))) (sInh g P (ix (xs (i + 1))) (ix (xs (i + 2))) (ix (xs (i + 3))) (ix (xs (i + 4)))))), (5, .int (nI (k_ppfw F P (xs (i + 1)) (xs (i + 2)) (xs (i + 3)) (xs (i + 4))))), (0, .ref b), (1, .ref (q0 0)), (2, .ref (q1 0)), (3, .ref ob), (4, .int (nI i))]) hx hb dL_law_2403 hl (by decide) rfl (fun ls hl => ?_)
  refine lv_aload_n hx hb dL_law_2405 rfl (lv_at hl 4 rfl) ?_
  refine r_callR (rest := []) lf.F (m_X1_thrown l (D := D) (ci := ci) (cz := cz) (cj := cj) (q := q1) (F := F) (P := P) (g := g) (th := nI (k_ppfw F P (xs (i + 1)) (xs (i + 2)) (xs (i + 3)) (xs (i + 4)))) (he := he) (hn := hn) hF hP12) (cwV 0 lf.F.2.2.2.2 gL_law_X1_thrown rfl rfl rfl (by decide +kernel) ⟨Nat.le_of_ble_eq_true rfl, Nat.le_of_ble_eq_true rfl⟩) BW.bl (va_recv lf.K hM (ci := 1) (q0 := 0) rfl rfl) (lf.b1 la hM hS) rfl hl.1 rfl (Nat.le_of_ble_eq_true rfl) dL_law_2406 ⟨hc, hs⟩ ?_
  refine lv_iload hx hb dL_law_2409 (lv_at hl 1 rfl) ?_
  refine lv_icmp_eq (tgt := 2416) hx hb dL_law_2411 (by decide) (fun _ => ?_) (fun h => absurd rfl h)
  refine lv_iload hx hb dL_law_2416 (lv_at hl 1 rfl) ?_
  refine lv_if_ne (tgt := 2433) hx hb dL_law_2418 (by decide) (fun _ => ?_) (fun hk => ?_)
  · refine lv_goto (tgt := 2627) hx hb dL_law_2433 (by decide) ?_
    exact kk _ _ _ _ _ _ ⟨hP, ⟨_, _, _, hM⟩, f, hO⟩ hI hS (lv_sub hl [2, 3, 4, 5, 6] rfl)
  · have hK0 : (k_ppfw F P (xs (i + 1)) (xs (i + 2)) (xs (i + 3)) (xs (i + 4))) = 0 := nK0 hk3 hk
    refine lv_aload_n hx hb dL_law_2421 rfl (lv_at hl 5 rfl) ?_
    refine lv_iconst (v := nI 0) hx hb dL_law_2422 (by decide) ?_
    refine r_lald hx hb lf.K rfl hO (hans hK0) dL_law_2423 ?_
    refine lv_iload hx hb dL_law_2424 (lv_at hl 0 rfl) ?_
    refine lv_i2l hx hb dL_law_2426 rfl ?_
    refine r_lcmp hx hb (by rw [rz0 hK0]) dL_law_2427 ?_
    refine lv_if_eq (tgt := 2433) hx hb dL_law_2428 (by decide) (fun _ => ?_) (fun h => absurd rfl h)
    refine lv_goto (tgt := 2627) hx hb dL_law_2433 (by decide) ?_
    exact kk _ _ _ _ _ _ ⟨hP, ⟨_, _, _, hM⟩, f, hO⟩ hI hS (lv_sub hl [2, 3, 4, 5, 6] rfl)
theorem c_fare {p : Program} {l : Launch} {s : State} {m : MethodId} {below : List Frame} {meth : Method} {c : Code} {H : Heap} {locs : List Loc} {cells slots : Nat} {Q : State → Prop} {e : Env} {ls : Array Slot} {b L : Nat} {D : va_G} {ci cz cj : ClassId} {q0 q1 : Nat → Nat} {F P : Nat} {g : Nat → Nat → Int32} {ob : Nat} {xs : Nat → Int32} {i : Nat} (lf : LF p m c meth s b L xs D ci cz cj) (la : LA q0 q1 ob s.heap.size) (hl0 : l.stackTraces = false) (hL : L ≤ 3072) (hi : i + 6 ≤ L) (hw : LW D ci cz cj q0 q1 ob F P g H) (hI : Iw F P g) (hS : va_S (big s) s.heap H locs) (hl : lv_has ls 9 [(0, .ref b), (1, .ref (q0 0)), (2, .ref (q1 0)), (3, .ref ob), (4, .int (nI i))]) (hc : cells + 1 ≤ room_1.cells) (hs : slots + 6 ≤ room_1.slots) (kk : ∀ (F P : Nat) (g : Nat → Nat → Int32) (H : Heap) (locs : List Loc) (ls : Array Slot), LW D ci cz cj q0 q1 ob F P g H → Iw F P g → va_S (big s) s.heap H locs → lv_has ls 9 [(0, .ref b), (1, .ref (q0 0)), (2, .ref (q1 0)), (3, .ref ob), (4, .int (nI i))] → W p l e room_1 s m #[.ref b] below meth c H locs (cells + 1) (slots + 6) Q (F0 m 2627 ls [])) : W p l e room_1 s m #[.ref b] below meth c H locs cells slots Q (F0 m 2436 ls []) := by
  obtain ⟨hP, ⟨th, he, hn, hM⟩, f, hO⟩ := hw
  have hx := lf.F.1
  have hb := lf.F.2.1
  have hF := hI.1.1.1
  have hP12 := hI.1.1.2
  refine lv_aload_n hx hb dL_law_2436 rfl (lv_at hl 1 rfl) ?_
  refine r_arg lf hS (lv_at hl 0 rfl) (lv_at hl 4 rfl) (k := 1) rfl (by omega) hL rfl rfl rfl rfl rfl dL_law_2437 dL_law_2438 dL_law_2440 dL_law_2441 dL_law_2442 ?_
  refine r_arg lf hS (lv_at hl 0 rfl) (lv_at hl 4 rfl) (k := 2) rfl (by omega) hL rfl rfl rfl rfl rfl dL_law_2443 dL_law_2444 dL_law_2446 dL_law_2447 dL_law_2448 ?_
  refine r_arg lf hS (lv_at hl 0 rfl) (lv_at hl 4 rfl) (k := 3) rfl (by omega) hL rfl rfl rfl rfl rfl dL_law_2449 dL_law_2450 dL_law_2452 dL_law_2453 dL_law_2454 ?_
  refine r_arg lf hS (lv_at hl 0 rfl) (lv_at hl 4 rfl) (k := 4) rfl (by omega) hL rfl rfl rfl rfl rfl dL_law_2455 dL_law_2456 dL_law_2458 dL_law_2459 dL_law_2460 ?_
  refine lv_aload_n hx hb dL_law_2461 rfl (lv_at hl 3 rfl) ?_
  have hk3 : (k_fare F P (xs (i + 1)) (xs (i + 2)) (xs (i + 3)) (xs (i + 4))) ≤ 3 := by unfold k_fare; (repeat' split) <;> decide
  refine r_callLW (As := [.ref (q0 0), .int (xs (i + 1)), .int (xs (i + 2)), .int (xs (i + 3)), .int (xs (i + 4)), .ref ob]) (rest := []) lf.F (m_L_fare l hl0 (D := D) (ci := ci) (cz := cz) (cj := cj) (q := q0) (F := F) (P := P) (g := g) (ob := ob) (f0 := f) la.h9 hF hP12 (xs (i + 1)) (xs (i + 2)) (xs (i + 3)) (xs (i + 4)) ) (vx_cwSW 6 lf.F.2.2.2.2 gL_law_L_fare rfl rfl rfl (by decide +kernel) ⟨Nat.le_of_ble_eq_true rfl, Nat.le_of_ble_eq_true rfl⟩) BL.bl (lf.b0 la hP hO hS) rfl hl.1 rfl (Nat.le_of_ble_eq_true rfl) dL_law_2462 ⟨hc, hs⟩ hS la.o0 (fun H locs hQ hS hkp => ?_)
  obtain ⟨hP, f, hO, hans⟩ := hQ
  have hM : va_P D vwCl (w1 ci cz q1 th F P g he hn) H := P_stay hM hkp la.n1
  refine lv_istore (lv' := [(5, .int (nI (k_fare F P (xs (i + 1)) (xs (i + 2)) (xs (i + 3)) (xs (i + 4))))), (0, .ref b), (1, .ref (q0 0)), (2, .ref (q1 0)), (3, .ref ob), (4, .int (nI i))]) hx hb dL_law_2465 hl (by decide) rfl (fun ls hl => ?_)
  refine lv_aload_n hx hb dL_law_2467 rfl (lv_at hl 3 rfl) ?_
  refine r_arg lf hS (lv_at hl 1 rfl) (lv_at hl 5 rfl) (k := 1) rfl (by omega) hL rfl rfl rfl rfl rfl dL_law_2468 dL_law_2469 dL_law_2471 dL_law_2472 dL_law_2473 ?_
  refine r_arg lf hS (lv_at hl 1 rfl) (lv_at hl 5 rfl) (k := 2) rfl (by omega) hL rfl rfl rfl rfl rfl dL_law_2474 dL_law_2475 dL_law_2477 dL_law_2478 dL_law_2479 ?_
  refine r_arg lf hS (lv_at hl 1 rfl) (lv_at hl 5 rfl) (k := 3) rfl (by omega) hL rfl rfl rfl rfl rfl dL_law_2480 dL_law_2481 dL_law_2483 dL_law_2484 dL_law_2485 ?_
  refine r_arg lf hS (lv_at hl 1 rfl) (lv_at hl 5 rfl) (k := 4) rfl (by omega) hL rfl rfl rfl rfl rfl dL_law_2486 dL_law_2487 dL_law_2489 dL_law_2490 dL_law_2491 ?_
  refine r_callW (rest := []) lf.F (m_X1_fare l (D := D) (ci := ci) (cz := cz) (cj := cj) (q := q1) (F := F) (P := P) (g := g) (th := th) (he := he) (hn := hn) la.h1 hF hP12 (xs (i + 1)) (xs (i + 2)) (xs (i + 3)) (xs (i + 4)) hI.1) (cwV 4 lf.F.2.2.2.2 gL_law_X1_fare rfl rfl rfl (by decide +kernel) ⟨Nat.le_of_ble_eq_true rfl, Nat.le_of_ble_eq_true rfl⟩) BW.bl (va_recv lf.K hM (ci := 1) (q0 := 0) rfl rfl) (lf.b1 la hM hS) rfl hl.1 rfl (Nat.le_of_ble_eq_true rfl) dL_law_2492 ⟨hc, hs⟩ hS la.o1 (fun H locs hM hS _ hkp => ?_)
  obtain ⟨he, hn, hM⟩ := hM
  have hP : va_P D vwCl (w0 ci cz q0 F P g) H := P_stay hP hkp la.n0
  have hO : va_P D vwCl (wo cj ob f) H := P_stay hO hkp la.no
  refine lv_istore (lv' := [(6, .int (rz (k_fare F P (xs (i + 1)) (xs (i + 2)) (xs (i + 3)) (xs (i + 4))) (sFar g (ix (xs (i + 2))) (ix (xs (i + 3)) / 6) (ix (xs (i + 1))) (xs (i + 4))))), (5, .int (nI (k_fare F P (xs (i + 1)) (xs (i + 2)) (xs (i + 3)) (xs (i + 4))))), (0, .ref b), (1, .ref (q0 0)), (2, .ref (q1 0)), (3, .ref ob), (4, .int (nI i))]) hx hb dL_law_2495 hl (by decide) rfl (fun ls hl => ?_)
  refine lv_aload_n hx hb dL_law_2497 rfl (lv_at hl 4 rfl) ?_
  refine r_callR (rest := []) lf.F (m_X1_thrown l (D := D) (ci := ci) (cz := cz) (cj := cj) (q := q1) (F := F) (P := P) (g := g) (th := nI (k_fare F P (xs (i + 1)) (xs (i + 2)) (xs (i + 3)) (xs (i + 4)))) (he := he) (hn := hn) hF hP12) (cwV 0 lf.F.2.2.2.2 gL_law_X1_thrown rfl rfl rfl (by decide +kernel) ⟨Nat.le_of_ble_eq_true rfl, Nat.le_of_ble_eq_true rfl⟩) BW.bl (va_recv lf.K hM (ci := 1) (q0 := 0) rfl rfl) (lf.b1 la hM hS) rfl hl.1 rfl (Nat.le_of_ble_eq_true rfl) dL_law_2498 ⟨hc, hs⟩ ?_
  refine lv_iload hx hb dL_law_2501 (lv_at hl 1 rfl) ?_
  refine lv_icmp_eq (tgt := 2508) hx hb dL_law_2503 (by decide) (fun _ => ?_) (fun h => absurd rfl h)
  refine lv_iload hx hb dL_law_2508 (lv_at hl 1 rfl) ?_
  refine lv_if_ne (tgt := 2525) hx hb dL_law_2510 (by decide) (fun _ => ?_) (fun hk => ?_)
  · refine lv_goto (tgt := 2627) hx hb dL_law_2525 (by decide) ?_
    exact kk _ _ _ _ _ _ ⟨hP, ⟨_, _, _, hM⟩, f, hO⟩ hI hS (lv_sub hl [2, 3, 4, 5, 6] rfl)
  · have hK0 : (k_fare F P (xs (i + 1)) (xs (i + 2)) (xs (i + 3)) (xs (i + 4))) = 0 := nK0 hk3 hk
    refine lv_aload_n hx hb dL_law_2513 rfl (lv_at hl 5 rfl) ?_
    refine lv_iconst (v := nI 0) hx hb dL_law_2514 (by decide) ?_
    refine r_lald hx hb lf.K rfl hO (hans hK0) dL_law_2515 ?_
    refine lv_iload hx hb dL_law_2516 (lv_at hl 0 rfl) ?_
    refine lv_i2l hx hb dL_law_2518 rfl ?_
    refine r_lcmp hx hb (by rw [rz0 hK0]) dL_law_2519 ?_
    refine lv_if_eq (tgt := 2525) hx hb dL_law_2520 (by decide) (fun _ => ?_) (fun h => absurd rfl h)
    refine lv_goto (tgt := 2627) hx hb dL_law_2525 (by decide) ?_
    exact kk _ _ _ _ _ _ ⟨hP, ⟨_, _, _, hM⟩, f, hO⟩ hI hS (lv_sub hl [2, 3, 4, 5, 6] rfl)
theorem c_richest {p : Program} {l : Launch} {s : State} {m : MethodId} {below : List Frame} {meth : Method} {c : Code} {H : Heap} {locs : List Loc} {cells slots : Nat} {Q : State → Prop} {e : Env} {ls : Array Slot} {b L : Nat} {D : va_G} {ci cz cj : ClassId} {q0 q1 : Nat → Nat} {F P : Nat} {g : Nat → Nat → Int32} {ob : Nat} {xs : Nat → Int32} {i : Nat} (lf : LF p m c meth s b L xs D ci cz cj) (la : LA q0 q1 ob s.heap.size) (hl0 : l.stackTraces = false) (hL : L ≤ 3072) (hi : i + 6 ≤ L) (hw : LW D ci cz cj q0 q1 ob F P g H) (hI : Iw F P g) (hS : va_S (big s) s.heap H locs) (hl : lv_has ls 9 [(0, .ref b), (1, .ref (q0 0)), (2, .ref (q1 0)), (3, .ref ob), (4, .int (nI i))]) (hc : cells + 1 ≤ room_1.cells) (hs : slots + 6 ≤ room_1.slots) (kk : ∀ (F P : Nat) (g : Nat → Nat → Int32) (H : Heap) (locs : List Loc) (ls : Array Slot), LW D ci cz cj q0 q1 ob F P g H → Iw F P g → va_S (big s) s.heap H locs → lv_has ls 9 [(0, .ref b), (1, .ref (q0 0)), (2, .ref (q1 0)), (3, .ref ob), (4, .int (nI i))] → W p l e room_1 s m #[.ref b] below meth c H locs (cells + 1) (slots + 6) Q (F0 m 2627 ls [])) : W p l e room_1 s m #[.ref b] below meth c H locs cells slots Q (F0 m 2528 ls []) := by
  obtain ⟨hP, ⟨th, he, hn, hM⟩, f, hO⟩ := hw
  have hx := lf.F.1
  have hb := lf.F.2.1
  have hF := hI.1.1.1
  have hP12 := hI.1.1.2
  refine lv_aload_n hx hb dL_law_2528 rfl (lv_at hl 1 rfl) ?_
  refine lv_aload_n hx hb dL_law_2529 rfl (lv_at hl 3 rfl) ?_
  have hk3 : (k_richest P g) ≤ 3 := by unfold k_richest; (repeat' split) <;> decide
  refine r_callLW (As := [.ref (q0 0), .ref ob]) (rest := []) lf.F (m_L_richest l hl0 (D := D) (ci := ci) (cz := cz) (cj := cj) (q := q0) (F := F) (P := P) (g := g) (ob := ob) (f0 := f) la.h9 hF hP12  ) (vx_cwSW 2 lf.F.2.2.2.2 gL_law_L_richest rfl rfl rfl (by decide +kernel) ⟨Nat.le_of_ble_eq_true rfl, Nat.le_of_ble_eq_true rfl⟩) BL.bl (lf.b0 la hP hO hS) rfl hl.1 rfl (Nat.le_of_ble_eq_true rfl) dL_law_2530 ⟨hc, hs⟩ hS la.o0 (fun H locs hQ hS hkp => ?_)
  obtain ⟨hP, f, hO, hans⟩ := hQ
  have hM : va_P D vwCl (w1 ci cz q1 th F P g he hn) H := P_stay hM hkp la.n1
  refine lv_istore (lv' := [(5, .int (nI (k_richest P g))), (0, .ref b), (1, .ref (q0 0)), (2, .ref (q1 0)), (3, .ref ob), (4, .int (nI i))]) hx hb dL_law_2533 hl (by decide) rfl (fun ls hl => ?_)
  refine lv_aload_n hx hb dL_law_2535 rfl (lv_at hl 3 rfl) ?_
  refine r_callW (rest := []) lf.F (m_X1_richest l (D := D) (ci := ci) (cz := cz) (cj := cj) (q := q1) (F := F) (P := P) (g := g) (th := th) (he := he) (hn := hn) la.h1 hF hP12  hI.1) (cwV 0 lf.F.2.2.2.2 gL_law_X1_richest rfl rfl rfl (by decide +kernel) ⟨Nat.le_of_ble_eq_true rfl, Nat.le_of_ble_eq_true rfl⟩) BW.bl (va_recv lf.K hM (ci := 1) (q0 := 0) rfl rfl) (lf.b1 la hM hS) rfl hl.1 rfl (Nat.le_of_ble_eq_true rfl) dL_law_2536 ⟨hc, hs⟩ hS la.o1 (fun H locs hM hS _ hkp => ?_)
  obtain ⟨he, hn, hM⟩ := hM
  have hP : va_P D vwCl (w0 ci cz q0 F P g) H := P_stay hP hkp la.n0
  have hO : va_P D vwCl (wo cj ob f) H := P_stay hO hkp la.no
  refine lv_istore (lv' := [(6, .int (rz (k_richest P g) (sRic g P))), (5, .int (nI (k_richest P g))), (0, .ref b), (1, .ref (q0 0)), (2, .ref (q1 0)), (3, .ref ob), (4, .int (nI i))]) hx hb dL_law_2539 hl (by decide) rfl (fun ls hl => ?_)
  refine lv_aload_n hx hb dL_law_2541 rfl (lv_at hl 4 rfl) ?_
  refine r_callR (rest := []) lf.F (m_X1_thrown l (D := D) (ci := ci) (cz := cz) (cj := cj) (q := q1) (F := F) (P := P) (g := g) (th := nI (k_richest P g)) (he := he) (hn := hn) hF hP12) (cwV 0 lf.F.2.2.2.2 gL_law_X1_thrown rfl rfl rfl (by decide +kernel) ⟨Nat.le_of_ble_eq_true rfl, Nat.le_of_ble_eq_true rfl⟩) BW.bl (va_recv lf.K hM (ci := 1) (q0 := 0) rfl rfl) (lf.b1 la hM hS) rfl hl.1 rfl (Nat.le_of_ble_eq_true rfl) dL_law_2542 ⟨hc, hs⟩ ?_
  refine lv_iload hx hb dL_law_2545 (lv_at hl 1 rfl) ?_
  refine lv_icmp_eq (tgt := 2552) hx hb dL_law_2547 (by decide) (fun _ => ?_) (fun h => absurd rfl h)
  refine lv_iload hx hb dL_law_2552 (lv_at hl 1 rfl) ?_
  refine lv_if_ne (tgt := 2569) hx hb dL_law_2554 (by decide) (fun _ => ?_) (fun hk => ?_)
  · refine lv_goto (tgt := 2627) hx hb dL_law_2569 (by decide) ?_
    exact kk _ _ _ _ _ _ ⟨hP, ⟨_, _, _, hM⟩, f, hO⟩ hI hS (lv_sub hl [2, 3, 4, 5, 6] rfl)
  · have hK0 : (k_richest P g) = 0 := nK0 hk3 hk
    refine lv_aload_n hx hb dL_law_2557 rfl (lv_at hl 5 rfl) ?_
    refine lv_iconst (v := nI 0) hx hb dL_law_2558 (by decide) ?_
    refine r_lald hx hb lf.K rfl hO (hans hK0) dL_law_2559 ?_
    refine lv_iload hx hb dL_law_2560 (lv_at hl 0 rfl) ?_
    refine lv_i2l hx hb dL_law_2562 rfl ?_
    refine r_lcmp hx hb (by rw [rz0 hK0]) dL_law_2563 ?_
    refine lv_if_eq (tgt := 2569) hx hb dL_law_2564 (by decide) (fun _ => ?_) (fun h => absurd rfl h)
    refine lv_goto (tgt := 2627) hx hb dL_law_2569 (by decide) ?_
    exact kk _ _ _ _ _ _ ⟨hP, ⟨_, _, _, hM⟩, f, hO⟩ hI hS (lv_sub hl [2, 3, 4, 5, 6] rfl)
theorem c_digest {p : Program} {l : Launch} {s : State} {m : MethodId} {below : List Frame} {meth : Method} {c : Code} {H : Heap} {locs : List Loc} {cells slots : Nat} {Q : State → Prop} {e : Env} {ls : Array Slot} {b L : Nat} {D : va_G} {ci cz cj : ClassId} {q0 q1 : Nat → Nat} {F P : Nat} {g : Nat → Nat → Int32} {ob : Nat} {xs : Nat → Int32} {i : Nat} (lf : LF p m c meth s b L xs D ci cz cj) (la : LA q0 q1 ob s.heap.size) (hl0 : l.stackTraces = false) (hL : L ≤ 3072) (hi : i + 6 ≤ L) (hw : LW D ci cz cj q0 q1 ob F P g H) (hI : Iw F P g) (hS : va_S (big s) s.heap H locs) (hl : lv_has ls 9 [(0, .ref b), (1, .ref (q0 0)), (2, .ref (q1 0)), (3, .ref ob), (4, .int (nI i))]) (hc : cells + 1 ≤ room_1.cells) (hs : slots + 6 ≤ room_1.slots) (kk : ∀ (F P : Nat) (g : Nat → Nat → Int32) (H : Heap) (locs : List Loc) (ls : Array Slot), LW D ci cz cj q0 q1 ob F P g H → Iw F P g → va_S (big s) s.heap H locs → lv_has ls 9 [(0, .ref b), (1, .ref (q0 0)), (2, .ref (q1 0)), (3, .ref ob), (4, .int (nI i))] → W p l e room_1 s m #[.ref b] below meth c H locs (cells + 1) (slots + 6) Q (F0 m 2627 ls [])) : W p l e room_1 s m #[.ref b] below meth c H locs cells slots Q (F0 m 2613 ls []) := by
  obtain ⟨hP, ⟨th, he, hn, hM⟩, f, hO⟩ := hw
  have hx := lf.F.1
  have hb := lf.F.2.1
  have hF := hI.1.1.1
  have hP12 := hI.1.1.2
  refine lv_aload_n hx hb dL_law_2613 rfl (lv_at hl 1 rfl) ?_
  refine r_callR (rest := []) lf.F (m_X0_digest l (D := D) (ci := ci) (cz := cz) (cj := cj) (q := q0) (F := F) (P := P) (g := g) hF hP12) (cwV 0 lf.F.2.2.2.2 gL_law_X0_digest rfl rfl rfl (by decide +kernel) ⟨Nat.le_of_ble_eq_true rfl, Nat.le_of_ble_eq_true rfl⟩) BW.bl (va_recv lf.K hP (ci := 0) (q0 := 0) rfl rfl) (lf.b0' la hP hS) rfl hl.1 rfl (Nat.le_of_ble_eq_true rfl) dL_law_2614 ⟨Nat.le_of_succ_le hc, Nat.le_trans (Nat.le_add_right _ 6) hs⟩ ?_
  refine lv_aload_n hx hb dL_law_2617 rfl (lv_at hl 2 rfl) ?_
  refine r_callW (rest := [.long (sDig g F P)]) lf.F (m_X1_digest l (D := D) (ci := ci) (cz := cz) (cj := cj) (q := q1) (F := F) (P := P) (g := g) (th := th) (he := he) (hn := hn) la.h1 hF hP12 hI.1) (cwV 0 lf.F.2.2.2.2 gL_law_X1_digest rfl rfl rfl (by decide +kernel) ⟨Nat.le_of_ble_eq_true rfl, Nat.le_of_ble_eq_true rfl⟩) BW.bl (va_recv lf.K hM (ci := 1) (q0 := 0) rfl rfl) (lf.b1 la hM hS) rfl hl.1 rfl (Nat.le_of_ble_eq_true rfl) dL_law_2618 ⟨Nat.le_of_succ_le hc, Nat.le_trans (Nat.le_add_right _ 6) hs⟩ hS la.o1 (fun H locs hM hS _ hkp => ?_)
  obtain ⟨he, hn, hM⟩ := hM
  have hP : va_P D vwCl (w0 ci cz q0 F P g) H := P_stay hP hkp la.n0
  have hO : va_P D vwCl (wo cj ob f) H := P_stay hO hkp la.no
  refine r_lcmp hx hb rfl dL_law_2621 ?_
  refine lv_if_eq (tgt := 2627) hx hb dL_law_2622 (by decide) (fun _ => ?_) (fun h => absurd rfl h)
  refine W.widen (Nat.le_add_right _ 1) (Nat.le_add_right _ 6) ?_
  exact kk _ _ _ _ _ _ ⟨hP, ⟨_, _, _, hM⟩, f, hO⟩ hI hS hl
end CASES2
