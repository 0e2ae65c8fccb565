/-! PART 46: the calls that the law tries, 2 of 3. -/
section CASES1
theorem c_ferries {p : Program} {l : Launch} {s : State} {m : MethodId} {below : List Frame} {meth : Method} {c : Code} {H : Heap} {locs : List Loc} {cells slots : Nat} {Q : State → Prop} {e : Env} {ls : Array Slot} {b L : Nat} {D : va_G} {ci cz cj : ClassId} {q0 q1 : Nat → Nat} {F P : Nat} {g : Nat → Nat → Int32} {ob : Nat} {xs : Nat → Int32} {i : Nat} (lf : LF p m c meth s b L xs D ci cz cj) (la : LA q0 q1 ob s.heap.size) (hl0 : l.stackTraces = false) (hL : L ≤ 3072) (hi : i + 6 ≤ L) (hw : LW D ci cz cj q0 q1 ob F P g H) (hI : Iw F P g) (hS : va_S (big s) s.heap H locs) (hl : lv_has ls 9 [(0, .ref b), (1, .ref (q0 0)), (2, .ref (q1 0)), (3, .ref ob), (4, .int (nI i))]) (hc : cells + 1 ≤ room_1.cells) (hs : slots + 6 ≤ room_1.slots) (kk : ∀ (F P : Nat) (g : Nat → Nat → Int32) (H : Heap) (locs : List Loc) (ls : Array Slot), LW D ci cz cj q0 q1 ob F P g H → Iw F P g → va_S (big s) s.heap H locs → lv_has ls 9 [(0, .ref b), (1, .ref (q0 0)), (2, .ref (q1 0)), (3, .ref ob), (4, .int (nI i))] → W p l e room_1 s m #[.ref b] below meth c H locs (cells + 1) (slots + 6) Q (F0 m 2627 ls [])) : W p l e room_1 s m #[.ref b] below meth c H locs cells slots Q (F0 m 944 ls []) := by
  obtain ⟨hP, ⟨th, he, hn, hM⟩, f, hO⟩ := hw
  have hx := lf.F.1
  have hb := lf.F.2.1
  have hF := hI.1.1.1
  have hP12 := hI.1.1.2
  refine lv_aload_n hx hb dL_law_944 rfl (lv_at hl 1 rfl) ?_
  refine r_callR (rest := []) lf.F (m_X0_ferries l (D := D) (ci := ci) (cz := cz) (cj := cj) (q := q0) (F := F) (P := P) (g := g) hF hP12) (cwV 0 lf.F.2.2.2.2 gL_law_X0_ferries rfl rfl rfl (by decide +kernel) ⟨Nat.le_of_ble_eq_true rfl, Nat.le_of_ble_eq_true rfl⟩) BW.bl (va_recv lf.K hP (ci := 0) (q0 := 0) rfl rfl) (lf.b0' la hP hS) rfl hl.1 rfl (Nat.le_of_ble_eq_true rfl) dL_law_945 ⟨Nat.le_of_succ_le hc, Nat.le_trans (Nat.le_add_right _ 6) hs⟩ ?_
  refine lv_aload_n hx hb dL_law_948 rfl (lv_at hl 2 rfl) ?_
  refine r_callW (rest := [.int (nI F)]) lf.F (m_X1_ferries l (D := D) (ci := ci) (cz := cz) (cj := cj) (q := q1) (F := F) (P := P) (g := g) (th := th) (he := he) (hn := hn) la.h1 hF hP12 hI.1) (cwV 0 lf.F.2.2.2.2 gL_law_X1_ferries rfl rfl rfl (by decide +kernel) ⟨Nat.le_of_ble_eq_true rfl, Nat.le_of_ble_eq_true rfl⟩) BW.bl (va_recv lf.K hM (ci := 1) (q0 := 0) rfl rfl) (lf.b1 la hM hS) rfl hl.1 rfl (Nat.le_of_ble_eq_true rfl) dL_law_949 ⟨Nat.le_of_succ_le hc, Nat.le_trans (Nat.le_add_right _ 6) hs⟩ hS la.o1 (fun H locs hM hS _ hkp => ?_)
  obtain ⟨he, hn, hM⟩ := hM
  have hP : va_P D vwCl (w0 ci cz q0 F P g) H := P_stay hP hkp la.n0
  have hO : va_P D vwCl (wo cj ob f) H := P_stay hO hkp la.no
  refine lv_icmp_eq (tgt := 2627) hx hb dL_law_952 (by decide) (fun _ => ?_) (fun h => absurd rfl h)
  refine W.widen (Nat.le_add_right _ 1) (Nat.le_add_right _ 6) ?_
  exact kk _ _ _ _ _ _ ⟨hP, ⟨_, _, _, hM⟩, f, hO⟩ hI hS hl
theorem c_toll {p : Program} {l : Launch} {s : State} {m : MethodId} {below : List Frame} {meth : Method} {c : Code} {H : Heap} {locs : List Loc} {cells slots : Nat} {Q : State → Prop} {e : Env} {ls : Array Slot} {b L : Nat} {D : va_G} {ci cz cj : ClassId} {q0 q1 : Nat → Nat} {F P : Nat} {g : Nat → Nat → Int32} {ob : Nat} {xs : Nat → Int32} {i : Nat} (lf : LF p m c meth s b L xs D ci cz cj) (la : LA q0 q1 ob s.heap.size) (hl0 : l.stackTraces = false) (hL : L ≤ 3072) (hi : i + 6 ≤ L) (hw : LW D ci cz cj q0 q1 ob F P g H) (hI : Iw F P g) (hS : va_S (big s) s.heap H locs) (hl : lv_has ls 9 [(0, .ref b), (1, .ref (q0 0)), (2, .ref (q1 0)), (3, .ref ob), (4, .int (nI i))]) (hc : cells + 1 ≤ room_1.cells) (hs : slots + 6 ≤ room_1.slots) (kk : ∀ (F P : Nat) (g : Nat → Nat → Int32) (H : Heap) (locs : List Loc) (ls : Array Slot), LW D ci cz cj q0 q1 ob F P g H → Iw F P g → va_S (big s) s.heap H locs → lv_has ls 9 [(0, .ref b), (1, .ref (q0 0)), (2, .ref (q1 0)), (3, .ref ob), (4, .int (nI i))] → W p l e room_1 s m #[.ref b] below meth c H locs (cells + 1) (slots + 6) Q (F0 m 2627 ls [])) : W p l e room_1 s m #[.ref b] below meth c H locs cells slots Q (F0 m 957 ls []) := by
  obtain ⟨hP, ⟨th, he, hn, hM⟩, f, hO⟩ := hw
  have hx := lf.F.1
  have hb := lf.F.2.1
  have hF := hI.1.1.1
  have hP12 := hI.1.1.2
  refine lv_aload_n hx hb dL_law_957 rfl (lv_at hl 1 rfl) ?_
  refine r_arg lf hS (lv_at hl 0 rfl) (lv_at hl 4 rfl) (k := 1) rfl (by omega) hL rfl rfl rfl rfl rfl dL_law_958 dL_law_959 dL_law_961 dL_law_962 dL_law_963 ?_
  refine lv_aload_n hx hb dL_law_964 rfl (lv_at hl 3 rfl) ?_
  have hk3 : (k_1 F (xs (i + 1))) ≤ 3 := by unfold k_1; (repeat' split) <;> decide
  refine r_callLW (As := [.ref (q0 0), .int (xs (i + 1)), .ref ob]) (rest := []) lf.F (m_L_toll l hl0 (D := D) (ci := ci) (cz := cz) (cj := cj) (q := q0) (F := F) (P := P) (g := g) (ob := ob) (f0 := f) la.h9 hF hP12 (xs (i + 1)) ) (vx_cwSW 3 lf.F.2.2.2.2 gL_law_L_toll rfl rfl rfl (by decide +kernel) ⟨Nat.le_of_ble_eq_true rfl, Nat.le_of_ble_eq_true rfl⟩) BL.bl (lf.b0 la hP hO hS) rfl hl.1 rfl (Nat.le_of_ble_eq_true rfl) dL_law_965 ⟨hc, hs⟩ hS la.o0 (fun H locs hQ hS hkp => ?_)
  obtain ⟨hP, f, hO, hans⟩ := hQ
  have hM : va_P D vwCl (w1 ci cz q1 th F P g he hn) H := P_stay hM hkp la.n1
  refine lv_istore (lv' := [(5, .int (nI (k_1 F (xs (i + 1))))), (0, .ref b), (1, .ref (q0 0)), (2, .ref (q1 0)), (3, .ref ob), (4, .int (nI i))]) hx hb dL_law_968 hl (by decide) rfl (fun ls hl => ?_)
  refine lv_aload_n hx hb dL_law_970 rfl (lv_at hl 3 rfl) ?_
  refine r_arg lf hS (lv_at hl 1 rfl) (lv_at hl 5 rfl) (k := 1) rfl (by omega) hL rfl rfl rfl rfl rfl dL_law_971 dL_law_972 dL_law_974 dL_law_975 dL_law_976 ?_
  refine r_callW (rest := []) lf.F (m_X1_toll l (D := D) (ci := ci) (cz := cz) (cj := cj) (q := q1) (F := F) (P := P) (g := g) (th := th) (he := he) (hn := hn) la.h1 hF hP12 (xs (i + 1)) hI.1) (cwV 1 lf.F.2.2.2.2 gL_law_X1_toll rfl rfl rfl (by decide +kernel) ⟨Nat.le_of_ble_eq_true rfl, Nat.le_of_ble_eq_true rfl⟩) BW.bl (va_recv lf.K hM (ci := 1) (q0 := 0) rfl rfl) (lf.b1 la hM hS) rfl hl.1 rfl (Nat.le_of_ble_eq_true rfl) dL_law_977 ⟨hc, hs⟩ hS la.o1 (fun H locs hM hS _ hkp => ?_)
  obtain ⟨he, hn, hM⟩ := hM
  have hP : va_P D vwCl (w0 ci cz q0 F P g) H := P_stay hP hkp la.n0
  have hO : va_P D vwCl (wo cj ob f) H := P_stay hO hkp la.no
  refine lv_istore (lv' := [(6, .int (rz (k_1 F (xs (i + 1))) (g 0 (ix (xs (i + 1)))))), (5, .int (nI (k_1 F (xs (i + 1))))), (0, .ref b), (1, .ref (q0 0)), (2, .ref (q1 0)), (3, .ref ob), (4, .int (nI i))]) hx hb dL_law_980 hl (by decide) rfl (fun ls hl => ?_)
  refine lv_aload_n hx hb dL_law_982 rfl (lv_at hl 4 rfl) ?_
  refine r_callR (rest := []) lf.F (m_X1_thrown l (D := D) (ci := ci) (cz := cz) (cj := cj) (q := q1) (F := F) (P := P) (g := g) (th := nI (k_1 F (xs (i + 1)))) (he := he) (hn := hn) hF hP12) (cwV 0 lf.F.2.2.2.2 gL_law_X1_thrown rfl rfl rfl (by decide +kernel) ⟨Nat.le_of_ble_eq_true rfl, Nat.le_of_ble_eq_true rfl⟩) BW.bl (va_recv lf.K hM (ci := 1) (q0 := 0) rfl rfl) (lf.b1 la hM hS) rfl hl.1 rfl (Nat.le_of_ble_eq_true rfl) dL_law_983 ⟨hc, hs⟩ ?_
  refine lv_iload hx hb dL_law_986 (lv_at hl 1 rfl) ?_
  refine lv_icmp_eq (tgt := 993) hx hb dL_law_988 (by decide) (fun _ => ?_) (fun h => absurd rfl h)
  refine lv_iload hx hb dL_law_993 (lv_at hl 1 rfl) ?_
  refine lv_if_ne (tgt := 1010) hx hb dL_law_995 (by decide) (fun _ => ?_) (fun hk => ?_)
  · refine lv_goto (tgt := 2627) hx hb dL_law_1010 (by decide) ?_
    exact kk _ _ _ _ _ _ ⟨hP, ⟨_, _, _, hM⟩, f, hO⟩ hI hS (lv_sub hl [2, 3, 4, 5, 6] rfl)
  · have hK0 : (k_1 F (xs (i + 1))) = 0 := nK0 hk3 hk
    refine lv_aload_n hx hb dL_law_998 rfl (lv_at hl 5 rfl) ?_
    refine lv_iconst (v := nI 0) hx hb dL_law_999 (by decide) ?_
    refine r_lald hx hb lf.K rfl hO (hans hK0) dL_law_1000 ?_
    refine lv_iload hx hb dL_law_1001 (lv_at hl 0 rfl) ?_
    refine lv_i2l hx hb dL_law_1003 rfl ?_
    refine r_lcmp hx hb (by rw [rz0 hK0]) dL_law_1004 ?_
    refine lv_if_eq (tgt := 1010) hx hb dL_law_1005 (by decide) (fun _ => ?_) (fun h => absurd rfl h)
    refine lv_goto (tgt := 2627) hx hb dL_law_1010 (by decide) ?_
    exact kk _ _ _ _ _ _ ⟨hP, ⟨_, _, _, hM⟩, f, hO⟩ hI hS (lv_sub hl [2, 3, 4, 5, 6] rfl)
theorem c_carried {p : Program} {l : Launch} {s : State} {m : MethodId} {below : List Frame} {meth : Method} {c : Code} {H : Heap} {locs : List Loc} {cells slots : Nat} {Q : State → Prop} {e : Env} {ls : Array Slot} {b L : Nat} {D : va_G} {ci cz cj : ClassId} {q0 q1 : Nat → Nat} {F P : Nat} {g : Nat → Nat → Int32} {ob : Nat} {xs : Nat → Int32} {i : Nat} (lf : LF p m c meth s b L xs D ci cz cj) (la : LA q0 q1 ob s.heap.size) (hl0 : l.stackTraces = false) (hL : L ≤ 3072) (hi : i + 6 ≤ L) (hw : LW D ci cz cj q0 q1 ob F P g H) (hI : Iw F P g) (hS : va_S (big s) s.heap H locs) (hl : lv_has ls 9 [(0, .ref b), (1, .ref (q0 0)), (2, .ref (q1 0)), (3, .ref ob), (4, .int (nI i))]) (hc : cells + 1 ≤ room_1.cells) (hs : slots + 6 ≤ room_1.slots) (kk : ∀ (F P : Nat) (g : Nat → Nat → Int32) (H : Heap) (locs : List Loc) (ls : Array Slot), LW D ci cz cj q0 q1 ob F P g H → Iw F P g → va_S (big s) s.heap H locs → lv_has ls 9 [(0, .ref b), (1, .ref (q0 0)), (2, .ref (q1 0)), (3, .ref ob), (4, .int (nI i))] → W p l e room_1 s m #[.ref b] below meth c H locs (cells + 1) (slots + 6) Q (F0 m 2627 ls [])) : W p l e room_1 s m #[.ref b] below meth c H locs cells slots Q (F0 m 1013 ls []) := by
  obtain ⟨hP, ⟨th, he, hn, hM⟩, f, hO⟩ := hw
  have hx := lf.F.1
  have hb := lf.F.2.1
  have hF := hI.1.1.1
  have hP12 := hI.1.1.2
  refine lv_aload_n hx hb dL_law_1013 rfl (lv_at hl 1 rfl) ?_
  refine r_arg lf hS (lv_at hl 0 rfl) (lv_at hl 4 rfl) (k := 1) rfl (by omega) hL rfl rfl rfl rfl rfl dL_law_1014 dL_law_1015 dL_law_1017 dL_law_1018 dL_law_1019 ?_
  refine lv_aload_n hx hb dL_law_1020 rfl (lv_at hl 3 rfl) ?_
  have hk3 : (k_1 F (xs (i + 1))) ≤ 3 := by unfold k_1; (repeat' split) <;> decide
  refine r_callLW (As := [.ref (q0 0), .int (xs (i + 1)), .ref ob]) (rest := []) lf.F (m_L_carried l hl0 (D := D) (ci := ci) (cz := cz) (cj := cj) (q := q0) (F := F) (P := P) (g := g) (ob := ob) (f0 := f) la.h9 hF hP12 (xs (i + 1)) ) (vx_cwSW 3 lf.F.2.2.2.2 gL_law_L_carried rfl rfl rfl (by decide +kernel) ⟨Nat.le_of_ble_eq_true rfl, Nat.le_of_ble_eq_true rfl⟩) BL.bl (lf.b0 la hP hO hS) rfl hl.1 rfl (Nat.le_of_ble_eq_true rfl) dL_law_1021 ⟨hc, hs⟩ hS la.o0 (fun H locs hQ hS hkp => ?_)
  obtain ⟨hP, f, hO, hans⟩ := hQ
  have hM : va_P D vwCl (w1 ci cz q1 th F P g he hn) H := P_stay hM hkp la.n1
  refine lv_istore (lv' := [(5, .int (nI (k_1 F (xs (i + 1))))), (0, .ref b), (1, .ref (q0 0)), (2, .ref (q1 0)), (3, .ref ob), (4, .int (nI i))]) hx hb dL_law_1024 hl (by decide) rfl (fun ls hl => ?_)
  refine lv_aload_n hx hb dL_law_1026 rfl (lv_at hl 3 rfl) ?_
  refine r_arg lf hS (lv_at hl 1 rfl) (lv_at hl 5 rfl) (k := 1) rfl (by omega) hL rfl rfl rfl rfl rfl dL_law_1027 dL_law_1028 dL_law_1030 dL_law_1031 dL_law_1032 ?_
  refine r_callW (rest := []) lf.F (m_X1_carried l (D := D) (ci := ci) (cz := cz) (cj := cj) (q := q1) (F := F) (P := P) (g := g) (th := th) (he := he) (hn := hn) la.h1 hF hP12 (xs (i + 1)) hI.1) (cwV 1 lf.F.2.2.2.2 gL_law_X1_carried rfl rfl rfl (by decide +kernel) ⟨Nat.le_of_ble_eq_true rfl, Nat.le_of_ble_eq_true rfl⟩) BW.bl (va_recv lf.K hM (ci := 1) (q0 := 0) rfl rfl) (lf.b1 la hM hS) rfl hl.1 rfl (Nat.le_of_ble_eq_true rfl) dL_law_1033 ⟨hc, hs⟩ hS la.o1 (fun H locs hM hS _ hkp => ?_)
  obtain ⟨he, hn, hM⟩ := hM
  have hP : va_P D vwCl (w0 ci cz q0 F P g) H := P_stay hP hkp la.n0
  have hO : va_P D vwCl (wo cj ob f) H := P_stay hO hkp la.no
  refine lv_istore (lv' := [(6, .int (rz (k_1 F (xs (i + 1))) (g 1 (ix (xs (i + 1)))))), (5, .int (nI (k_1 F (xs (i + 1))))), (0, .ref b), (1, .ref (q0 0)), (2, .ref (q1 0)), (3, .ref ob), (4, .int (nI i))]) hx hb dL_law_1036 hl (by decide) rfl (fun ls hl => ?_)
  refine lv_aload_n hx hb dL_law_1038 rfl (lv_at hl 4 rfl) ?_
  refine r_callR (rest := []) lf.F (m_X1_thrown l (D := D) (ci := ci) (cz := cz) (cj := cj) (q := q1) (F := F) (P := P) (g := g) (th := nI (k_1 F (xs (i + 1)))) (he := he) (hn := hn) hF hP12) (cwV 0 lf.F.2.2.2.2 gL_law_X1_thrown rfl rfl rfl (by decide +kernel) ⟨Nat.le_of_ble_eq_true rfl, Nat.le_of_ble_eq_true rfl⟩) BW.bl (va_recv lf.K hM (ci := 1) (q0 := 0) rfl rfl) (lf.b1 la hM hS) rfl hl.1 rfl (Nat.le_of_ble_eq_true rfl) dL_law_1039 ⟨hc, hs⟩ ?_
  refine lv_iload hx hb dL_law_1042 (lv_at hl 1 rfl) ?_
  refine lv_icmp_eq (tgt := 1049) hx hb dL_law_1044 (by decide) (fun _ => ?_) (fun h => absurd rfl h)
  refine lv_iload hx hb dL_law_1049 (lv_at hl 1 rfl) ?_
  refine lv_if_ne (tgt := 1066) hx hb dL_law_1051 (by decide) (fun _ => ?_) (fun hk => ?_)
  · refine lv_goto (tgt := 2627) hx hb dL_law_1066 (by decide) ?_
    exact kk _ _ _ _ _ _ ⟨hP, ⟨_, _, _, hM⟩, f, hO⟩ hI hS (lv_sub hl [2, 3, 4, 5, 6] rfl)
  · have hK0 : (k_1 F (xs (i + 1))) = 0 := nK0 hk3 hk
    refine lv_aload_n hx hb dL_law_1054 rfl (lv_at hl 5 rfl) ?_
    refine lv_iconst (v := nI 0) hx hb dL_law_1055 (by decide) ?_
    refine r_lald hx hb lf.K rfl hO (hans hK0) dL_law_1056 ?_
    refine lv_iload hx hb dL_law_1057 (lv_at hl 0 rfl) ?_
    refine lv_i2l hx hb dL_law_1059 rfl ?_
    refine r_lcmp hx hb (by rw [rz0 hK0]) dL_law_1060 ?_
    refine lv_if_eq (tgt := 1066) hx hb dL_law_1061 (by decide) (fun _ => ?_) (fun h => absurd rfl h)
    refine lv_goto (tgt := 2627) hx hb dL_law_1066 (by decide) ?_
    exact kk _ _ _ _ _ _ ⟨hP, ⟨_, _, _, hM⟩, f, hO⟩ hI hS (lv_sub hl [2, 3, 4, 5, 6] rfl)
theorem c_shares {p : Program} {l : Launch} {s : State} {m : MethodId} {below : List Frame} {meth : Method} {c : Code} {H : Heap} {locs : List Loc} {cells slots : Nat} {Q : State → Prop} {e : Env} {ls : Array Slot} {b L : Nat} {D : va_G} {ci cz cj : ClassId} {q0 q1 : Nat → Nat} {F P : Nat} {g : Nat → Nat → Int32} {ob : Nat} {xs : Nat → Int32} {i : Nat} (lf : LF p m c meth s b L xs D ci cz cj) (la : LA q0 q1 ob s.heap.size) (hl0 : l.stackTraces = false) (hL : L ≤ 3072) (hi : i + 6 ≤ L) (hw : LW D ci cz cj q0 q1 ob F P g H) (hI : Iw F P g) (hS : va_S (big s) s.heap H locs) (hl : lv_has ls 9 [(0, .ref b), (1, .ref (q0 0)), (2, .ref (q1 0)), (3, .ref ob), (4, .int (nI i))]) (hc : cells + 1 ≤ room_1.cells) (hs : slots + 6 ≤ room_1.slots) (kk : ∀ (F P : Nat) (g : Nat → Nat → Int32) (H : Heap) (locs : List Loc) (ls : Array Slot), LW D ci cz cj q0 q1 ob F P g H → Iw F P g → va_S (big s) s.heap H locs → lv_has ls 9 [(0, .ref b), (1, .ref (q0 0)), (2, .ref (q1 0)), (3, .ref ob), (4, .int (nI i))] → W p l e room_1 s m #[.ref b] below meth c H locs (cells + 1) (slots + 6) Q (F0 m 2627 ls [])) : W p l e room_1 s m #[.ref b] below meth c H locs cells slots Q (F0 m 1069 ls []) := by
  obtain ⟨hP, ⟨th, he, hn, hM⟩, f, hO⟩ := hw
  have hx := lf.F.1
  have hb := lf.F.2.1
  have hF := hI.1.1.1
  have hP12 := hI.1.1.2
  refine lv_aload_n hx hb dL_law_1069 rfl (lv_at hl 1 rfl) ?_
  refine r_arg lf hS (lv_at hl 0 rfl) (lv_at hl 4 rfl) (k := 1) rfl (by omega) hL rfl rfl rfl rfl rfl dL_law_1070 dL_law_1071 dL_law_1073 dL_law_1074 dL_law_1075 ?_
  refine r_arg lf hS (lv_at hl 0 rfl) (lv_at hl 4 rfl) (k := 2) rfl (by omega) hL rfl rfl rfl rfl rfl dL_law_1076 dL_law_1077 dL_law_1079 dL_law_1080 dL_law_1081 ?_
  refine r_arg lf hS (lv_at hl 0 rfl) (lv_at hl 4 rfl) (k := 3) rfl (by omega) hL rfl rfl rfl rfl rfl dL_law_1082 dL_law_1083 dL_law_1085 dL_law_1086 dL_law_1087 ?_
  refine lv_aload_n hx hb dL_law_1088 rfl (lv_at hl 3 rfl) ?_
  have hk3 : (k_fwp F P (xs (i + 1)) (xs (i + 2)) (xs (i + 3))) ≤ 3 := by unfold k_fwp; (repeat' split) <;> decide
  refine r_callLW (As := [.ref (q0 0), .int (xs (i + 1)), .int (xs (i + 2)), .int (xs (i + 3)), .ref ob]) (rest := []) lf.F (m_L_shares l hl0 (D := D) (ci := ci) (cz := cz) (cj := cj) (q := q0) (F := F) (P := P) (g := g) (ob := ob) (f0 := f) la.h9 hF hP12 (xs (i + 1)) (xs (i + 2)) (xs (i + 3)) ) (vx_cwSW 5 lf.F.2.2.2.2 gL_law_L_shares rfl rfl rfl (by decide +kernel) ⟨Nat.le_of_ble_eq_true rfl, Nat.le_of_ble_eq_true rfl⟩) BL.bl (lf.b0 la hP hO hS) rfl hl.1 rfl (Nat.le_of_ble_eq_true rfl) dL_law_1089 ⟨hc, hs⟩ hS la.o0 (fun H locs hQ hS hkp => ?_)
  obtain ⟨hP, f, hO, hans⟩ := hQ
  have hM : va_P D vwCl (w1 ci cz q1 th F P g he hn) H := P_stay hM hkp la.n1
  refine lv_istore (lv' := [(5, .int (nI (k_fwp F P (xs (i + 1)) (xs (i + 2)) (xs (i + 3))))), (0, .ref b), (1, .ref (q0 0)), (2, .ref (q1 0)), (3, .ref ob), (4, .int (nI i))]) hx hb dL_law_1092 hl (by decide) rfl (fun ls hl => ?_)
  refine lv_aload_n hx hb dL_law_1094 rfl (lv_at hl 3 rfl) ?_
  refine r_arg lf hS (lv_at hl 1 rfl) (lv_at hl 5 rfl) (k := 1) rfl (by omega) hL rfl rfl rfl rfl rfl dL_law_1095 dL_law_1096 dL_law_1098 dL_law_1099 dL_law_1100 ?_
  refine r_arg lf hS (lv_at hl 1 rfl) (lv_at hl 5 rfl) (k := 2) rfl (by omega) hL rfl rfl rfl rfl rfl dL_law_1101 dL_law_1102 dL_law_1104 dL_law_1105 dL_law_1106 ?_
  refine r_arg lf hS (lv_at hl 1 rfl) (lv_at hl 5 rfl) (k := 3) rfl (by omega) hL rfl rfl rfl rfl rfl dL_law_1107 dL_law_1108 dL_law_1110 dL_law_1111 dL_law_1112 ?_
  refine r_callW (rest := []) lf.F (m_X1_shares l (D := D) (ci := ci) (cz := cz) (cj := cj) (q := q1) (F := F) (P := P) (g := g) (th := th) (he := he) (hn := hn) la.h1 hF hP12 (xs (i + 1)) (xs (i + 2)) (xs (i + 3)) hI.1) (cwV 3 lf.F.2.2.2.2 gL_law_X1_shares rfl rfl rfl (by decide +kernel) ⟨Nat.le_of_ble_eq_true rfl, Nat.le_of_ble_eq_true rfl⟩) BW.bl (va_recv lf.K hM (ci := 1) (q0 := 0) rfl rfl) (lf.b1 la hM hS) rfl hl.1 rfl (Nat.le_of_ble_eq_true rfl) dL_law_1113 ⟨hc, hs⟩ hS la.o1 (fun H locs hM hS _ hkp => ?_)
  obtain ⟨he, hn, hM⟩ := hM
  have hP : va_P D vwCl (w0 ci cz q0 F P g) H := P_stay hP hkp la.n0
  have hO : va_P D vwCl (wo cj ob f) H := P_stay hO hkp la.no
  refine lv_istore (lv' := [(6, .int (rz (k_fwp F P (xs (i + 1)) (xs (i + 2)) (xs (i + 3))) (own g (ix (xs (i + 1))) (ix (xs (i + 2))) (ix (xs (i + 3)))))), (5, .int (nI (k_fwp F P (xs (i + 1)) (xs (i + 2)) (xs (i + 3))))), (0, .ref b), (1, .ref (q0 0)), (2, .ref (q1 0)), (3, .ref ob), (4, .int (nI i))]) hx hb dL_law_1116 hl (by decide) rfl (fun ls hl => ?_)
  refine lv_aload_n hx hb dL_law_1118 rfl (lv_at hl 4 rfl) ?_
  refine r_callR (rest := []) lf.F (m_X1_thrown l (D := D) (ci := ci) (cz := cz) (cj := cj) (q := q1) (F := F) (P := P) (g := g) (th := nI (k_fwp F P (xs (i + 1)) (xs (i + 2)) (xs (i + 3)))) (he := he) (hn := hn) hF hP12) (cwV 0 lf.F.2.2.2.2 gL_law_X1_thrown rfl rfl rfl (by decide +kernel) ⟨Nat.le_of_ble_eq_true rfl, Nat.le_of_ble_eq_true rfl⟩) BW.bl (va_recv lf.K hM (ci := 1) (q0 := 0) rfl rfl) (lf.b1 la hM hS) rfl hl.1 rfl (Nat.le_of_ble_eq_true rfl) dL_law_1119 ⟨hc, hs⟩ ?_
  refine lv_iload hx hb dL_law_1122 (lv_at hl 1 rfl) ?_
  refine lv_icmp_eq (tgt := 1129) hx hb dL_law_1124 (by decide) (fun _ => ?_) (fun h => absurd rfl h)
  refine lv_iload hx hb dL_law_1129 (lv_at hl 1 rfl) ?_
  refine lv_if_ne (tgt := 1146) hx hb dL_law_1131 (by decide) (fun _ => ?_) (fun hk => ?_)
  · refine lv_goto (tgt := 2627) hx hb dL_law_1146 (by decide) ?_
    exact kk _ _ _ _ _ _ ⟨hP, ⟨_, _, _, hM⟩, f, hO⟩ hI hS (lv_sub hl [2, 3, 4, 5, 6] rfl)
  · have hK0 : (k_fwp F P (xs (i + 1)) (xs (i + 2)) (xs (i + 3))) = 0 := nK0 hk3 hk
    refine lv_aload_n hx hb dL_law_1134 rfl (lv_at hl 5 rfl) ?_
    refine lv_iconst (v := nI 0) hx hb dL_law_1135 (by decide) ?_
    refine r_lald hx hb lf.K rfl hO (hans hK0) dL_law_1136 ?_
    refine lv_iload hx hb dL_law_1137 (lv_at hl 0 rfl) ?_
    refine lv_i2l hx hb dL_law_1139 rfl ?_
    refine r_lcmp hx hb (by rw [rz0 hK0]) dL_law_1140 ?_
    refine lv_if_eq (tgt := 1146) hx hb dL_law_1141 (by decide) (fun _ => ?_) (fun h => absurd rfl h)
    refine lv_goto (tgt := 2627) hx hb dL_law_1146 (by decide) ?_
    exact kk _ _ _ _ _ _ ⟨hP, ⟨_, _, _, hM⟩, f, hO⟩ hI hS (lv_sub hl [2, 3, 4, 5, 6] rfl)
theorem c_crownShares {p : Program} {l : Launch} {s : State} {m : MethodId} {below : List Frame} {meth : Method} {c : Code} {H : Heap} {locs : List Loc} {cells slots : Nat} {Q : State → Prop} {e : Env} {ls : Array Slot} {b L : Nat} {D : va_G} {ci cz cj : ClassId} {q0 q1 : Nat → Nat} {F P : Nat} {g : Nat → Nat → Int32} {ob : Nat} {xs : Nat → Int32} {i : Nat} (lf : LF p m c meth s b L xs D ci cz cj) (la : LA q0 q1 ob s.heap.size) (hl0 : l.stackTraces = false) (hL : L ≤ 3072) (hi : i + 6 ≤ L) (hw : LW D ci cz cj q0 q1 ob F P g H) (hI : Iw F P g) (hS : va_S (big s) s.heap H locs) (hl : lv_has ls 9 [(0, .ref b), (1, .ref (q0 0)), (2, .ref (q1 0)), (3, .ref ob), (4, .int (nI i))]) (hc : cells + 1 ≤ room_1.cells) (hs : slots + 6 ≤ room_1.slots) (kk : ∀ (F P : Nat) (g : Nat → Nat → Int32) (H : Heap) (locs : List Loc) (ls : Array Slot), LW D ci cz cj q0 q1 ob F P g H → Iw F P g → va_S (big s) s.heap H locs → lv_has ls 9 [(0, .ref b), (1, .ref (q0 0)), (2, .ref (q1 0)), (3, .ref ob), (4, .int (nI i))] → W p l e room_1 s m #[.ref b] below meth c H locs (cells + 1) (slots + 6) Q (F0 m 2627 ls [])) : W p l e room_1 s m #[.ref b] below meth c H locs cells slots Q (F0 m 1149 ls []) := by
  obtain ⟨hP, ⟨th, he, hn, hM⟩, f, hO⟩ := hw
  have hx := lf.F.1
  have hb := lf.F.2.1
  have hF := hI.1.1.1
  have hP12 := hI.1.1.2
  refine lv_aload_n hx hb dL_law_1149 rfl (lv_at hl 1 rfl) ?_
  refine r_arg lf hS (lv_at hl 0 rfl) (lv_at hl 4 rfl) (k := 1) rfl (by omega) hL rfl rfl rfl rfl rfl dL_law_1150 dL_law_1151 dL_law_1153 dL_law_1154 dL_law_1155 ?_
  refine r_arg lf hS (lv_at hl 0 rfl) (lv_at hl 4 rfl) (k := 2) rfl (by omega) hL rfl rfl rfl rfl rfl dL_law_1156 dL_law_1157 dL_law_1159 dL_law_1160 dL_law_1161 ?_
  refine lv_aload_n hx hb dL_law_1162 rfl (lv_at hl 3 rfl) ?_
  have hk3 : (k_fw F (xs (i + 1)) (xs (i + 2))) ≤ 3 := by unfold k_fw; (repeat' split) <;> decide
  refine r_callLW (As := [.ref (q0 0), .int (xs (i + 1)), .int (xs (i + 2)), .ref ob]) (rest := []) lf.F (m_L_crownShares l hl0 (D := D) (ci := ci) (cz := cz) (cj := cj) (q := q0) (F := F) (P := P) (g := g) (ob := ob) (f0 := f) la.h9 hF hP12 (xs (i + 1)) (xs (i + 2)) ) (vx_cwSW 4 lf.F.2.2.2.2 gL_law_L_crownShares rfl rfl rfl (by decide +kernel) ⟨Nat.le_of_ble_eq_true rfl, Nat.le_of_ble_eq_true rfl⟩) BL.bl (lf.b0 la hP hO hS) rfl hl.1 rfl (Nat.le_of_ble_eq_true rfl) dL_law_1163 ⟨hc, hs⟩ hS la.o0 (fun H locs hQ hS hkp => ?_)
  obtain ⟨hP, f, hO, hans⟩ := hQ
  have hM : va_P D vwCl (w1 ci cz q1 th F P g he hn) H := P_stay hM hkp la.n1
  refine lv_istore (lv' := [(5, .int (nI (k_fw F (xs (i + 1)) (xs (i + 2))))), (0, .ref b), (1, .ref (q0 0)), (2, .ref (q1 0)), (3, .ref ob), (4, .int (nI i))]) hx hb dL_law_1166 hl (by decide) rfl (fun ls hl => ?_)
  refine lv_aload_n hx hb dL_law_1168 rfl (lv_at hl 3 rfl) ?_
  refine r_arg lf hS (lv_at hl 1 rfl) (lv_at hl 5 rfl) (k := 1) rfl (by omega) hL rfl rfl rfl rfl rfl dL_law_1169 dL_law_1170 dL_law_1172 dL_law_1173 dL_law_1174 ?_
  refine r_arg lf hS (lv_at hl 1 rfl) (lv_at hl 5 rfl) (k := 2) rfl (by omega) hL rfl rfl rfl rfl rfl dL_law_1175 dL_law_1176 dL_law_1178 dL_law_1179 dL_law_1180 ?_
  refine r_callW (rest := []) lf.F (m_X1_crownShares l (D := D) (ci := ci) (cz := cz) (cj := cj) (q := q1) (F := F) (P := P) (g := g) (th := th) (he := he) (hn := hn) la.h1 hF hP12 (xs (i + 1)) (xs (i + 2)) hI.1) (cwV 2 lf.F.2.2.2.2 gL_law_X1_crownShares rfl rfl rfl (by decide +kernel) ⟨Nat.le_of_ble_eq_true rfl, Nat.le_of_ble_eq_true rfl⟩) BW.bl (va_recv lf.K hM (ci := 1) (q0 := 0) rfl rfl) (lf.b1 la hM hS) rfl hl.1 rfl (Nat.le_of_ble_eq_true rfl) dL_law_1181 ⟨hc, hs⟩ hS la.o1 (fun H locs hM hS _ hkp => ?_)
  obtain ⟨he, hn, hM⟩ := hM
  have hP : va_P D vwCl (w0 ci cz q0 F P g) H := P_stay hP hkp la.n0
  have hO : va_P D vwCl (wo cj ob f) H := P_stay hO hkp la.no
  refine lv_istore (lv' := [(6, .int (rz (k_fw F (xs (i + 1)) (xs (i + 2))) (sCro g P (ix (xs (i + 1))) (ix (xs (i + 2)))))), (5, .int (nI (k_fw F (xs (i + 1)) (xs (i + 2))))), (0, .ref b), (1, .ref (q0 0)), (2, .ref (q1 0)), (3, .ref ob), (4, .int (nI i))]) hx hb dL_law_1184 hl (by decide) rfl (fun ls hl => ?_)
  refine lv_aload_n hx hb dL_law_1186 rfl (lv_at hl 4 rfl) ?_
  refine r_callR (rest := []) lf.F (m_X1_thrown l (D := D) (ci := ci) (cz := cz) (cj := cj) (q := q1) (F := F) (P := P) (g := g) (th := nI (k_fw F (xs (i + 1)) (xs (i + 2)))) (he := he) (hn := hn) hF hP12) (cwV 0 lf.F.2.2.2.2 gL_law_X1_thrown rfl rfl rfl (by decide +kernel) ⟨Nat.le_of_ble_eq_true rfl, Nat.le_of_ble_eq_true rfl⟩) BW.bl (va_recv lf.K hM (ci := 1) (q0 := 0) rfl rfl) (lf.b1 la hM hS) rfl hl.1 rfl (Nat.le_of_ble_eq_true rfl) dL_law_1187 ⟨hc, hs⟩ ?_
  refine lv_iload hx hb dL_law_1190 (lv_at hl 1 rfl) ?_
  refine lv_icmp_eq (tgt := 1197) hx hb dL_law_1192 (by decide) (fun _ => ?_) (fun h => absurd rfl h)
  refine lv_iload hx hb dL_law_1197 (lv_at hl 1 rfl) ?_
  refine lv_if_ne (tgt := 1214) hx hb dL_law_1199 (by decide) (fun _ => ?_) (fun hk => ?_)
  · refine lv_goto (tgt := 2627) hx hb dL_law_1214 (by decide) ?_
    exact kk _ _ _ _ _ _ ⟨hP, ⟨_, _, _, hM⟩, f, hO⟩ hI hS (lv_sub hl [2, 3, 4, 5, 6] rfl)
  · have hK0 : (k_fw F (xs (i + 1)) (xs (i + 2))) = 0 := nK0 hk3 hk
    refine lv_aload_n hx hb dL_law_1202 rfl (lv_at hl 5 rfl) ?_
    refine lv_iconst (v := nI 0) hx hb dL_law_1203 (by decide) ?_
    refine r_lald hx hb lf.K rfl hO (hans hK0) dL_law_1204 ?_
    refine lv_iload hx hb dL_law_1205 (lv_at hl 0 rfl) ?_
    refine lv_i2l hx hb dL_law_1207 rfl ?_
    refine r_lcmp hx hb (by rw [rz0 hK0]) dL_law_1208 ?_
    refine lv_if_eq (tgt := 1214) hx hb dL_law_1209 (by decide) (fun _ => ?_) (fun h => absurd rfl h)
    refine lv_goto (tgt := 2627) hx hb dL_law_1214 (by decide) ?_
    exact kk _ _ _ _ _ _ ⟨hP, ⟨_, _, _, hM⟩, f, hO⟩ hI hS (lv_sub hl [2, 3, 4, 5, 6] rfl)
theorem c_owners {p : Program} {l : Launch} {s : State} {m : MethodId} {below : List Frame} {meth : Method} {c : Code} {H : Heap} {locs : List Loc} {cells slots : Nat} {Q : State → Prop} {e : Env} {ls : Array Slot} {b L : Nat} {D : va_G} {ci cz cj : ClassId} {q0 q1 : Nat → Nat} {F P : Nat} {g : Nat → Nat → Int32} {ob : Nat} {xs : Nat → Int32} {i : Nat} (lf : LF p m c meth s b L xs D ci cz cj) (la : LA q0 q1 ob s.heap.size) (hl0 : l.stackTraces = false) (hL : L ≤ 3072) (hi : i + 6 ≤ L) (hw : LW D ci cz cj q0 q1 ob F P g H) (hI : Iw F P g) (hS : va_S (big s) s.heap H locs) (hl : lv_has ls 9 [(0, .ref b), (1, .ref (q0 0)), (2, .ref (q1 0)), (3, .ref ob), (4, .int (nI i))]) (hc : cells + 1 ≤ room_1.cells) (hs : slots + 6 ≤ room_1.slots) (kk : ∀ (F P : Nat) (g : Nat → Nat → Int32) (H : Heap) (locs : List Loc) (ls : Array Slot), LW D ci cz cj q0 q1 ob F P g H → Iw F P g → va_S (big s) s.heap H locs → lv_has ls 9 [(0, .ref b), (1, .ref (q0 0)), (2, .ref (q1 0)), (3, .ref ob), (4, .int (nI i))] → W p l e room_1 s m #[.ref b] below meth c H locs (cells + 1) (slots + 6) Q (F0 m 2627 ls [])) : W p l e room_1 s m #[.ref b] below meth c H locs cells slots Q (F0 m 1217 ls []) := by
  obtain ⟨hP, ⟨th, he, hn, hM⟩, f, hO⟩ := hw
  have hx := lf.F.1
  have hb := lf.F.2.1
  have hF := hI.1.1.1
  have hP12 := hI.1.1.2
  refine lv_aload_n hx hb dL_law_1217 rfl (lv_at hl 1 rfl) ?_
  refine r_arg lf hS (lv_at hl 0 rfl) (lv_at hl 4 rfl) (k := 1) rfl (by omega) hL rfl rfl rfl rfl rfl dL_law_1218 dL_law_1219 dL_law_1221 dL_law_1222 dL_law_1223 ?_
  refine r_arg lf hS (lv_at hl 0 rfl) (lv_at hl 4 rfl) (k := 2) rfl (by omega) hL rfl rfl rfl rfl rfl dL_law_1224 dL_law_1225 dL_law_1227 dL_law_1228 dL_law_1229 ?_
  refine lv_aload_n hx hb dL_law_1230 rfl (lv_at hl 3 rfl) ?_
  have hk3 : (k_fw F (xs (i + 1)) (xs (i + 2))) ≤ 3 := by unfold k_fw; (repeat' split) <;> decide
  refine r_callLW (As := [.ref (q0 0), .int (xs (i + 1)), .int (xs (i + 2)), .ref ob]) (rest := []) lf.F (m_L_owners l hl0 (D := D) (ci := ci) (cz := cz) (cj := cj) (q := q0) (F := F) (P := P) (g := g) (ob := ob) (f0 := f) la.h9 hF hP12 (xs (i + 1)) (xs (i + 2)) ) (vx_cwSW 4 lf.F.2.2.2.2 gL_law_L_owners rfl rfl rfl (by decide +kernel) ⟨Nat.le_of_ble_eq_true rfl, Nat.le_of_ble_eq_true rfl⟩) BL.bl (lf.b0 la hP hO hS) rfl hl.1 rfl (Nat.le_of_ble_eq_true rfl) dL_law_1231 ⟨hc, hs⟩ hS la.o0 (fun H locs hQ hS hkp => ?_)
  obtain ⟨hP, f, hO, hans⟩ := hQ
  have hM : va_P D vwCl (w1 ci cz q1 th F P g he hn) H := P_stay hM hkp la.n1
  refine lv_istore (lv' := [(5, .int (nI (k_fw F (xs (i + 1)) (xs (i + 2))))), (0, .ref b), (1, .ref (q0 0)), (2, .ref (q1 0)), (3, .ref ob), (4, .int (nI i))]) hx hb dL_law_1234 hl (by decide) rfl (fun ls hl => ?_)
  refine lv_aload_n hx hb dL_law_1236 rfl (lv_at hl 3 rfl) ?_
  refine r_arg lf hS (lv_at hl 1 rfl) (lv_at hl 5 rfl) (k := 1) rfl (by omega) hL rfl rfl rfl rfl rfl dL_law_1237 dL_law_1238 dL_law_1240 dL_law_1241 dL_law_1242 ?_
  refine r_arg lf hS (lv_at hl 1 rfl) (lv_at hl 5 rfl) (k := 2) rfl (by omega) hL rfl rfl rfl rfl rfl dL_law_1243 dL_law_1244 dL_law_1246 dL_law_1247 dL_law_1248 ?_
  refine r_callW (rest := []) lf.F (m_X1_owners l (D := D) (ci := ci) (cz := cz) (cj := cj) (q := q1) (F := F) (P := P) (g := g) (th := th) (he := he) (hn := hn) la.h1 hF hP12 (xs (i + 1)) (xs (i + 2)) hI.1) (cwV 2 lf.F.2.2.2.2 gL_law_X1_owners rfl rfl rfl (by decide +kernel) ⟨Nat.le_of_ble_eq_true rfl, Nat.le_of_ble_eq_true rfl⟩) BW.bl (va_recv lf.K hM (ci := 1) (q0 := 0) rfl rfl) (lf.b1 la hM hS) rfl hl.1 rfl (Nat.le_of_ble_eq_true rfl) dL_law_1249 ⟨hc, hs⟩ hS la.o1 (fun H locs hM hS _ hkp => ?_)
  obtain ⟨he, hn, hM⟩ := hM
  have hP : va_P D vwCl (w0 ci cz q0 F P g) H := P_stay hP hkp la.n0
  have hO : va_P D vwCl (wo cj ob f) H := P_stay hO hkp la.no
  refine lv_istore (lv' := [(6, .int (rz (k_fw F (xs (i + 1)) (xs (i + 2))) (nI (sOwn g P (ix (xs (i + 1))) (ix (xs (i + 2))))))), (5, .int (nI (k_fw F (xs (i + 1)) (xs (i + 2))))), (0, .ref b), (1, .ref (q0 0)), (2, .ref (q1 0)), (3, .ref ob), (4, .int (nI i))]) hx hb dL_law_1252 hl (by decide) rfl (fun ls hl => ?_)
  refine lv_aload_n hx hb dL_law_1254 rfl (lv_at hl 4 rfl) ?_
  refine r_callR (rest := []) lf.F (m_X1_thrown l (D := D) (ci := ci) (cz := cz) (cj := cj) (q := q1) (F := F) (P := P) (g := g) (th := nI (k_fw F (xs (i + 1)) (xs (i + 2)))) (he := he) (hn := hn) hF hP12) (cwV 0 lf.F.2.2.2.2 gL_law_X1_thrown rfl rfl rfl (by decide +kernel) ⟨Nat.le_of_ble_eq_true rfl, Nat.le_of_ble_eq_true rfl⟩) BW.bl (va_recv lf.K hM (ci := 1) (q0 := 0) rfl rfl) (lf.b1 la hM hS) rfl hl.1 rfl (Nat.le_of_ble_eq_true rfl) dL_law_1255 ⟨hc, hs⟩ ?_
  refine lv_iload hx hb dL_law_1258 (lv_at hl 1 rfl) ?_
  refine lv_icmp_eq (tgt := 1265) hx hb dL_law_1260 (by decide) (fun _ => ?_) (fun h => absurd rfl h)
  refine lv_iload hx hb dL_law_1265 (lv_at hl 1 rfl) ?_
  refine lv_if_ne (tgt := 1282) hx hb dL_law_1267 (by decide) (fun _ => ?_) (fun hk => ?_)
  · refine lv_goto (tgt := 2627) hx hb dL_law_1282 (by decide) ?_
    exact kk _ _ _ _ _ _ ⟨hP, ⟨_, _, _, hM⟩, f, hO⟩ hI hS (lv_sub hl [2, 3, 4, 5, 6] rfl)
  · have hK0 : (k_fw F (xs (i + 1)) (xs (i + 2))) = 0 := nK0 hk3 hk
    refine lv_aload_n hx hb dL_law_1270 rfl (lv_at hl 5 rfl) ?_
    refine lv_iconst (v := nI 0) hx hb dL_law_1271 (by decide) ?_
    refine r_lald hx hb lf.K rfl hO (hans hK0) dL_law_1272 ?_
    refine lv_iload hx hb dL_law_1273 (lv_at hl 0 rfl) ?_
    refine lv_i2l hx hb dL_law_1275 rfl ?_
    refine r_lcmp hx hb (by rw [rz0 hK0]) dL_law_1276 ?_
    refine lv_if_eq (tgt := 1282) hx hb dL_law_1277 (by decide) (fun _ => ?_) (fun h => absurd rfl h)
    refine lv_goto (tgt := 2627) hx hb dL_law_1282 (by decide) ?_
    exact kk _ _ _ _ _ _ ⟨hP, ⟨_, _, _, hM⟩, f, hO⟩ hI hS (lv_sub hl [2, 3, 4, 5, 6] rfl)
theorem c_holder {p : Program} {l : Launch} {s : State} {m : MethodId} {below : List Frame} {meth : Method} {c : Code} {H : Heap} {locs : List Loc} {cells slots : Nat} {Q : State → Prop} {e : Env} {ls : Array Slot} {b L : Nat} {D : va_G} {ci cz cj : ClassId} {q0 q1 : Nat → Nat} {F P : Nat} {g : Nat → Nat → Int32} {ob : Nat} {xs : Nat → Int32} {i : Nat} (lf : LF p m c meth s b L xs D ci cz cj) (la : LA q0 q1 ob s.heap.size) (hl0 : l.stackTraces = false) (hL : L ≤ 3072) (hi : i + 6 ≤ L) (hw : LW D ci cz cj q0 q1 ob F P g H) (hI : Iw F P g) (hS : va_S (big s) s.heap H locs) (hl : lv_has ls 9 [(0, .ref b), (1, .ref (q0 0)), (2, .ref (q1 0)), (3, .ref ob), (4, .int (nI i))]) (hc : cells + 1 ≤ room_1.cells) (hs : slots + 6 ≤ room_1.slots) (kk : ∀ (F P : Nat) (g : Nat → Nat → Int32) (H : Heap) (locs : List Loc) (ls : Array Slot), LW D ci cz cj q0 q1 ob F P g H → Iw F P g → va_S (big s) s.heap H locs → lv_has ls 9 [(0, .ref b), (1, .ref (q0 0)), (2, .ref (q1 0)), (3, .ref ob), (4, .int (nI i))] → W p l e room_1 s m #[.ref b] below meth c H locs (cells + 1) (slots + 6) Q (F0 m 2627 ls [])) : W p l e room_1 s m #[.ref b] below meth c H locs cells slots Q (F0 m 1285 ls []) := by
  obtain ⟨hP, ⟨th, he, hn, hM⟩, f, hO⟩ := hw
  have hx := lf.F.1
  have hb := lf.F.2.1
  have hF := hI.1.1.1
  have hP12 := hI.1.1.2
  refine lv_aload_n hx hb dL_law_1285 rfl (lv_at hl 1 rfl) ?_
  refine r_arg lf hS (lv_at hl 0 rfl) (lv_at hl 4 rfl) (k := 1) rfl (by omega) hL rfl rfl rfl rfl rfl dL_law_1286 dL_law_1287 dL_law_1289 dL_law_1290 dL_law_1291 ?_
  refine r_arg lf hS (lv_at hl 0 rfl) (lv_at hl 4 rfl) (k := 2) rfl (by omega) hL rfl rfl rfl rfl rfl dL_law_1292 dL_law_1293 dL_law_1295 dL_law_1296 dL_law_1297 ?_
  refine lv_aload_n hx hb dL_law_1298 rfl (lv_at hl 3 rfl) ?_
  have hk3 : (k_holder F P g (xs (i + 1)) (xs (i + 2))) ≤ 3 := by unfold k_holder; (repeat' split) <;> decide
  refine r_callLW (As := [.ref (q0 0), .int (xs (i + 1)), .int (xs (i + 2)), .ref ob]) (rest := []) lf.F (m_L_holder l hl0 (D := D) (ci := ci) (cz := cz) (cj := cj) (q := q0) (F := F) (P := P) (g := g) (ob := ob) (f0 := f) la.h9 hF hP12 (xs (i + 1)) (xs (i + 2)) ) (vx_cwSW 4 lf.F.2.2.2.2 gL_law_L_holder rfl rfl rfl (by decide +kernel) ⟨Nat.le_of_ble_eq_true rfl, Nat.le_of_ble_eq_true rfl⟩) BL.bl (lf.b0 la hP hO hS) rfl hl.1 rfl (Nat.le_of_ble_eq_true rfl) dL_law_1299 ⟨hc, hs⟩ hS la.o0 (fun H locs hQ hS hkp => ?_)
  obtain ⟨hP, f, hO, hans⟩ := hQ
  have hM : va_P D vwCl (w1 ci cz q1 th F P g he hn) H := P_stay hM hkp la.n1
  refine lv_istore (lv' := [(5, .int (nI (k_holder F P g (xs (i + 1)) (xs (i + 2))))), (0, .ref b), (1, .ref (q0 0)), (2, .ref (q1 0)), (3, .ref ob), (4, .int (nI i))]) hx hb dL_law_1302 hl (by decide) rfl (fun ls hl => ?_)
  refine lv_aload_n hx hb dL_law_1304 rfl (lv_at hl 3 rfl) ?_
  refine r_arg lf hS (lv_at hl 1 rfl) (lv_at hl 5 rfl) (k := 1) rfl (by omega) hL rfl rfl rfl rfl rfl dL_law_1305 dL_law_1306 dL_law_1308 dL_law_1309 dL_law_1310 ?_
  refine r_arg lf hS (lv_at hl 1 rfl) (lv_at hl 5 rfl) (k := 2) rfl (by omega) hL rfl rfl rfl rfl rfl dL_law_1311 dL_law_1312 dL_law_1314 dL_law_1315 dL_law_1316 ?_
  refine r_callW (rest := []) lf.F (m_X1_holder l (D := D) (ci := ci) (cz := cz) (cj := cj) (q := q1) (F := F) (P := P) (g := g) (th := th) (he := he) (hn := hn) la.h1 hF hP12 (xs (i + 1)) (xs (i + 2)) hI.1) (cwV 2 lf.F.2.2.2.2 gL_law_X1_holder rfl rfl rfl (by decide +kernel) ⟨Nat.le_of_ble_eq_true rfl, Nat.le_of_ble_eq_true rfl⟩) BW.bl (va_recv lf.K hM (ci := 1) (q0 := 0) rfl rfl) (lf.b1 la hM hS) rfl hl.1 rfl (Nat.le_of_ble_eq_true rfl) dL_law_1317 ⟨hc, hs⟩ hS la.o1 (fun H locs hM hS _ hkp => ?_)
  obtain ⟨he, hn, hM⟩ := hM
  have hP : va_P D vwCl (w0 ci cz q0 F P g) H := P_stay hP hkp la.n0
  have hO : va_P D vwCl (wo cj ob f) H := P_stay hO hkp la.no
  refine lv_istore (lv' := [(6, .int (rz (k_holder F P g (xs (i + 1)) (xs (i + 2))) (sHol g P (ix (xs (i + 1))) (ix (xs (i + 2)))))), (5, .int (nI (k_holder F P g (xs (i + 1)) (xs (i + 2))))), (0, .ref b), (1, .ref (q0 0)), (2, .ref (q1 0)), (3, .ref ob), (4, .int (nI i))]) hx hb dL_law_1320 hl (by decide) rfl (fun ls hl => ?_)
  refine lv_aload_n hx hb dL_law_1322 rfl (lv_at hl 4 rfl) ?_
  refine r_callR (rest := []) lf.F (m_X1_thrown l (D := D) (ci := ci) (cz := cz) (cj := cj) (q := q1) (F := F) (P := P) (g := g) (th := nI (k_holder F P g (xs (i + 1)) (xs (i + 2)))) (he := he) (hn := hn) hF hP12) (cwV 0 lf.F.2.2.2.2 gL_law_X1_thrown rfl rfl rfl (by decide +kernel) ⟨Nat.le_of_ble_eq_true rfl, Nat.le_of_ble_eq_true rfl⟩) BW.bl (va_recv lf.K hM (ci := 1) (q0 := 0) rfl rfl) (lf.b1 la hM hS) rfl hl.1 rfl (Nat.le_of_ble_eq_true rfl) dL_law_1323 ⟨hc, hs⟩ ?_
  refine lv_iload hx hb dL_law_1326 (lv_at hl 1 rfl) ?_
  refine lv_icmp_eq (tgt := 1333) hx hb dL_law_1328 (by decide) (fun _ => ?_) (fun h => absurd rfl h)
  refine lv_iload hx hb dL_law_1333 (lv_at hl 1 rfl) ?_
  refine lv_if_ne (tgt := 1350) hx hb dL_law_1335 (by decide) (fun _ => ?_) (fun hk => ?_)
  · refine lv_goto (tgt := 2627) hx hb dL_law_1350 (by decide) ?_
    exact kk _ _ _ _ _ _ ⟨hP, ⟨_, _, _, hM⟩, f, hO⟩ hI hS (lv_sub hl [2, 3, 4, 5, 6] rfl)
  · have hK0 : (k_holder F P g (xs (i + 1)) (xs (i + 2))) = 0 := nK0 hk3 hk
    refine lv_aload_n hx hb dL_law_1338 rfl (lv_at hl 5 rfl) ?_
    refine lv_iconst (v := nI 0) hx hb dL_law_1339 (by decide) ?_
    refine r_lald hx hb lf.K rfl hO (hans hK0) dL_law_1340 ?_
    refine lv_iload hx hb dL_law_1341 (lv_at hl 0 rfl) ?_
    refine lv_i2l hx hb dL_law_1343 rfl ?_
    refine r_lcmp hx hb (by rw [rz0 hK0]) dL_law_1344 ?_
    refine lv_if_eq (tgt := 1350) hx hb dL_law_1345 (by decide) (fun _ => ?_) (fun h => absurd rfl h)
    refine lv_goto (tgt := 2627) hx hb dL_law_1350 (by decide) ?_
    exact kk _ _ _ _ _ _ ⟨hP, ⟨_, _, _, hM⟩, f, hO⟩ hI hS (lv_sub hl [2, 3, 4, 5, 6] rfl)
theorem c_master {p : Program} {l : Launch} {s : State} {m : MethodId} {below : List Frame} {meth : Method} {c : Code} {H : Heap} {locs : List Loc} {cells slots : Nat} {Q : State → Prop} {e : Env} {ls : Array Slot} {b L : Nat} {D : va_G} {ci cz cj : ClassId} {q0 q1 : Nat → Nat} {F P : Nat} {g : Nat → Nat → Int32} {ob : Nat} {xs : Nat → Int32} {i : Nat} (lf : LF p m c meth s b L xs D ci cz cj) (la : LA q0 q1 ob s.heap.size) (hl0 : l.stackTraces = false) (hL : L ≤ 3072) (hi : i + 6 ≤ L) (hw : LW D ci cz cj q0 q1 ob F P g H) (hI : Iw F P g) (hS : va_S (big s) s.heap H locs) (hl : lv_has ls 9 [(0, .ref b), (1, .ref (q0 0)), (2, .ref (q1 0)), (3, .ref ob), (4, .int (nI i))]) (hc : cells + 1 ≤ room_1.cells) (hs : slots + 6 ≤ room_1.slots) (kk : ∀ (F P : Nat) (g : Nat → Nat → Int32) (H : Heap) (locs : List Loc) (ls : Array Slot), LW D ci cz cj q0 q1 ob F P g H → Iw F P g → va_S (big s) s.heap H locs → lv_has ls 9 [(0, .ref b), (1, .ref (q0 0)), (2, .ref (q1 0)), (3, .ref ob), (4, .int (nI i))] → W p l e room_1 s m #[.ref b] below meth c H locs (cells + 1) (slots + 6) Q (F0 m 2627 ls [])) : W p l e room_1 s m #[.ref b] below meth c H locs cells slots Q (F0 m 1353 ls []) := by
  obtain ⟨hP, ⟨th, he, hn, hM⟩, f, hO⟩ := hw
  have hx := lf.F.1
  have hb := lf.F.2.1
  have hF := hI.1.1.1
  have hP12 := hI.1.1.2
  refine lv_aload_n hx hb dL_law_1353 rfl (lv_at hl 1 rfl) ?_
  refine r_arg lf hS (lv_at hl 0 rfl) (lv_at hl 4 rfl) (k := 1) rfl (by omega) hL rfl rfl rfl rfl rfl dL_law_1354 dL_law_1355 dL_law_1357 dL_law_1358 dL_law_1359 ?_
  refine lv_aload_n hx hb dL_law_1360 rfl (lv_at hl 3 rfl) ?_
  have hk3 : (k_master F P g (xs (i + 1))) ≤ 3 := by unfold k_master; (repeat' split) <;> decide
  refine r_callLW (As := [.ref (q0 0), .int (xs (i + 1)), .ref ob]) (rest := []) lf.F (m_L_master l hl0 (D := D) (ci := ci) (cz := cz) (cj := cj) (q := q0) (F := F) (P := P) (g := g) (ob := ob) (f0 := f) la.h9 hF hP12 (xs (i + 1)) ) (vx_cwSW 3 lf.F.2.2.2.2 gL_law_L_master rfl rfl rfl (by decide +kernel) ⟨Nat.le_of_ble_eq_true rfl, Nat.le_of_ble_eq_true rfl⟩) BL.bl (lf.b0 la hP hO hS) rfl hl.1 rfl (Nat.le_of_ble_eq_true rfl) dL_law_1361 ⟨hc, hs⟩ hS la.o0 (fun H locs hQ hS hkp => ?_)
  obtain ⟨hP, f, hO, hans⟩ := hQ
  have hM : va_P D vwCl (w1 ci cz q1 th F P g he hn) H := P_stay hM hkp la.n1
  refine lv_istore (lv' := [(5, .int (nI (k_master F P g (xs (i + 1))))), (0, .ref b), (1, .ref (q0 0)), (2, .ref (q1 0)), (3, .ref ob), (4, .int (nI i))]) hx hb dL_law_1364 hl (by decide) rfl (fun ls hl => ?_)
  refine lv_aload_n hx hb dL_law_1366 rfl (lv_at hl 3 rfl) ?_
  refine r_arg lf hS (lv_at hl 1 rfl) (lv_at hl 5 rfl) (k := 1) rfl (by omega) hL rfl rfl rfl rfl rfl dL_law_1367 dL_law_1368 dL_law_1370 dL_law_1371 dL_law_1372 ?_
  refine r_callW (rest := []) lf.F (m_X1_master l (D := D) (ci := ci) (cz := cz) (cj := cj) (q := q1) (F := F) (P := P) (g := g) (th := th) (he := he) (hn := hn) la.h1 hF hP12 (xs (i + 1)) hI.1) (cwV 1 lf.F.2.2.2.2 gL_law_X1_master rfl rfl rfl (by decide +kernel) ⟨Nat.le_of_ble_eq_true rfl, Nat.le_of_ble_eq_true rfl⟩) BW.bl (va_recv lf.K hM (ci := 1) (q0 := 0) rfl rfl) (lf.b1 la hM hS) rfl hl.1 rfl (Nat.le_of_ble_eq_true rfl) dL_law_1373 ⟨hc, hs⟩ hS la.o1 (fun H locs hM hS _ hkp => ?_)
  obtain ⟨he, hn, hM⟩ := hM
  have hP : va_P D vwCl (w0 ci cz q0 F P g) H := P_stay hP hkp la.n0
  have hO : va_P D vwCl (wo cj ob f) H := P_stay hO hkp la.no
  refine lv_istore (lv' := [(6, .int (rz (k_master F P g (xs (i + 1))) (sMas g P (ix (xs (i + 1)))))), (5, .int (nI (k_master F P g (xs (i + 1))))), (0, .ref b), (1, .ref (q0 0)), (2, .ref (q1 0)), (3, .ref ob), (4, .int (nI i))]) hx hb dL_law_1376 hl (by decide) rfl (fun ls hl => ?_)
  refine lv_aload_n hx hb dL_law_1378 rfl (lv_at hl 4 rfl) ?_
  refine r_callR (rest := []) lf.F (m_X1_thrown l (D := D) (ci := ci) (cz := cz) (cj := cj) (q := q1) (F := F) (P := P) (g := g) (th := nI (k_master F P g (xs (i + 1)))) (he := he) (hn := hn) hF hP12) (cwV 0 lf.F.2.2.2.2 gL_law_X1_thrown rfl rfl rfl (by decide +kernel) ⟨Nat.le_of_ble_eq_true rfl, Nat.le_of_ble_eq_true rfl⟩) BW.bl (va_recv lf.K hM (ci := 1) (q0 := 0) rfl rfl) (lf.b1 la hM hS) rfl hl.1 rfl (Nat.le_of_ble_eq_true rfl) dL_law_1379 ⟨hc, hs⟩ ?_
  refine lv_iload hx hb dL_law_1382 (lv_at hl 1 rfl) ?_
  refine lv_icmp_eq (tgt := 1389) hx hb dL_law_1384 (by decide) (fun _ => ?_) (fun h => absurd rfl h)
  refine lv_iload hx hb dL_law_1389 (lv_at hl 1 rfl) ?_
  refine lv_if_ne (tgt := 1406) hx hb dL_law_1391 (by decide) (fun _ => ?_) (fun hk => ?_)
  · refine lv_goto (tgt := 2627) hx hb dL_law_1406 (by decide) ?_
    exact kk _ _ _ _ _ _ ⟨hP, ⟨_, _, _, hM⟩, f, hO⟩ hI hS (lv_sub hl [2, 3, 4, 5, 6] rfl)
  · have hK0 : (k_master F P g (xs (i + 1))) = 0 := nK0 hk3 hk
    refine lv_aload_n hx hb dL_law_1394 rfl (lv_at hl 5 rfl) ?_
    refine lv_iconst (v := nI 0) hx hb dL_law_1395 (by decide) ?_
    refine r_lald hx hb lf.K rfl hO (hans hK0) dL_law_1396 ?_
    refine lv_iload hx hb dL_law_1397 (lv_at hl 0 rfl) ?_
    refine lv_i2l hx hb dL_law_1399 rfl ?_
    refine r_lcmp hx hb (by rw [rz0 hK0]) dL_law_1400 ?_
    refine lv_if_eq (tgt := 1406) hx hb dL_law_1401 (by decide) (fun _ => ?_) (fun h => absurd rfl h)
    refine lv_goto (tgt := 2627) hx hb dL_law_1406 (by decide) ?_
    exact kk _ _ _ _ _ _ ⟨hP, ⟨_, _, _, hM⟩, f, hO⟩ hI hS (lv_sub hl [2, 3, 4, 5, 6] rfl)
theorem c_hasMaster {p : Program} {l : Launch} {s : State} {m : MethodId} {below : List Frame} {meth : Method} {c : Code} {H : Heap} {locs : List Loc} {cells slots : Nat} {Q : State → Prop} {e : Env} {ls : Array Slot} {b L : Nat} {D : va_G} {ci cz cj : ClassId} {q0 q1 : Nat → Nat} {F P : Nat} {g : Nat → Nat → Int32} {ob : Nat} {xs : Nat → Int32} {i : Nat} (lf : LF p m c meth s b L xs D ci cz cj) (la : LA q0 q1 ob s.heap.size) (hl0 : l.stackTraces = false) (hL : L ≤ 3072) (hi : i + 6 ≤ L) (hw : LW D ci cz cj q0 q1 ob F P g H) (hI : Iw F P g) (hS : va_S (big s) s.heap H locs) (hl : lv_has ls 9 [(0, .ref b), (1, .ref (q0 0)), (2, .ref (q1 0)), (3, .ref ob), (4, .int (nI i))]) (hc : cells + 1 ≤ room_1.cells) (hs : slots + 6 ≤ room_1.slots) (kk : ∀ (F P : Nat) (g : Nat → Nat → Int32) (H : Heap) (locs : List Loc) (ls : Array Slot), LW D ci cz cj q0 q1 ob F P g H → Iw F P g → va_S (big s) s.heap H locs → lv_has ls 9 [(0, .ref b), (1, .ref (q0 0)), (2, .ref (q1 0)), (3, .ref ob), (4, .int (nI i))] → W p l e room_1 s m #[.ref b] below meth c H locs (cells + 1) (slots + 6) Q (F0 m 2627 ls [])) : W p l e room_1 s m #[.ref b] below meth c H locs cells slots Q (F0 m 1409 ls []) := by
  obtain ⟨hP, ⟨th, he, hn, hM⟩, f, hO⟩ := hw
  have hx := lf.F.1
  have hb := lf.F.2.1
  have hF := hI.1.1.1
  have hP12 := hI.1.1.2
  refine lv_aload_n hx hb dL_law_1409 rfl (lv_at hl 1 rfl) ?_
  refine r_arg lf hS (lv_at hl 0 rfl) (lv_at hl 4 rfl) (k := 1) rfl (by omega) hL rfl rfl rfl rfl rfl dL_law_1410 dL_law_1411 dL_law_1413 dL_law_1414 dL_law_1415 ?_
  refine lv_aload_n hx hb dL_law_1416 rfl (lv_at hl 3 rfl) ?_
  have hk3 : (k_1 F (xs (i + 1))) ≤ 3 := by unfold k_1; (repeat' split) <;> decide
  refine r_callLW (As := [.ref (q0 0), .int (xs (i + 1)), .ref ob]) (rest := []) lf.F (m_L_hasMaster l hl0 (D := D) (ci := ci) (cz := cz) (cj := cj) (q := q0) (F := F) (P := P) (g := g) (ob := ob) (f0 := f) la.h9 hF hP12 (xs (i + 1)) ) (vx_cwSW 3 lf.F.2.2.2.2 gL_law_L_hasMaster rfl rfl rfl (by decide +kernel) ⟨Nat.le_of_ble_eq_true rfl, Nat.le_of_ble_eq_true rfl⟩) BL.bl (lf.b0 la hP hO hS) rfl hl.1 rfl (Nat.le_of_ble_eq_true rfl) dL_law_1417 ⟨hc, hs⟩ hS la.o0 (fun H locs hQ hS hkp => ?_)
  obtain ⟨hP, f, hO, hans⟩ := hQ
  have hM : va_P D vwCl (w1 ci cz q1 th F P g he hn) H := P_stay hM hkp la.n1
  refine lv_istore (lv' := [(5, .int (nI (k_1 F (xs (i + 1))))), (0, .ref b), (1, .ref (q0 0)), (2, .ref (q1 0)), (3, .ref ob), (4, .int (nI i))]) hx hb dL_law_1420 hl (by decide) rfl (fun ls hl => ?_)
  refine lv_aload_n hx hb dL_law_1422 rfl (lv_at hl 3 rfl) ?_
  refine r_arg lf hS (lv_at hl 1 rfl) (lv_at hl 5 rfl) (k := 1) rfl (by omega) hL rfl rfl rfl rfl rfl dL_law_1423 dL_law_1424 dL_law_1426 dL_law_1427 dL_law_1428 ?_
  refine r_callW (rest := []) lf.F (m_X1_hasMaster l (D := D) (ci := ci) (cz := cz) (cj := cj) (q := q1) (F := F) (P := P) (g := g) (th := th) (he := he) (hn := hn) la.h1 hF hP12 (xs (i + 1)) hI.1) (cwV 1 lf.F.2.2.2.2 gL_law_X1_hasMaster rfl rfl rfl (by decide +kernel) ⟨Nat.le_of_ble_eq_true rfl, Nat.le_of_ble_eq_true rfl⟩) BW.bl (va_recv lf.K hM (ci := 1) (q0 := 0) rfl rfl) (lf.b1 la hM hS) rfl hl.1 rfl (Nat.le_of_ble_eq_true rfl) dL_law_1429 ⟨hc, hs⟩ hS la.o1 (fun H locs hM hS _ hkp => ?_)
  obtain ⟨he, hn, hM⟩ := hM
  have hP : va_P D vwCl (w0 ci cz q0 F P g) H := P_stay hP hkp la.n0
  have hO : va_P D vwCl (wo cj ob f) H := P_stay hO hkp la.no
  refine lv_istore (lv' := [(6, .int (bI (rb (k_1 F (xs (i + 1))) (decide (sMas g P (ix (xs (i + 1))) ≠ -1))))), (5, .int (nI (k_1 F (xs (i + 1))))), (0, .ref b), (1, .ref (q0 0)), (2, .ref (q1 0)), (3, .ref ob), (4, .int (nI i))]) hx hb dL_law_1432 hl (by decide) rfl (fun ls hl => ?_)
  refine lv_aload_n hx hb dL_law_1434 rfl (lv_at hl 4 rfl) ?_
  refine r_callR (rest := []) lf.F (m_X1_thrown l (D := D) (ci := ci) (cz := cz) (cj := cj) (q := q1) (F := F) (P := P) (g := g) (th := nI (k_1 F (xs (i + 1)))) (he := he) (hn := hn) hF hP12) (cwV 0 lf.F.2.2.2.2 gL_law_X1_thrown rfl rfl rfl (by decide +kernel) ⟨Nat.le_of_ble_eq_true rfl, Nat.le_of_ble_eq_true rfl⟩) BW.bl (va_recv lf.K hM (ci := 1) (q0 := 0) rfl rfl) (lf.b1 la hM hS) rfl hl.1 rfl (Nat.le_of_ble_eq_true rfl) dL_law_1435 ⟨hc, hs⟩ ?_
  refine lv_iload hx hb dL_law_1438 (lv_at hl 1 rfl) ?_
  refine lv_icmp_eq (tgt := 1445) hx hb dL_law_1440 (by decide) (fun _ => ?_) (fun h => absurd rfl h)
  refine lv_iload hx hb dL_law_1445 (lv_at hl 1 rfl) ?_
  refine lv_if_ne (tgt := 1469) hx hb dL_law_1447 (by decide) (fun _ => ?_) (fun hk => ?_)
  · refine lv_goto (tgt := 2627) hx hb dL_law_1469 (by decide) ?_
    exact kk _ _ _ _ _ _ ⟨hP, ⟨_, _, _, hM⟩, f, hO⟩ hI hS (lv_sub hl [2, 3, 4, 5, 6] rfl)
  · have hK0 : (k_1 F (xs (i + 1))) = 0 := nK0 hk3 hk
    refine lv_aload_n hx hb dL_law_1450 rfl (lv_at hl 5 rfl) ?_
    refine lv_iconst (v := nI 0) hx hb dL_law_1451 (by decide) ?_
    refine r_lald hx hb lf.K rfl hO (hans hK0) dL_law_1452 ?_
    refine lv_iload hx hb dL_law_1453 (lv_at hl 0 rfl) ?_
    refine b_if_eq (tgt := 1462) hx hb dL_law_1455 (by decide) (fun hb9 => ?_) (fun hb9 => ?_)
    · refine lv_lconst (v := 0) hx hb dL_law_1462 rfl ?_
      refine r_lcmp hx hb (by rw [rb0 hK0] at hb9; rw [hb9]; rfl) dL_law_1463 ?_
      refine lv_if_eq (tgt := 1469) hx hb dL_law_1464 (by decide) (fun _ => ?_) (fun h => absurd rfl h)
      refine lv_goto (tgt := 2627) hx hb dL_law_1469 (by decide) ?_
      exact kk _ _ _ _ _ _ ⟨hP, ⟨_, _, _, hM⟩, f, hO⟩ hI hS (lv_sub hl [2, 3, 4, 5, 6] rfl)
    · refine lv_lconst (v := 1) hx hb dL_law_1458 rfl ?_
      refine lv_goto (tgt := 1463) hx hb dL_law_1459 (by decide) ?_
      refine r_lcmp hx hb (by rw [rb0 hK0] at hb9; rw [hb9]; rfl) dL_law_1463 ?_
      refine lv_if_eq (tgt := 1469) hx hb dL_law_1464 (by decide) (fun _ => ?_) (fun h => absurd rfl h)
      refine lv_goto (tgt := 2627) hx hb dL_law_1469 (by decide) ?_
      exact kk _ _ _ _ _ _ ⟨hP, ⟨_, _, _, hM⟩, f, hO⟩ hI hS (lv_sub hl [2, 3, 4, 5, 6] rfl)
theorem c_shareValue {p : Program} {l : Launch} {s : State} {m : MethodId} {below : List Frame} {meth : Method} {c : Code} {H : Heap} {locs : List Loc} {cells slots : Nat} {Q : State → Prop} {e : Env} {ls : Array Slot} {b L : Nat} {D : va_G} {ci cz cj : ClassId} {q0 q1 : Nat → Nat} {F P : Nat} {g : Nat → Nat → Int32} {ob : Nat} {xs : Nat → Int32} {i : Nat} (lf : LF p m c meth s b L xs D ci cz cj) (la : LA q0 q1 ob s.heap.size) (hl0 : l.stackTraces = false) (hL : L ≤ 3072) (hi : i + 6 ≤ L) (hw : LW D ci cz cj q0 q1 ob F P g H) (hI : Iw F P g) (hS : va_S (big s) s.heap H locs) (hl : lv_has ls 9 [(0, .ref b), (1, .ref (q0 0)), (2, .ref (q1 0)), (3, .ref ob), (4, .int (nI i))]) (hc : cells + 1 ≤ room_1.cells) (hs : slots + 6 ≤ room_1.slots) (kk : ∀ (F P : Nat) (g : Nat → Nat → Int32) (H : Heap) (locs : List Loc) (ls : Array Slot), LW D ci cz cj q0 q1 ob F P g H → Iw F P g → va_S (big s) s.heap H locs → lv_has ls 9 [(0, .ref b), (1, .ref (q0 0)), (2, .ref (q1 0)), (3, .ref ob), (4, .int (nI i))] → W p l e room_1 s m #[.ref b] below meth c H locs (cells + 1) (slots + 6) Q (F0 m 2627 ls [])) : W p l e room_1 s m #[.ref b] below meth c H locs cells slots Q (F0 m 1472 ls []) := by
  obtain ⟨hP, ⟨th, he, hn, hM⟩, f, hO⟩ := hw
  have hx := lf.F.1
  have hb := lf.F.2.1
  have hF := hI.1.1.1
  have hP12 := hI.1.1.2
  refine lv_aload_n hx hb dL_law_1472 rfl (lv_at hl 1 rfl) ?_
  refine r_arg lf hS (lv_at hl 0 rfl) (lv_at hl 4 rfl) (k := 1) rfl (by omega) hL rfl rfl rfl rfl rfl dL_law_1473 dL_law_1474 dL_law_1476 dL_law_1477 dL_law_1478 ?_
  refine r_arg lf hS (lv_at hl 0 rfl) (lv_at hl 4 rfl) (k := 2) rfl (by omega) hL rfl rfl rfl rfl rfl dL_law_1479 dL_law_1480 dL_law_1482 dL_law_1483 dL_law_1484 ?_
  refine lv_aload_n hx hb dL_law_1485 rfl (lv_at hl 3 rfl) ?_
  have hk3 : (k_fw F (xs (i + 1)) (xs (i + 2))) ≤ 3 := by unfold k_fw; (repeat' split) <;> decide
  refine r_callLW (As := [.ref (q0 0), .int (xs (i + 1)), .int (xs (i + 2)), .ref ob]) (rest := []) lf.F (m_L_shareValue l hl0 (D := D) (ci := ci) (cz := cz) (cj := cj) (q := q0) (F := F) (P := P) (g := g) (ob := ob) (f0 := f) la.h9 hF hP12 (xs (i + 1)) (xs (i + 2)) ) (vx_cwSW 4 lf.F.2.2.2.2 gL_law_L_shareValue rfl rfl rfl (by decide +kernel) ⟨Nat.le_of_ble_eq_true rfl, Nat.le_of_ble_eq_true rfl⟩) BL.bl (lf.b0 la hP hO hS) rfl hl.1 rfl (Nat.le_of_ble_eq_true rfl) dL_law_1486 ⟨hc, hs⟩ hS la.o0 (fun H locs hQ hS hkp => ?_)
  obtain ⟨hP, f, hO, hans⟩ := hQ
  have hM : va_P D vwCl (w1 ci cz q1 th F P g he hn) H := P_stay hM hkp la.n1
  refine lv_istore (lv' := [(5, .int (nI (k_fw F (xs (i + 1)) (xs (i + 2))))), (0, .ref b), (1, .ref (q0 0)), (2, .ref (q1 0)), (3, .ref ob), (4, .int (nI i))]) hx hb dL_law_1489 hl (by decide) rfl (fun ls hl => ?_)
  refine lv_aload_n hx hb dL_law_1491 rfl (lv_at hl 3 rfl) ?_
  refine r_arg lf hS (lv_at hl 1 rfl) (lv_at hl 5 rfl) (k := 1) rfl (by omega) hL rfl rfl rfl rfl rfl dL_law_1492 dL_law_1493 dL_law_1495 dL_law_1496 dL_law_1497 ?_
  refine r_arg lf hS (lv_at hl 1 rfl) (lv_at hl 5 rfl) (k := 2) rfl (by omega) hL rfl rfl rfl rfl rfl dL_law_1498 dL_law_1499 dL_law_1501 dL_law_1502 dL_law_1503 ?_
  refine r_callW (rest := []) lf.F (m_X1_shareValue l (D := D) (ci := ci) (cz := cz) (cj := cj) (q := q1) (F := F) (P := P) (g := g) (th := th) (he := he) (hn := hn) la.h1 hF hP12 (xs (i + 1)) (xs (i + 2)) hI.1) (cwV 2 lf.F.2.2.2.2 gL_law_X1_shareValue rfl rfl rfl (by decide +kernel) ⟨Nat.le_of_ble_eq_true rfl, Nat.le_of_ble_eq_true rfl⟩) BW.bl (va_recv lf.K hM (ci := 1) (q0 := 0) rfl rfl) (lf.b1 la hM hS) rfl hl.1 rfl (Nat.le_of_ble_eq_true rfl) dL_law_1504 ⟨hc, hs⟩ hS la.o1 (fun H locs hM hS _ hkp => ?_)
  obtain ⟨he, hn, hM⟩ := hM
  have hP : va_P D vwCl (w0 ci cz q0 F P g) H := P_stay hP hkp la.n0
  have hO : va_P D vwCl (wo cj ob f) H := P_stay hO hkp la.no
  refine lv_istore (lv' := [(6, .int (rz (k_fw F (xs (i + 1)) (xs (i + 2))) (sWor g (ix (xs (i + 1))) (ix (xs (i + 2)))))), (5, .int (nI (k_fw F (xs (i + 1)) (xs (i + 2))))), (0, .ref b), (1, .ref (q0 0)), (2, .ref (q1 0)), (3, .ref ob), (4, .int (nI i))]) hx hb dL_law_1507 hl (by decide) rfl (fun ls hl => ?_)
  refine lv_aload_n hx hb dL_law_1509 rfl (lv_at hl 4 rfl) ?_
  refine r_callR (rest := []) lf.F (m_X1_thrown l (D := D) (ci := ci) (cz := cz) (cj := cj) (q := q1) (F := F) (P := P) (g := g) (th := nI (k_fw F (xs (i + 1)) (xs (i + 2)))) (he := he) (hn := hn) hF hP12) (cwV 0 lf.F.2.2.2.2 gL_law_X1_thrown rfl rfl rfl (by decide +kernel) ⟨Nat.le_of_ble_eq_true rfl, Nat.le_of_ble_eq_true rfl⟩) BW.bl (va_recv lf.K hM (ci := 1) (q0 := 0) rfl rfl) (lf.b1 la hM hS) rfl hl.1 rfl (Nat.le_of_ble_eq_true rfl) dL_law_1510 ⟨hc, hs⟩ ?_
  refine lv_iload hx hb dL_law_1513 (lv_at hl 1 rfl) ?_
  refine lv_icmp_eq (tgt := 1520) hx hb dL_law_1515 (by decide) (fun _ => ?_) (fun h => absurd rfl h)
  refine lv_iload hx hb dL_law_1520 (lv_at hl 1 rfl) ?_
  refine lv_if_ne (tgt := 1537) hx hb dL_law_1522 (by decide) (fun _ => ?_) (fun hk => ?_)
  · refine lv_goto (tgt := 2627) hx hb dL_law_1537 (by decide) ?_
    exact kk _ _ _ _ _ _ ⟨hP, ⟨_, _, _, hM⟩, f, hO⟩ hI hS (lv_sub hl [2, 3, 4, 5, 6] rfl)
  · have hK0 : (k_fw F (xs (i + 1)) (xs (i + 2))) = 0 := nK0 hk3 hk
    refine lv_aload_n hx hb dL_law_1525 rfl (lv_at hl 5 rfl) ?_
    refine lv_iconst (v := nI 0) hx hb dL_law_1526 (by decide) ?_
    refine r_lald hx hb lf.K rfl hO (hans hK0) dL_law_1527 ?_
    refine lv_iload hx hb dL_law_1528 (lv_at hl 0 rfl) ?_
    refine lv_i2l hx hb dL_law_1530 rfl ?_
    refine r_lcmp hx hb (by rw [rz0 hK0]) dL_law_1531 ?_
    refine lv_if_eq (tgt := 1537) hx hb dL_law_1532 (by decide) (fun _ => ?_) (fun h => absurd rfl h)
    refine lv_goto (tgt := 2627) hx hb dL_law_1537 (by decide) ?_
    exact kk _ _ _ _ _ _ ⟨hP, ⟨_, _, _, hM⟩, f, hO⟩ hI hS (lv_sub hl [2, 3, 4, 5, 6] rfl)
theorem c_watchAt {p : Program} {l : Launch} {s : State} {m : MethodId} {below : List Frame} {meth : Method} {c : Code} {H : Heap} {locs : List Loc} {cells slots : Nat} {Q : State → Prop} {e : Env} {ls : Array Slot} {b L : Nat} {D : va_G} {ci cz cj : ClassId} {q0 q1 : Nat → Nat} {F P : Nat} {g : Nat → Nat → Int32} {ob : Nat} {xs : Nat → Int32} {i : Nat} (lf : LF p m c meth s b L xs D ci cz cj) (la : LA q0 q1 ob s.heap.size) (hl0 : l.stackTraces = false) (hL : L ≤ 3072) (hi : i + 6 ≤ L) (hw : LW D ci cz cj q0 q1 ob F P g H) (hI : Iw F P g) (hS : va_S (big s) s.heap H locs) (hl : lv_has ls 9 [(0, .ref b), (1, .ref (q0 0)), (2, .ref (q1 0)), (3, .ref ob), (4, .int (nI i))]) (hc : cells + 1 ≤ room_1.cells) (hs : slots + 6 ≤ room_1.slots) (kk : ∀ (F P : Nat) (g : Nat → Nat → Int32) (H : Heap) (locs : List Loc) (ls : Array Slot), LW D ci cz cj q0 q1 ob F P g H → Iw F P g → va_S (big s) s.heap H locs → lv_has ls 9 [(0, .ref b), (1, .ref (q0 0)), (2, .ref (q1 0)), (3, .ref ob), (4, .int (nI i))] → W p l e room_1 s m #[.ref b] below meth c H locs (cells + 1) (slots + 6) Q (F0 m 2627 ls [])) : W p l e room_1 s m #[.ref b] below meth c H locs cells slots Q (F0 m 1540 ls []) := by
  obtain ⟨hP, ⟨th, he, hn, hM⟩, f, hO⟩ := hw
  have hx := lf.F.1
  have hb := lf.F.2.1
  have hF := hI.1.1.1
  have hP12 := hI.1.1.2
  refine lv_aload_n hx hb dL_law_1540 rfl (lv_at hl 1 rfl) ?_
  refine r_arg lf hS (lv_at hl 0 rfl) (lv_at hl 4 rfl) (k := 1) rfl (by omega) hL rfl rfl rfl rfl rfl dL_law_1541 dL_law_1542 dL_law_1544 dL_law_1545 dL_law_1546 ?_
  refine lv_aload_n hx hb dL_law_1547 rfl (lv_at hl 3 rfl) ?_
  have hk3 : (k_1 24 (xs (i + 1))) ≤ 3 := by unfold k_1; (repeat' split) <;> decide
  refine r_callLW (As := [.ref (q0 0), .int (xs (i + 1)), .ref ob]) (rest := []) lf.F (m_L_watchAt l hl0 (D := D) (ci := ci) (cz := cz) (cj := cj) (q := q0) (F := F) (P := P) (g := g) (ob := ob) (f0 := f) la.h9 hF hP12 (xs (i + 1)) ) (vx_cwSW 3 lf.F.2.2.2.2 gL_law_L_watchAt rfl rfl rfl (by decide +kernel) ⟨Nat.le_of_ble_eq_true rfl, Nat.le_of_ble_eq_true rfl⟩) BL.bl (lf.b0 la hP hO hS) rfl hl.1 rfl (Nat.le_of_ble_eq_true rfl) dL_law_1548 ⟨hc, hs⟩ hS la.o0 (fun H locs hQ hS hkp => ?_)
  obtain ⟨hP, f, hO, hans⟩ := hQ
  have hM : va_P D vwCl (w1 ci cz q1 th F P g he hn) H := P_stay hM hkp la.n1
  refine lv_istore (lv' := [(5, .int (nI (k_1 24 (xs (i + 1))))), (0, .ref b), (1, .ref (q0 0)), (2, .ref (q1 0)), (3, .ref ob), (4, .int (nI i))]) hx hb dL_law_1551 hl (by decide) rfl (fun ls hl => ?_)
  refine lv_aload_n hx hb dL_law_1553 rfl (lv_at hl 3 rfl) ?_
  refine r_arg lf hS (lv_at hl 1 rfl) (lv_at hl 5 rfl) (k := 1) rfl (by omega) hL rfl rfl rfl rfl rfl dL_law_1554 dL_law_1555 dL_law_1557 dL_law_1558 dL_law_1559 ?_
  refine r_callW (rest := []) lf.F (m_X1_watchAt l (D := D) (ci := ci) (cz := cz) (cj := cj) (q := q1) (F := F) (P := P) (g := g) (th := th) (he := he) (hn := hn) la.h1 hF hP12 (xs (i + 1)) hI.1) (cwV 1 lf.F.2.2.2.2 gL_law_X1_watchAt rfl rfl rfl (by decide +kernel) ⟨Nat.le_of_ble_eq_true rfl, Nat.le_of_ble_eq_true rfl⟩) BW.bl (va_recv lf.K hM (ci := 1) (q0 := 0) rfl rfl) (lf.b1 la hM hS) rfl hl.1 rfl (Nat.le_of_ble_eq_true rfl) dL_law_1560 ⟨hc, hs⟩ hS la.o1 (fun H locs hM hS _ hkp => ?_)
  obtain ⟨he, hn, hM⟩ := hM
  have hP : va_P D vwCl (w0 ci cz q0 F P g) H := P_stay hP hkp la.n0
  have hO : va_P D vwCl (wo cj ob f) H := P_stay hO hkp la.no
  refine lv_istore (lv' := [(6, .int (rz (k_1 24 (xs (i + 1))) (nI (ix (xs (i + 1)) / 6)))), (5, .int (nI (k_1 24 (xs (i + 1))))), (0, .ref b), (1, .ref (q0 0)), (2, .ref (q1 0)), (3, .ref ob), (4, .int (nI i))]) hx hb dL_law_1563 hl (by decide) rfl (fun ls hl => ?_)
  refine lv_aload_n hx hb dL_law_1565 rfl (lv_at hl 4 rfl) ?_
  refine r_callR (rest := []) lf.F (m_X1_thrown l (D := D) (ci := ci) (cz := cz) (cj := cj) (q := q1) (F := F) (P := P) (g := g) (th := nI (k_1 24 (xs (i + 1)))) (he := he) (hn := hn) hF hP12) (cwV 0 lf.F.2.2.2.2 gL_law_X1_thrown rfl rfl rfl (by decide +kernel) ⟨Nat.le_of_ble_eq_true rfl, Nat.le_of_ble_eq_true rfl⟩) BW.bl (va_recv lf.K hM (ci := 1) (q0 := 0) rfl rfl) (lf.b1 la hM hS) rfl hl.1 rfl (Nat.le_of_ble_eq_true rfl) dL_law_1566 ⟨hc, hs⟩ ?_
  refine lv_iload hx hb dL_law_1569 (lv_at hl 1 rfl) ?_
  refine lv_icmp_eq (tgt := 1576) hx hb dL_law_1571 (by decide) (fun _ => ?_) (fun h => absurd rfl h)
  refine lv_iload hx hb dL_law_1576 (lv_at hl 1 rfl) ?_
  refine lv_if_ne (tgt := 1593) hx hb dL_law_1578 (by decide) (fun _ => ?_) (fun hk => ?_)
  · refine lv_goto (tgt := 2627) hx hb dL_law_1593 (by decide) ?_
    exact kk _ _ _ _ _ _ ⟨hP, ⟨_, _, _, hM⟩, f, hO⟩ hI hS (lv_sub hl [2, 3, 4, 5, 6] rfl)
  · have hK0 : (k_1 24 (xs (i + 1))) = 0 := nK0 hk3 hk
    refine lv_aload_n hx hb dL_law_1581 rfl (lv_at hl 5 rfl) ?_
    refine lv_iconst (v := nI 0) hx hb dL_law_1582 (by decide) ?_
    refine r_lald hx hb lf.K rfl hO (hans hK0) dL_law_1583 ?_
    refine lv_iload hx hb dL_law_1584 (lv_at hl 0 rfl) ?_
    refine lv_i2l hx hb dL_law_1586 rfl ?_
    refine r_lcmp hx hb (by rw [rz0 hK0]) dL_law_1587 ?_
    refine lv_if_eq (tgt := 1593) hx hb dL_law_1588 (by decide) (fun _ => ?_) (fun h => absurd rfl h)
    refine lv_goto (tgt := 2627) hx hb dL_law_1593 (by decide) ?_
    exact kk _ _ _ _ _ _ ⟨hP, ⟨_, _, _, hM⟩, f, hO⟩ hI hS (lv_sub hl [2, 3, 4, 5, 6] rfl)
theorem c_people {p : Program} {l : Launch} {s : State} {m : MethodId} {below : List Frame} {meth : Method} {c : Code} {H : Heap} {locs : List Loc} {cells slots : Nat} {Q : State → Prop} {e : Env} {ls : Array Slot} {b L : Nat} {D : va_G} {ci cz cj : ClassId} {q0 q1 : Nat → Nat} {F P : Nat} {g : Nat → Nat → Int32} {ob : Nat} {xs : Nat → Int32} {i : Nat} (lf : LF p m c meth s b L xs D ci cz cj) (la : LA q0 q1 ob s.heap.size) (hl0 : l.stackTraces = false) (hL : L ≤ 3072) (hi : i + 6 ≤ L) (hw : LW D ci cz cj q0 q1 ob F P g H) (hI : Iw F P g) (hS : va_S (big s) s.heap H locs) (hl : lv_has ls 9 [(0, .ref b), (1, .ref (q0 0)), (2, .ref (q1 0)), (3, .ref ob), (4, .int (nI i))]) (hc : cells + 1 ≤ room_1.cells) (hs : slots + 6 ≤ room_1.slots) (kk : ∀ (F P : Nat) (g : Nat → Nat → Int32) (H : Heap) (locs : List Loc) (ls : Array Slot), LW D ci cz cj q0 q1 ob F P g H → Iw F P g → va_S (big s) s.heap H locs → lv_has ls 9 [(0, .ref b), (1, .ref (q0 0)), (2, .ref (q1 0)), (3, .ref ob), (4, .int (nI i))] → W p l e room_1 s m #[.ref b] below meth c H locs (cells + 1) (slots + 6) Q (F0 m 2627 ls [])) : W p l e room_1 s m #[.ref b] below meth c H locs cells slots Q (F0 m 1596 ls []) := by
  obtain ⟨hP, ⟨th, he, hn, hM⟩, f, hO⟩ := hw
  have hx := lf.F.1
  have hb := lf.F.2.1
  have hF := hI.1.1.1
  have hP12 := hI.1.1.2
  refine lv_aload_n hx hb dL_law_1596 rfl (lv_at hl 1 rfl) ?_
  refine r_callR (rest := []) lf.F (m_X0_people l (D := D) (ci := ci) (cz := cz) (cj := cj) (q := q0) (F := F) (P := P) (g := g) hF hP12) (cwV 0 lf.F.2.2.2.2 gL_law_X0_people rfl rfl rfl (by decide +kernel) ⟨Nat.le_of_ble_eq_true rfl, Nat.le_of_ble_eq_true rfl⟩) BW.bl (va_recv lf.K hP (ci := 0) (q0 := 0) rfl rfl) (lf.b0' la hP hS) rfl hl.1 rfl (Nat.le_of_ble_eq_true rfl) dL_law_1597 ⟨Nat.le_of_succ_le hc, Nat.le_trans (Nat.le_add_right _ 6) hs⟩ ?_
  refine lv_aload_n hx hb dL_law_1600 rfl (lv_at hl 2 rfl) ?_
  refine r_callW (rest := [.int (nI P)]) lf.F (m_X1_people l (D := D) (ci := ci) (cz := cz) (cj := cj) (q := q1) (F := F) (P := P) (g := g) (th := th) (he := he) (hn := hn) la.h1 hF hP12 hI.1) (cwV 0 lf.F.2.2.2.2 gL_law_X1_people rfl rfl rfl (by decide +kernel) ⟨Nat.le_of_ble_eq_true rfl, Nat.le_of_ble_eq_true rfl⟩) BW.bl (va_recv lf.K hM (ci := 1) (q0 := 0) rfl rfl) (lf.b1 la hM hS) rfl hl.1 rfl (Nat.le_of_ble_eq_true rfl) dL_law_1601 ⟨Nat.le_of_succ_le hc, Nat.le_trans (Nat.le_add_right _ 6) hs⟩ hS la.o1 (fun H locs hM hS _ hkp => ?_)
  obtain ⟨he, hn, hM⟩ := hM
  have hP : va_P D vwCl (w0 ci cz q0 F P g) H := P_stay hP hkp la.n0
  have hO : va_P D vwCl (wo cj ob f) H := P_stay hO hkp la.no
  refine lv_icmp_eq (tgt := 2627) hx hb dL_law_1604 (by decide) (fun _ => ?_) (fun h => absurd rfl h)
  refine W.widen (Nat.le_add_right _ 1) (Nat.le_add_right _ 6) ?_
  exact kk _ _ _ _ _ _ ⟨hP, ⟨_, _, _, hM⟩, f, hO⟩ hI hS hl
theorem c_living {p : Program} {l : Launch} {s : State} {m : MethodId} {below : List Frame} {meth : Method} {c : Code} {H : Heap} {locs : List Loc} {cells slots : Nat} {Q : State → Prop} {e : Env} {ls : Array Slot} {b L : Nat} {D : va_G} {ci cz cj : ClassId} {q0 q1 : Nat → Nat} {F P : Nat} {g : Nat → Nat → Int32} {ob : Nat} {xs : Nat → Int32} {i : Nat} (lf : LF p m c meth s b L xs D ci cz cj) (la : LA q0 q1 ob s.heap.size) (hl0 : l.stackTraces = false) (hL : L ≤ 3072) (hi : i + 6 ≤ L) (hw : LW D ci cz cj q0 q1 ob F P g H) (hI : Iw F P g) (hS : va_S (big s) s.heap H locs) (hl : lv_has ls 9 [(0, .ref b), (1, .ref (q0 0)), (2, .ref (q1 0)), (3, .ref ob), (4, .int (nI i))]) (hc : cells + 1 ≤ room_1.cells) (hs : slots + 6 ≤ room_1.slots) (kk : ∀ (F P : Nat) (g : Nat → Nat → Int32) (H : Heap) (locs : List Loc) (ls : Array Slot), LW D ci cz cj q0 q1 ob F P g H → Iw F P g → va_S (big s) s.heap H locs → lv_has ls 9 [(0, .ref b), (1, .ref (q0 0)), (2, .ref (q1 0)), (3, .ref ob), (4, .int (nI i))] → W p l e room_1 s m #[.ref b] below meth c H locs (cells + 1) (slots + 6) Q (F0 m 2627 ls [])) : W p l e room_1 s m #[.ref b] below meth c H locs cells slots Q (F0 m 1609 ls []) := by
  obtain ⟨hP, ⟨th, he, hn, hM⟩, f, hO⟩ := hw
  have hx := lf.F.1
  have hb := lf.F.2.1
  have hF := hI.1.1.1
  have hP12 := hI.1.1.2
  refine lv_aload_n hx hb dL_law_1609 rfl (lv_at hl 1 rfl) ?_
  refine r_callR (rest := []) lf.F (m_X0_living l (D := D) (ci := ci) (cz := cz) (cj := cj) (q := q0) (F := F) (P := P) (g := g) hF hP12) (cwV 0 lf.F.2.2.2.2 gL_law_X0_living rfl rfl rfl (by decide +kernel) ⟨Nat.le_of_ble_eq_true rfl, Nat.le_of_ble_eq_true rfl⟩) BW.bl (va_recv lf.K hP (ci := 0) (q0 := 0) rfl rfl) (lf.b0' la hP hS) rfl hl.1 rfl (Nat.le_of_ble_eq_true rfl) dL_law_1610 ⟨Nat.le_of_succ_le hc, Nat.le_trans (Nat.le_add_right _ 6) hs⟩ ?_
  refine lv_aload_n hx hb dL_law_1613 rfl (lv_at hl 2 rfl) ?_
  refine r_callW (rest := [.int (nI (sLiv g P))]) lf.F (m_X1_living l (D := D) (ci := ci) (cz := cz) (cj := cj) (q := q1) (F := F) (P := P) (g := g) (th := th) (he := he) (hn := hn) la.h1 hF hP12 hI.1) (cwV 0 lf.F.2.2.2.2 gL_law_X1_living rfl rfl rfl (by decide +kernel) ⟨Nat.le_of_ble_eq_true rfl, Nat.le_of_ble_eq_true rfl⟩) BW.bl (va_recv lf.K hM (ci := 1) (q0 := 0) rfl rfl) (lf.b1 la hM hS) rfl hl.1 rfl (Nat.le_of_ble_eq_true rfl) dL_law_1614 ⟨Nat.le_of_succ_le hc, Nat.le_trans (Nat.le_add_right _ 6) hs⟩ hS la.o1 (fun H locs hM hS _ hkp => ?_)
  obtain ⟨he, hn, hM⟩ := hM
  have hP : va_P D vwCl (w0 ci cz q0 F P g) H := P_stay hP hkp la.n0
  have hO : va_P D vwCl (wo cj ob f) H := P_stay hO hkp la.no
  refine lv_icmp_eq (tgt := 2627) hx hb dL_law_1617 (by decide) (fun _ => ?_) (fun h => absurd rfl h)
  refine W.widen (Nat.le_add_right _ 1) (Nat.le_add_right _ 6) ?_
  exact kk _ _ _ _ _ _ ⟨hP, ⟨_, _, _, hM⟩, f, hO⟩ hI hS hl
theorem c_isAlive {p : Program} {l : Launch} {s : State} {m : MethodId} {below : List Frame} {meth : Method} {c : Code} {H : Heap} {locs : List Loc} {cells slots : Nat} {Q : State → Prop} {e : Env} {ls : Array Slot} {b L : Nat} {D : va_G} {ci cz cj : ClassId} {q0 q1 : Nat → Nat} {F P : Nat} {g : Nat → Nat → Int32} {ob : Nat} {xs : Nat → Int32} {i : Nat} (lf : LF p m c meth s b L xs D ci cz cj) (la : LA q0 q1 ob s.heap.size) (hl0 : l.stackTraces = false) (hL : L ≤ 3072) (hi : i + 6 ≤ L) (hw : LW D ci cz cj q0 q1 ob F P g H) (hI : Iw F P g) (hS : va_S (big s) s.heap H locs) (hl : lv_has ls 9 [(0, .ref b), (1, .ref (q0 0)), (2, .ref (q1 0)), (3, .ref ob), (4, .int (nI i))]) (hc : cells + 1 ≤ room_1.cells) (hs : slots + 6 ≤ room_1.slots) (kk : ∀ (F P : Nat) (g : Nat → Nat → Int32) (H : Heap) (locs : List Loc) (ls : Array Slot), LW D ci cz cj q0 q1 ob F P g H → Iw F P g → va_S (big s) s.heap H locs → lv_has ls 9 [(0, .ref b), (1, .ref (q0 0)), (2, .ref (q1 0)), (3, .ref ob), (4, .int (nI i))] → W p l e room_1 s m #[.ref b] below meth c H locs (cells + 1) (slots + 6) Q (F0 m 2627 ls [])) : W p l e room_1 s m #[.ref b] below meth c H locs cells slots Q (F0 m 1622 ls []) := by
  obtain ⟨hP, ⟨th, he, hn, hM⟩, f, hO⟩ := hw
  have hx := lf.F.1
  have hb := lf.F.2.1
  have hF := hI.1.1.1
  have hP12 := hI.1.1.2
  refine lv_aload_n hx hb dL_law_1622 rfl (lv_at hl 1 rfl) ?_
  refine r_arg lf hS (lv_at hl 0 rfl) (lv_at hl 4 rfl) (k := 1) rfl (by omega) hL rfl rfl rfl rfl rfl dL_law_1623 dL_law_1624 dL_law_1626 dL_law_1627 dL_law_1628 ?_
  refine lv_aload_n hx hb dL_law_1629 rfl (lv_at hl 3 rfl) ?_
  have hk3 : (k_1 P (xs (i + 1))) ≤ 3 := by unfold k_1; (repeat' split) <;> decide
  refine r_callLW (As := [.ref (q0 0), .int (xs (i + 1)), .ref ob]) (rest := []) lf.F (m_L_isAlive l hl0 (D := D) (ci := ci) (cz := cz) (cj := cj) (q := q0) (F := F) (P := P) (g := g) (ob := ob) (f0 := f) la.h9 hF hP12 (xs (i + 1)) ) (vx_cwSW 3 lf.F.2.2.2.2 gL_law_L_isAlive rfl rfl rfl (by decide +kernel) ⟨Nat.le_of_ble_eq_true rfl, Nat.le_of_ble_eq_true rfl⟩) BL.bl (lf.b0 la hP hO hS) rfl hl.1 rfl (Nat.le_of_ble_eq_true rfl) dL_law_1630 ⟨hc, hs⟩ hS la.o0 (fun H locs hQ hS hkp => ?_)
  obtain ⟨hP, f, hO, hans⟩ := hQ
  have hM : va_P D vwCl (w1 ci cz q1 th F P g he hn) H := P_stay hM hkp la.n1
  refine lv_istore (lv' := [(5, .int (nI (k_1 P (xs (i + 1))))), (0, .ref b), (1, .ref (q0 0)), (2, .ref (q1 0)), (3, .ref ob), (4, .int (nI i))]) hx hb dL_law_1633 hl (by decide) rfl (fun ls hl => ?_)
  refine lv_aload_n hx hb dL_law_1635 rfl (lv_at hl 3 rfl) ?_
  refine r_arg lf hS (lv_at hl 1 rfl) (lv_at hl 5 rfl) (k := 1) rfl (by omega) hL rfl rfl rfl rfl rfl dL_law_1636 dL_law_1637 dL_law_1639 dL_law_1640 dL_law_1641 ?_
  refine r_callW (rest := []) lf.F (m_X1_isAlive l (D := D) (ci := ci) (cz := cz) (cj := cj) (q := q1) (F := F) (P := P) (g := g) (th := th) (he := he) (hn := hn) la.h1 hF hP12 (xs (i + 1)) hI.1) (cwV 1 lf.F.2.2.2.2 gL_law_X1_isAlive rfl rfl rfl (by decide +kernel) ⟨Nat.le_of_ble_eq_true rfl, Nat.le_of_ble_eq_true rfl⟩) BW.bl (va_recv lf.K hM (ci := 1) (q0 := 0) rfl rfl) (lf.b1 la hM hS) rfl hl.1 rfl (Nat.le_of_ble_eq_true rfl) dL_law_1642 ⟨hc, hs⟩ hS la.o1 (fun H locs hM hS _ hkp => ?_)
  obtain ⟨he, hn, hM⟩ := hM
  have hP : va_P D vwCl (w0 ci cz q0 F P g) H := P_stay hP hkp la.n0
  have hO : va_P D vwCl (wo cj ob f) H := P_stay hO hkp la.no
  refine lv_istore (lv' := [(6, .int (bI (rb (k_1 P (xs (i + 1))) (lv g (ix (xs (i + 1))))))), (5, .int (nI (k_1 P (xs (i + 1))))), (0, .ref b), (1, .ref (q0 0)), (2, .ref (q1 0)), (3, .ref ob), (4, .int (nI i))]) hx hb dL_law_1645 hl (by decide) rfl (fun ls hl => ?_)
  refine lv_aload_n hx hb dL_law_1647 rfl (lv_at hl 4 rfl) ?_
  refine r_callR (rest := []) lf.F (m_X1_thrown l (D := D) (ci := ci) (cz := cz) (cj := cj) (q := q1) (F := F) (P := P) (g := g) (th := nI (k_1 P (xs (i + 1)))) (he := he) (hn := hn) hF hP12) (cwV 0 lf.F.2.2.2.2 gL_law_X1_thrown rfl rfl rfl (by decide +kernel) ⟨Nat.le_of_ble_eq_true rfl, Nat.le_of_ble_eq_true rfl⟩) BW.bl (va_recv lf.K hM (ci := 1) (q0 := 0) rfl rfl) (lf.b1 la hM hS) rfl hl.1 rfl (Nat.le_of_ble_eq_true rfl) dL_law_1648 ⟨hc, hs⟩ ?_
  refine lv_iload hx hb dL_law_1651 (lv_at hl 1 rfl) ?_
  refine lv_icmp_eq (tgt := 1658) hx hb dL_law_1653 (by decide) (fun _ => ?_) (fun h => absurd rfl h)
  refine lv_iload hx hb dL_law_1658 (lv_at hl 1 rfl) ?_
  refine lv_if_ne (tgt := 1682) hx hb dL_law_1660 (by decide) (fun _ => ?_) (fun hk => ?_)
  · refine lv_goto (tgt := 2627) hx hb dL_law_1682 (by decide) ?_
    exact kk _ _ _ _ _ _ ⟨hP, ⟨_, _, _, hM⟩, f, hO⟩ hI hS (lv_sub hl [2, 3, 4, 5, 6] rfl)
  · have hK0 : (k_1 P (xs (i + 1))) = 0 := nK0 hk3 hk
    refine lv_aload_n hx hb dL_law_1663 rfl (lv_at hl 5 rfl) ?_
    refine lv_iconst (v := nI 0) hx hb dL_law_1664 (by decide) ?_
    refine r_lald hx hb lf.K rfl hO (hans hK0) dL_law_1665 ?_
    refine lv_iload hx hb dL_law_1666 (lv_at hl 0 rfl) ?_
    refine b_if_eq (tgt := 1675) hx hb dL_law_1668 (by decide) (fun hb9 => ?_) (fun hb9 => ?_)
    · refine lv_lconst (v := 0) hx hb dL_law_1675 rfl ?_
      refine r_lcmp hx hb (by rw [rb0 hK0] at hb9; rw [hb9]; rfl) dL_law_1676 ?_
      refine lv_if_eq (tgt := 1682) hx hb dL_law_1677 (by decide) (fun _ => ?_) (fun h => absurd rfl h)
      refine lv_goto (tgt := 2627) hx hb dL_law_1682 (by decide) ?_
      exact kk _ _ _ _ _ _ ⟨hP, ⟨_, _, _, hM⟩, f, hO⟩ hI hS (lv_sub hl [2, 3, 4, 5, 6] rfl)
    · refine lv_lconst (v := 1) hx hb dL_law_1671 rfl ?_
      refine lv_goto (tgt := 1676) hx hb dL_law_1672 (by decide) ?_
      refine r_lcmp hx hb (by rw [rb0 hK0] at hb9; rw [hb9]; rfl) dL_law_1676 ?_
      refine lv_if_eq (tgt := 1682) hx hb dL_law_1677 (by decide) (fun _ => ?_) (fun h => absurd rfl h)
      refine lv_goto (tgt := 2627) hx hb dL_law_1682 (by decide) ?_
      exact kk _ _ _ _ _ _ ⟨hP, ⟨_, _, _, hM⟩, f, hO⟩ hI hS (lv_sub hl [2, 3, 4, 5, 6] rfl)
end CASES1
