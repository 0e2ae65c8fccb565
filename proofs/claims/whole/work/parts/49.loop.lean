/-! PART 49: the law's switch, its loop. -/
section LOOP
/-- one call of the script -/
theorem law_case {p : Program} {l : Launch} {s : State} {m : MethodId} {below : List Frame} {meth : Method} {c : Code} {e : Env} {b L : Nat} {D : va_G} {ci cz cj : ClassId} {q0 q1 : Nat → Nat} {ob : Nat} {xs : Nat → Int32} (lf : LF p m c meth s b L xs D ci cz cj) (la : LA q0 q1 ob s.heap.size) (hl0 : l.stackTraces = false) (hL : L ≤ 3072) {j : Nat} (hi : 6 * j + 6 ≤ L) {F P : Nat} {g : Nat → Nat → Int32} {H : Heap} {locs : List Loc} {ls : Array Slot} {d0 : Drawn} (hd0 : s.drawn.sameBut d0 lw_cs) (hw : LW D ci cz cj q0 q1 ob F P g H) (hI : Iw F P g) (hS : va_S (big s) s.heap H locs) (hl : lv_has ls 9 [(0, .ref b), (1, .ref (q0 0)), (2, .ref (q1 0)), (3, .ref ob), (4, .int (nI (6 * j)))]) (kk : ∀ (F P : Nat) (g : Nat → Nat → Int32) (H : Heap) (locs : List Loc) (ls : Array Slot) (d0 : Drawn), s.drawn.sameBut d0 lw_cs → LW D ci cz cj q0 q1 ob F P g H → Iw F P g → va_S (big s) s.heap H locs → lv_has ls 9 [(0, .ref b), (1, .ref (q0 0)), (2, .ref (q1 0)), (3, .ref ob), (4, .int (nI (6 * j)))] → W p l e room_1 (s.setDrawn d0) m #[.ref b] below meth c H locs (18 + j + 1) (732 + 6 * j + 6) (lw_Z below #[.ref b] s) (F0 m 2627 ls [])) : W p l e room_1 (s.setDrawn d0) m #[.ref b] below meth c H locs (18 + j) (732 + 6 * j) (lw_Z below #[.ref b] s) (F0 m 33 ls []) := by
  have hx := lf.F.1
  have hb := lf.F.2.1
  have hc : 18 + j + 1 ≤ room_1.cells := by show 18 + j + 1 ≤ 1063; omega
  have hs : 732 + 6 * j + 6 ≤ room_1.slots := by show 732 + 6 * j + 6 ≤ 9050; omega
  refine lv_aload_n hx hb dL_law_33 rfl (lv_at hl 0 rfl) ?_
  refine lv_iload hx hb dL_law_34 (lv_at hl 4 rfl) ?_
  refine va_sld hx hb (lf.dr d0).X lf.hb (A := big s) (Nat.not_le.mpr lf.hb) hS (vp_in_nI (show 6 * j < L by omega) (by omega)) dL_law_36 ?_
  refine lv_bipush (v := nI 63) hx hb dL_law_37 (by decide) ?_
  refine lv_iand hx hb dL_law_39 ?_
  rw [pk_and _ 6 (by decide)]
  obtain ⟨z, hz⟩ : ∃ z, z = (xs (nI (6 * j)).toNatClampNeg).toBitVec.toNat % 2 ^ 6 := ⟨_, rfl⟩
  have hz64 : z < 64 := by rw [hz]; exact Nat.mod_lt _ (by decide)
  rw [← hz]
  clear hz
  by_cases h0 : z = 0
  · subst h0
    refine lv_tableIn (tgt := 216) (off := 176) hx hb dL_law_40 (by decide) (by decide) (by decide +kernel) (by decide) ?_
    exact c_addFerry (lf.dr d0) la hl0 hL hi hw hI hS hl hc hs (fun F P g H locs ls hw hI hS hl => kk F P g H locs ls d0 hd0 hw hI hS hl)
  by_cases h1 : z = 1
  · subst h1
    refine lv_tableIn (tgt := 272) (off := 232) hx hb dL_law_40 (by decide) (by decide) (by decide +kernel) (by decide) ?_
    exact c_addPerson (lf.dr d0) la hl0 hL hi hw hI hS hl hc hs (fun F P g H locs ls hw hI hS hl => kk F P g H locs ls d0 hd0 hw hI hS hl)
  by_cases h2 : z = 2
  · subst h2
    refine lv_tableIn (tgt := 316) (off := 276) hx hb dL_law_40 (by decide) (by decide) (by decide +kernel) (by decide) ?_
    exact c_addChild (lf.dr d0) la hl0 hL hi hw hI hS hl hc hs (fun F P g H locs ls hw hI hS hl => kk F P g H locs ls d0 hd0 hw hI hS hl)
  by_cases h3 : z = 3
  · subst h3
    refine lv_tableIn (tgt := 372) (off := 332) hx hb dL_law_40 (by decide) (by decide) (by decide +kernel) (by decide) ?_
    exact c_pay (lf.dr d0) la hl0 hL hi hw hI hS hl hc hs (fun F P g H locs ls hw hI hS hl => kk F P g H locs ls d0 hd0 hw hI hS hl)
  by_cases h4 : z = 4
  · subst h4
    refine lv_tableIn (tgt := 440) (off := 400) hx hb dL_law_40 (by decide) (by decide) (by decide +kernel) (by decide) ?_
    exact c_grant (lf.dr d0) la hl0 hL hi hw hI hS hl hc hs (fun F P g H locs ls hw hI hS hl => kk F P g H locs ls d0 hd0 hw hI hS hl)
  by_cases h5 : z = 5
  · subst h5
    refine lv_tableIn (tgt := 532) (off := 492) hx hb dL_law_40 (by decide) (by decide) (by decide +kernel) (by decide) ?_
    exact c_give (lf.dr d0) la hl0 hL hi hw hI hS hl hc hs (fun F P g H locs ls hw hI hS hl => kk F P g H locs ls d0 hd0 hw hI hS hl)
  by_cases h6 : z = 6
  · subst h6
    refine lv_tableIn (tgt := 636) (off := 596) hx hb dL_law_40 (by decide) (by decide) (by decide +kernel) (by decide) ?_
    exact c_buy (lf.dr d0) la hl0 hL hi hw hI hS hl hc hs (fun F P g H locs ls hw hI hS hl => kk F P g H locs ls d0 hd0 hw hI hS hl)
  by_cases h7 : z = 7
  · subst h7
    refine lv_tableIn (tgt := 728) (off := 688) hx hb dL_law_40 (by decide) (by decide) (by decide +kernel) (by decide) ?_
    exact c_setToll (lf.dr d0) la hl0 hL hi hw hI hS hl hc hs (fun F P g H locs ls hw hI hS hl => kk F P g H locs ls d0 hd0 hw hI hS hl)
  by_cases h8 : z = 8
  · subst h8
    refine lv_tableIn (tgt := 808) (off := 768) hx hb dL_law_40 (by decide) (by decide) (by decide +kernel) (by decide) ?_
    exact c_carry (lf.dr d0) la hl0 hL hi hw hI hS hl hc hs (fun F P g H locs ls hw hI hS hl => kk F P g H locs ls d0 hd0 hw hI hS hl)
  by_cases h9 : z = 9
  · subst h9
    refine lv_tableIn (tgt := 888) (off := 848) hx hb dL_law_40 (by decide) (by decide) (by decide +kernel) (by decide) ?_
    exact c_die (lf.dr d0) la hl0 hL hi hw hI hS hl hc hs (fun F P g H locs ls hw hI hS hl => kk F P g H locs ls d0 hd0 hw hI hS hl)
  by_cases h10 : z = 10
  · subst h10
    refine lv_tableIn (tgt := 944) (off := 904) hx hb dL_law_40 (by decide) (by decide) (by decide +kernel) (by decide) ?_
    exact c_ferries (lf.dr d0) la hl0 hL hi hw hI hS hl hc hs (fun F P g H locs ls hw hI hS hl => kk F P g H locs ls d0 hd0 hw hI hS hl)
  by_cases h11 : z = 11
  · subst h11
    refine lv_tableIn (tgt := 957) (off := 917) hx hb dL_law_40 (by decide) (by decide) (by decide +kernel) (by decide) ?_
    exact c_toll (lf.dr d0) la hl0 hL hi hw hI hS hl hc hs (fun F P g H locs ls hw hI hS hl => kk F P g H locs ls d0 hd0 hw hI hS hl)
  by_cases h12 : z = 12
  · subst h12
    refine lv_tableIn (tgt := 1013) (off := 973) hx hb dL_law_40 (by decide) (by decide) (by decide +kernel) (by decide) ?_
    exact c_carried (lf.dr d0) la hl0 hL hi hw hI hS hl hc hs (fun F P g H locs ls hw hI hS hl => kk F P g H locs ls d0 hd0 hw hI hS hl)
  by_cases h13 : z = 13
  · subst h13
    refine lv_tableIn (tgt := 1069) (off := 1029) hx hb dL_law_40 (by decide) (by decide) (by decide +kernel) (by decide) ?_
    exact c_shares (lf.dr d0) la hl0 hL hi hw hI hS hl hc hs (fun F P g H locs ls hw hI hS hl => kk F P g H locs ls d0 hd0 hw hI hS hl)
  by_cases h14 : z = 14
  · subst h14
    refine lv_tableIn (tgt := 1149) (off := 1109) hx hb dL_law_40 (by decide) (by decide) (by decide +kernel) (by decide) ?_
    exact c_crownShares (lf.dr d0) la hl0 hL hi hw hI hS hl hc hs (fun F P g H locs ls hw hI hS hl => kk F P g H locs ls d0 hd0 hw hI hS hl)
  by_cases h15 : z = 15
  · subst h15
    refine lv_tableIn (tgt := 1217) (off := 1177) hx hb dL_law_40 (by decide) (by decide) (by decide +kernel) (by decide) ?_
    exact c_owners (lf.dr d0) la hl0 hL hi hw hI hS hl hc hs (fun F P g H locs ls hw hI hS hl => kk F P g H locs ls d0 hd0 hw hI hS hl)
  by_cases h16 : z = 16
  · subst h16
    refine lv_tableIn (tgt := 1285) (off := 1245) hx hb dL_law_40 (by decide) (by decide) (by decide +kernel) (by decide) ?_
    exact c_holder (lf.dr d0) la hl0 hL hi hw hI hS hl hc hs (fun F P g H locs ls hw hI hS hl => kk F P g H locs ls d0 hd0 hw hI hS hl)
  by_cases h17 : z = 17
  · subst h17
    refine lv_tableIn (tgt := 1353) (off := 1313) hx hb dL_law_40 (by decide) (by decide) (by decide +kernel) (by decide) ?_
    exact c_master (lf.dr d0) la hl0 hL hi hw hI hS hl hc hs (fun F P g H locs ls hw hI hS hl => kk F P g H locs ls d0 hd0 hw hI hS hl)
  by_cases h18 : z = 18
  · subst h18
    refine lv_tableIn (tgt := 1409) (off := 1369) hx hb dL_law_40 (by decide) (by decide) (by decide +kernel) (by decide) ?_
    exact c_hasMaster (lf.dr d0) la hl0 hL hi hw hI hS hl hc hs (fun F P g H locs ls hw hI hS hl => kk F P g H locs ls d0 hd0 hw hI hS hl)
  by_cases h19 : z = 19
  · subst h19
    refine lv_tableIn (tgt := 1472) (off := 1432) hx hb dL_law_40 (by decide) (by decide) (by decide +kernel) (by decide) ?_
    exact c_shareValue (lf.dr d0) la hl0 hL hi hw hI hS hl hc hs (fun F P g H locs ls hw hI hS hl => kk F P g H locs ls d0 hd0 hw hI hS hl)
  by_cases h20 : z = 20
  · subst h20
    refine lv_tableIn (tgt := 1540) (off := 1500) hx hb dL_law_40 (by decide) (by decide) (by decide +kernel) (by decide) ?_
    exact c_watchAt (lf.dr d0) la hl0 hL hi hw hI hS hl hc hs (fun F P g H locs ls hw hI hS hl => kk F P g H locs ls d0 hd0 hw hI hS hl)
  by_cases h21 : z = 21
  · subst h21
    refine lv_tableIn (tgt := 1596) (off := 1556) hx hb dL_law_40 (by decide) (by decide) (by decide +kernel) (by decide) ?_
    exact c_people (lf.dr d0) la hl0 hL hi hw hI hS hl hc hs (fun F P g H locs ls hw hI hS hl => kk F P g H locs ls d0 hd0 hw hI hS hl)
  by_cases h22 : z = 22
  · subst h22
    refine lv_tableIn (tgt := 1609) (off := 1569) hx hb dL_law_40 (by decide) (by decide) (by decide +kernel) (by decide) ?_
    exact c_living (lf.dr d0) la hl0 hL hi hw hI hS hl hc hs (fun F P g H locs ls hw hI hS hl => kk F P g H locs ls d0 hd0 hw hI hS hl)
  by_cases h23 : z = 23
  · subst h23
    refine lv_tableIn (tgt := 1622) (off := 1582) hx hb dL_law_40 (by decide) (by decide) (by decide +kernel) (by decide) ?_
    exact c_isAlive (lf.dr d0) la hl0 hL hi hw hI hS hl hc hs (fun F P g H locs ls hw hI hS hl => kk F P g H locs ls d0 hd0 hw hI hS hl)
  by_cases h24 : z = 24
  · subst h24
    refine lv_tableIn (tgt := 1685) (off := 1645) hx hb dL_law_40 (by decide) (by decide) (by decide +kernel) (by decide) ?_
    exact c_coins (lf.dr d0) la hl0 hL hi hw hI hS hl hc hs (fun F P g H locs ls hw hI hS hl => kk F P g H locs ls d0 hd0 hw hI hS hl)
  by_cases h25 : z = 25
  · subst h25
    refine lv_tableIn (tgt := 1741) (off := 1701) hx hb dL_law_40 (by decide) (by decide) (by decide +kernel) (by decide) ?_
    exact c_earned (lf.dr d0) la hl0 hL hi hw hI hS hl hc hs (fun F P g H locs ls hw hI hS hl => kk F P g H locs ls d0 hd0 hw hI hS hl)
  by_cases h26 : z = 26
  · subst h26
    refine lv_tableIn (tgt := 1797) (off := 1757) hx hb dL_law_40 (by decide) (by decide) (by decide +kernel) (by decide) ?_
    exact c_allShares (lf.dr d0) la hl0 hL hi hw hI hS hl hc hs (fun F P g H locs ls hw hI hS hl => kk F P g H locs ls d0 hd0 hw hI hS hl)
  by_cases h27 : z = 27
  · subst h27
    refine lv_tableIn (tgt := 1853) (off := 1813) hx hb dL_law_40 (by decide) (by decide) (by decide +kernel) (by decide) ?_
    exact c_hasParent (lf.dr d0) la hl0 hL hi hw hI hS hl hc hs (fun F P g H locs ls hw hI hS hl => kk F P g H locs ls d0 hd0 hw hI hS hl)
  by_cases h28 : z = 28
  · subst h28
    refine lv_tableIn (tgt := 1916) (off := 1876) hx hb dL_law_40 (by decide) (by decide) (by decide +kernel) (by decide) ?_
    exact c_parent (lf.dr d0) la hl0 hL hi hw hI hS hl hc hs (fun F P g H locs ls hw hI hS hl => kk F P g H locs ls d0 hd0 hw hI hS hl)
  by_cases h29 : z = 29
  · subst h29
    refine lv_tableIn (tgt := 1972) (off := 1932) hx hb dL_law_40 (by decide) (by decide) (by decide +kernel) (by decide) ?_
    exact c_children (lf.dr d0) la hl0 hL hi hw hI hS hl hc hs (fun F P g H locs ls hw hI hS hl => kk F P g H locs ls d0 hd0 hw hI hS hl)
  by_cases h30 : z = 30
  · subst h30
    refine lv_tableIn (tgt := 2028) (off := 1988) hx hb dL_law_40 (by decide) (by decide) (by decide +kernel) (by decide) ?_
    exact c_heirs (lf.dr d0) la hl0 hL hi hw hI hS hl hc hs (fun F P g H locs ls hw hI hS hl => kk F P g H locs ls d0 hd0 hw hI hS hl)
  by_cases h31 : z = 31
  · subst h31
    refine lv_tableIn (tgt := 2084) (off := 2044) hx hb dL_law_40 (by decide) (by decide) (by decide +kernel) (by decide) ?_
    exact c_heir (lf.dr d0) la hl0 hL hi hw hI hS hl hc hs (fun F P g H locs ls hw hI hS hl => kk F P g H locs ls d0 hd0 hw hI hS hl)
  by_cases h32 : z = 32
  · subst h32
    refine lv_tableIn (tgt := 2152) (off := 2112) hx hb dL_law_40 (by decide) (by decide) (by decide +kernel) (by decide) ?_
    exact c_crownCoins (lf.dr d0) la hl0 hL hi hw hI hS hl hc hs (fun F P g H locs ls hw hI hS hl => kk F P g H locs ls d0 hd0 hw hI hS hl)
  by_cases h33 : z = 33
  · subst h33
    refine lv_tableIn (tgt := 2165) (off := 2125) hx hb dL_law_40 (by decide) (by decide) (by decide +kernel) (by decide) ?_
    exact c_price (lf.dr d0) la hl0 hL hi hw hI hS hl hc hs (fun F P g H locs ls hw hI hS hl => kk F P g H locs ls d0 hd0 hw hI hS hl)
  by_cases h34 : z = 34
  · subst h34
    refine lv_tableIn (tgt := 2245) (off := 2205) hx hb dL_law_40 (by decide) (by decide) (by decide +kernel) (by decide) ?_
    exact c_canBuy (lf.dr d0) la hl0 hL hi hw hI hS hl hc hs (fun F P g H locs ls hw hI hS hl => kk F P g H locs ls d0 hd0 hw hI hS hl)
  by_cases h35 : z = 35
  · subst h35
    refine lv_tableIn (tgt := 2344) (off := 2304) hx hb dL_law_40 (by decide) (by decide) (by decide +kernel) (by decide) ?_
    exact c_inheritance (lf.dr d0) la hl0 hL hi hw hI hS hl hc hs (fun F P g H locs ls hw hI hS hl => kk F P g H locs ls d0 hd0 hw hI hS hl)
  by_cases h36 : z = 36
  · subst h36
    refine lv_tableIn (tgt := 2436) (off := 2396) hx hb dL_law_40 (by decide) (by decide) (by decide +kernel) (by decide) ?_
    exact c_fare (lf.dr d0) la hl0 hL hi hw hI hS hl hc hs (fun F P g H locs ls hw hI hS hl => kk F P g H locs ls d0 hd0 hw hI hS hl)
  by_cases h37 : z = 37
  · subst h37
    refine lv_tableIn (tgt := 2528) (off := 2488) hx hb dL_law_40 (by decide) (by decide) (by decide +kernel) (by decide) ?_
    exact c_richest (lf.dr d0) la hl0 hL hi hw hI hS hl hc hs (fun F P g H locs ls hw hI hS hl => kk F P g H locs ls d0 hd0 hw hI hS hl)
  by_cases h38 : z = 38
  · subst h38
    refine lv_tableIn (tgt := 2572) (off := 2532) hx hb dL_law_40 (by decide) (by decide) (by decide +kernel) (by decide) ?_
    exact c_meanCoins hd0 lf la hl0 hL hi hw hI hS hl hc hs kk
  by_cases h39 : z = 39
  · subst h39
    refine lv_tableIn (tgt := 2613) (off := 2573) hx hb dL_law_40 (by decide) (by decide) (by decide +kernel) (by decide) ?_
    exact c_digest (lf.dr d0) la hl0 hL hi hw hI hS hl hc hs (fun F P g H locs ls hw hI hS hl => kk F P g H locs ls d0 hd0 hw hI hS hl)
  refine lv_tableOut (tgt := 2627) hx hb dL_law_40 (Or.inr (by rw [nI_toInt (by omega)]; omega)) (by decide) ?_
  refine W.widen (Nat.le_add_right _ 1) (Nat.le_add_right _ 6) ?_
  exact kk _ _ _ _ _ _ _ hd0 hw hI hS hl
/-- the loop: j calls are done -/
theorem law_loop {p : Program} {l : Launch} {s : State} {m : MethodId} {below : List Frame} {meth : Method} {c : Code} {e : Env} {b L : Nat} {D : va_G} {ci cz cj : ClassId} {q0 q1 : Nat → Nat} {ob : Nat} {xs : Nat → Int32} (lf : LF p m c meth s b L xs D ci cz cj) (la : LA q0 q1 ob s.heap.size) (hl0 : l.stackTraces = false) (hL : L ≤ 3072) : ∀ (n j : Nat), L < 6 * (j + n) + 6 → j ≤ 512 → ∀ (F P : Nat) (g : Nat → Nat → Int32) (H : Heap) (locs : List Loc) (ls : Array Slot) (d0 : Drawn), s.drawn.sameBut d0 lw_cs → LW D ci cz cj q0 q1 ob F P g H → Iw F P g → va_S (big s) s.heap H locs → lv_has ls 9 [(0, .ref b), (1, .ref (q0 0)), (2, .ref (q1 0)), (3, .ref ob), (4, .int (nI (6 * j)))] → W p l e room_1 (s.setDrawn d0) m #[.ref b] below meth c H locs (18 + j) (732 + 6 * j) (lw_Z below #[.ref b] s) (F0 m 23 ls []) := by
  have hx := lf.F.1
  have hb := lf.F.2.1
  intro n
  induction n with
  | zero =>
    intro j hn hj F P g H locs ls d0 hd0 hw hI hS hl
    refine lv_iload hx hb dL_law_23 (lv_at hl 4 rfl) ?_
    refine lv_aload_n hx hb dL_law_25 rfl (lv_at hl 0 rfl) ?_
    refine va_slen hx hb (lf.dr d0).X lf.hb (A := big s) (Nat.not_le.mpr lf.hb) hS dL_law_26 ?_
    refine lv_bipush (v := nI 6) hx hb dL_law_27 (by decide) ?_
    refine lv_isub hx hb dL_law_29 ?_
    have e9 : (Int32.ofNat L - nI 6).toInt = (L : Int) - 6 := pk_sub_toInt (a := L) (b := 6) (by omega) (by decide)
    refine lv_icmp_gt (tgt := 2633) hx hb dL_law_30 (by decide) (fun h => ?_) (fun h => ?_)
    · refine lv_iconst (v := 1) hx hb dL_law_2633 (by decide) ?_
      refine va_forget (fun q hq => hS.2.2 q hq) ?_
      refine W.widen (k := 1063) (n := 9050) (by omega) (by omega) ?_
      exact lw_ret hd0 hx hb lf.hr lf.hlocks dL_law_2634
    · exact absurd (show Int32.ofNat L - nI 6 < nI (6 * j) from by rw [Int32.lt_iff_toInt_lt, e9, nI_toInt (by omega)]; omega) h
  | succ n ih =>
    intro j hn hj F P g H locs ls d0 hd0 hw hI hS hl
    refine lv_iload hx hb dL_law_23 (lv_at hl 4 rfl) ?_
    refine lv_aload_n hx hb dL_law_25 rfl (lv_at hl 0 rfl) ?_
    refine va_slen hx hb (lf.dr d0).X lf.hb (A := big s) (Nat.not_le.mpr lf.hb) hS dL_law_26 ?_
    refine lv_bipush (v := nI 6) hx hb dL_law_27 (by decide) ?_
    refine lv_isub hx hb dL_law_29 ?_
    have e9 : (Int32.ofNat L - nI 6).toInt = (L : Int) - 6 := pk_sub_toInt (a := L) (b := 6) (by omega) (by decide)
    refine lv_icmp_gt (tgt := 2633) hx hb dL_law_30 (by decide) (fun h => ?_) (fun h => ?_)
    · refine lv_iconst (v := 1) hx hb dL_law_2633 (by decide) ?_
      refine va_forget (fun q hq => hS.2.2 q hq) ?_
      refine W.widen (k := 1063) (n := 9050) (by omega) (by omega) ?_
      exact lw_ret hd0 hx hb lf.hr lf.hlocks dL_law_2634
    · have hi : 6 * j + 6 ≤ L := by
        rw [Int32.lt_iff_toInt_lt, e9, nI_toInt (by omega)] at h
        omega
      refine law_case lf la hl0 hL hi hd0 hw hI hS hl (fun F P g H locs ls d0 hd0 hw hI hS hl => ?_)
      refine lv_iinc (v := nI (6 * (j + 1))) (lv' := [(4, .int (nI (6 * (j + 1)))), (0, .ref b), (1, .ref (q0 0)), (2, .ref (q1 0)), (3, .ref ob)]) hx hb dL_law_2627 hl (k := 4) rfl ((nI_inc (6 * j) 6 rfl).trans (congrArg nI (by omega))) (by decide) rfl (fun ls hl => ?_)
      refine lv_goto (tgt := 23) hx hb dL_law_2630 (by decide) ?_
      have e1 : 18 + j + 1 = 18 + (j + 1) := by omega
      have e2 : 732 + 6 * j + 6 = 732 + 6 * (j + 1) := by omega
      rw [e1, e2]
      exact ih (j + 1) (by omega) (by omega) F P g H locs ls d0 hd0 hw hI hS (lv_sub hl [1, 2, 3, 4, 0] rfl)
end LOOP
