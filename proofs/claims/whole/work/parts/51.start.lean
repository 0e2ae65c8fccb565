/-! PART 51: the law, from its entry. -/
section ENTRY
theorem dsb {s : State} {q : Nat → Nat} {N : Nat} {ws : va_W} (hD : va_D (aw q N) ws) (h : ∀ k, k < N → s.heap.size ≤ q k) : va_D (big s) ws := ⟨hD.1, fun k r hk => by
  obtain ⟨i, hi, e⟩ := hD.2 k r hk
  show s.heap.size ≤ r.1
  rw [e]
  exact h i hi⟩
theorem la_of {q0 q1 : Nat → Nat} {ob sz h2 : Nat} (hq0 : DQ q0 8) (hq1 : DQ q1 9) (b0 : ∀ k, k < 8 → sz ≤ q0 k) (b1 : ∀ k, k < 9 → sz ≤ q1 k) (bo : sz ≤ ob) (l0 : ∀ k, k < 8 → q0 k < h2) (l1 : ∀ k, k < 9 → q1 k < ob) (l2 : h2 ≤ ob) (hn : ∀ k, k < 8 → q0 k ≠ q1 0) (hf : ∀ k, 1 ≤ k → k < 9 → h2 ≤ q1 k) : LA q0 q1 ob sz := by
  refine ⟨fun i j hi hj e => ?_, hq1, fun i j hi hj e => ?_, fun i hi => ?_, b1⟩
  · by_cases h1 : i < 8
    · rw [qo_l h1] at e
      by_cases h3 : j < 8
      · rw [qo_l h3] at e
        exact hq0 i j h1 h3 e
      · obtain rfl : j = 8 := by omega
        rw [qo_8] at e
        have := l0 i h1
        omega
    · obtain rfl : i = 8 := by omega
      rw [qo_8] at e
      by_cases h3 : j < 8
      · rw [qo_l h3] at e
        have := l0 j h3
        omega
      · omega
  · by_cases h1 : i < 8
    · rw [qo_l h1] at e
      by_cases h3 : j = 0
      · subst h3
        exact hn i h1 e
      · have h4 := l0 i h1
        have h5 := hf j (by omega) hj
        omega
    · obtain rfl : i = 8 := by omega
      rw [qo_8] at e
      have := l1 j hj
      omega
  · by_cases h1 : i < 8
    · rw [qo_l h1]; exact b0 i h1
    · obtain rfl : i = 8 := by omega
      exact bo
set_option maxHeartbeats 8000000 in
/-- from the entry, for every script of at most 3072 ints, the law comes to its end with true -/
theorem whole_start {p : Program} {e : Env} {s : State} {m : MethodId} {below : List Frame} {meth : Method} {c : Code} (l : Launch) (hflags : l.flags = flags0) {b L : Nat} {xs : Nat → Int32} (hL : L ≤ 3072) (C0 : lw_At p s m meth c b L xs) : W p l e room_1 s m #[Value.ref b] below meth c s.heap [] 0 0 (lw_Z below #[Value.ref b] s) (entryFrame m ([Value.ref b] : List Value).toArray 9) := by
  obtain ⟨hx, hb, hr, hml, hown, hts0, hX, hbl, hlocks, hgv⟩ := id C0
  have hts : ∀ w ∈ wsL_law, w.before #[Value.ref b] s = true := fun w h => hts0 w (wsL_law_in w h)
  obtain ⟨hE, hN⟩ := start_ev hts0 hgv
  obtain ⟨D, ci, cz, cj, hK⟩ := start_k hts0
  have hl0 : l.stackTraces = false := by
    unfold Launch.stackTraces
    rw [hflags]
    decide +kernel
  have lf : LF p m c meth s b L xs D ci cz cj := ⟨⟨hx, hb, hml, hown, hts⟩, hr, hlocks, hX, hbl, hE, hN, hK⟩
  have hd0 := Drawn.sameBut.refl s.drawn lw_cs
  refine W.base ?_
  have lfd := lf.dr s.drawn
  have hw := lfd.F.2.2.2.2
  have hS : va_S (big s) s.heap s.heap [] := va_S.rf
  have hA : ∀ q : Nat, s.heap.size ≤ q → big s q := fun _ h => h
  have hl := lv_entry ([.ref b]) (n := 9) (Nat.le_of_ble_eq_true rfl)
  rw [lg_entry_eq]
  generalize (lg_sl ([.ref b]) ++ List.replicate (9 - (lg_sl ([.ref b])).length) Slot.unset).toArray = ls at hl ⊢
  have hl : lv_has ls 9 [(0, .ref b)] := hl
  -- a new FerryRights
  have hP : va_P D vwCl [] s.heap := fun k q h => by simp at h
  have hD : va_D (big s) [] := ⟨fun i j p q h => by simp at h, fun k q h => by simp at h⟩
  refine va_new (ci := 0) (fs := [.int 0, .null, .null, .null, .int 0, .null, .null, .null, .null, .int 0]) (C := RX0) (T := TX0) (N := 10) hx hb hw inlX0 tyX0 tyX0_ok hown (hw (.classLink RL 8 RX0) (by decide +kernel)) (hw (.instantiable RX0 10) (by decide +kernel)) (hw (.initialized RX0) (by decide +kernel)) lfd.K hP hD hS hA rfl (fun j hj => by rcases (show j = 0 ∨ j = 1 ∨ j = 2 ∨ j = 3 ∨ j = 4 ∨ j = 5 ∨ j = 6 ∨ j = 7 ∨ j = 8 ∨ j = 9 by omega) with rfl | rfl | rfl | rfl | rfl | rfl | rfl | rfl | rfl | rfl <;> rfl) (Nat.le_of_ble_eq_true rfl) (Nat.le_of_ble_eq_true rfl) dL_law_0 (fun a0 H hP hD hS => ?_)
  have hP : va_P D vwCl [(a0, .inr (0, [.int 0, .null, .null, .null, .int 0, .null, .null, .null, .null, .int 0]))] H := hP
  have ha0 : s.heap.size ≤ a0 := hD.2 0 _ rfl
  have hz0 : s.heap.size ≤ H.size := hS.1
  have hF0 : ∀ q : Nat, (q = a0 ∨ H.size ≤ q) → big s q := by
    rintro q (rfl | h)
    · exact ha0
    · exact Nat.le_trans hz0 h
  refine lv_dup hx hb dL_law_3 rfl ?_
  refine va_callv (va_runI (As := []) (rest := [.ref a0]) lfd.F (m_X0_init l (D := D) (ci := ci) (cz := cz) (cj := cj) a0 H.size) (cwI 0 hw gL_law_X0_init rfl rfl rfl (hw (.initialized RX0) (by decide +kernel)) (hw (.methodLink RL 125 yX0_init) (by decide +kernel)) (hw (.instanceMethod yX0_init) (by decide +kernel)) rfl (by decide +kernel) ⟨Nat.le_of_ble_eq_true rfl, Nat.le_of_ble_eq_true rfl⟩) ⟨fun a U g mk q => ⟨q.1, q.2.1, q.2.2.1, va_K.moved (u := U) (U := U.calling g mk a) (Vm.Alike.refl U.vm) q.2.2.2⟩, fun U hU hW => ⟨rfl, by rw [hU], by rw [hU]; exact hP, va_K.moved hW.alike lfd.K⟩⟩ rfl rfl hl.1 rfl (lv_room (Nat.le_of_ble_eq_true rfl)) dL_law_4 ⟨Nat.le_of_ble_eq_true rfl, Nat.le_of_ble_eq_true rfl⟩) hS (fun q _ h => hF0 q h) hF0 (fun q0 t H1 locs1 ht hvm hq hB hz1 hk1 hS => ?_)
  obtain ⟨e0, hq0, hn0⟩ := hq
  have hB : va_P D vwCl (w0 ci cz q0 0 0 (fun _ _ => 0)) H1 := by rw [← ht]; exact hB
  have hb0 : ∀ k, k < 8 → s.heap.size ≤ q0 k := fun k hk => by
    by_cases h : k = 0
    · rw [h, e0]; exact ha0
    · exact Nat.le_trans hz0 (hn0 k (by omega) hk)
  refine lv_astore_n (lv' := [(1, .ref a0), (0, .ref b)]) hx hb dL_law_7 rfl hl (by decide) rfl (fun ls hl => ?_)
  -- a new FerryRightsModel
  refine va_new (ci := 1) (fs := [.int 0, .int 0, .null, .null, .null, .int 0, .null, .null, .null, .null, .int 0, .null, .int 0]) (C := RX1) (T := TX1) (N := 13) hx hb hw inlX1 tyX1 tyX1_ok hown (hw (.classLink RL 126 RX1) (by decide +kernel)) (hw (.instantiable RX1 13) (by decide +kernel)) (hw (.initialized RX1) (by decide +kernel)) lfd.K hB (dsb (d0 hq0) hb0) hS hA rfl (fun j hj => by rcases (show j = 0 ∨ j = 1 ∨ j = 2 ∨ j = 3 ∨ j = 4 ∨ j = 5 ∨ j = 6 ∨ j = 7 ∨ j = 8 ∨ j = 9 ∨ j = 10 ∨ j = 11 ∨ j = 12 by omega) with rfl | rfl | rfl | rfl | rfl | rfl | rfl | rfl | rfl | rfl | rfl | rfl | rfl <;> rfl) (Nat.le_of_ble_eq_true rfl) (Nat.le_of_ble_eq_true rfl) dL_law_8 (fun a1 H2 hP2 hD2 hS => ?_)
  have hB : va_P D vwCl (w0 ci cz q0 0 0 (fun _ _ => 0)) H2 := hP2.sub [0, 1, 2, 3, 4, 5, 6, 7] rfl
  have hP : va_P D vwCl [(a1, .inr (1, [.int 0, .int 0, .null, .null, .null, .int 0, .null, .null, .null, .null, .int 0, .null, .int 0]))] H2 := hP2.sub [8] rfl
  have ha1 : s.heap.size ≤ a1 := hD2.2 8 _ rfl
  have hne : ∀ k, k < 8 → q0 k ≠ a1 := fun k hk e9 => by
    obtain ⟨e, he⟩ := w0r_at (ci := ci) (cz := cz) (q := q0) (F := 0) (P := 0) (al := alv 0 (fun _ => 0)) (g := fun _ _ => 0) hk
    have h9 := hD2.1 k 8 (q0 k, e) _ (by rw [List.getElem?_append_left (show k < 8 from hk)]; exact he) rfl e9
    omega
  have hlt0 : ∀ k, k < 8 → q0 k < H2.size := fun k hk => by
    obtain ⟨e, he⟩ := w0r_at (ci := ci) (cz := cz) (q := q0) (F := 0) (P := 0) (al := alv 0 (fun _ => 0)) (g := fun _ _ => 0) hk
    exact (hB k (q0 k, e) he).lt
  have hz2 : s.heap.size ≤ H2.size := hS.1
  have hF1 : ∀ q : Nat, (q = a1 ∨ H2.size ≤ q) → big s q := by
    rintro q (rfl | h)
    · exact ha1
    · exact Nat.le_trans hz2 h
  refine lv_dup hx hb dL_law_11 rfl ?_
  refine va_callv (va_runI (As := []) (rest := [.ref a1]) lfd.F (m_X1_init l (D := D) (ci := ci) (cz := cz) (cj := cj) a1 H2.size) (cwI 0 hw gL_law_X1_init rfl rfl rfl (hw (.initialized RX1) (by decide +kernel)) (hw (.methodLink RL 128 yX1_init) (by decide +kernel)) (hw (.instanceMethod yX1_init) (by decide +kernel)) rfl (by decide +kernel) ⟨Nat.le_of_ble_eq_true rfl, Nat.le_of_ble_eq_true rfl⟩) ⟨fun a U g mk q => ⟨q.1, q.2.1, q.2.2.1, va_K.moved (u := U) (U := U.calling g mk a) (Vm.Alike.refl U.vm) q.2.2.2⟩, fun U hU hW => ⟨rfl, by rw [hU], by rw [hU]; exact hP, va_K.moved hW.alike lfd.K⟩⟩ rfl rfl hl.1 rfl (lv_room (Nat.le_of_ble_eq_true rfl)) dL_law_12 ⟨Nat.le_of_ble_eq_true rfl, Nat.le_of_ble_eq_true rfl⟩) hS (fun q _ h => hF1 q h) hF1 (fun q1 t H3 locs3 ht hvm hq hM hz3 hk3 hS => ?_)
  obtain ⟨e1, hq1, hn1⟩ := hq
  have hM : va_P D vwCl (w1 ci cz q1 0 0 0 (fun _ _ => 0) (fun _ => 0) 0) H3 := by rw [← ht]; exact hM
  have hB : va_P D vwCl (w0 ci cz q0 0 0 (fun _ _ => 0)) H3 := P_stay hB hk3 (fun k r h => by
    obtain ⟨h1, h2⟩ := w0r_fst h
    rintro (h3 | h3)
    · exact hne k h1 (h2.symm.trans h3)
    · have := hlt0 k h1
      rw [h2] at h3
      omega)
  refine lv_astore_n (lv' := [(2, .ref a1), (1, .ref a0), (0, .ref b)]) hx hb dL_law_15 rfl hl (by decide) rfl (fun ls hl => ?_)
  refine lv_iconst (v := 1) hx hb dL_law_16 (by decide) ?_
  refine va_newaK (atype := .long) (h := H3.size) (n := 1) (rest := []) (g := F0 m 17 ls [.int 1]) (N := 1) hx hb (hw (.arrayClass .long) (by decide +kernel)) rfl dL_law_17 rfl (by decide) (by decide) (by decide) (Nat.le_of_ble_eq_true rfl) (Nat.le_of_ble_eq_true rfl) rfl (fun H4 cA h4 hz4 hk4 hof hfc => ?_)
  refine W.eq (g2 := F0 m 19 ls [.ref H3.size]) rfl ?_
  have hcj : cj = cA := Option.some.inj ((lfd.K.2 2 (cj, .long) rfl).2.symm.trans hfc)
  subst hcj
  have hO : va_P D vwCl (wo cj H3.size (fun _ => 0)) H4 := fun k r h => by
    have hk : k < 1 := (List.getElem?_eq_some_iff.mp h).1
    obtain rfl : k = 0 := by omega
    cases Option.some.inj h
    exact h4
  have hS4 : va_S (big s) s.heap H4 locs3 := ⟨by rw [hz4]; exact Nat.le_trans hS.1 (Nat.le_succ _), fun q h1 h2 => by rw [hk4 q (Nat.lt_of_lt_of_le h1 hS.1)]; exact hS.2.1 q h1 h2, hS.2.2⟩
  have hlt1 : ∀ k, k < 9 → q1 k < H3.size := fun k hk => by
    obtain ⟨e, he⟩ := w1_at (ci := ci) (cz := cz) (q := q1) (th := 0) (F := 0) (P := 0) (g := fun _ _ => 0) (he := fun _ => 0) (hn := 0) hk
    exact (hM k (q1 k, e) he).lt
  have hM : va_P D vwCl (w1 ci cz q1 0 0 0 (fun _ _ => 0) (fun _ => 0) 0) H4 := hM.kept (fun k r h => hk4 _ (hM k r h).lt)
  have hB : va_P D vwCl (w0 ci cz q0 0 0 (fun _ _ => 0)) H4 := hB.kept (fun k r h => hk4 _ (hB k r h).lt)
  have la : LA q0 q1 H3.size s.heap.size := la_of (h2 := H2.size) hq0 hq1 hb0 (fun k hk => by
    by_cases h : k = 0
    · rw [h, e1]; exact ha1
    · exact Nat.le_trans hz2 (hn1 k (by omega) hk)) hS.1 hlt0 hlt1 hz3 (fun k hk => by rw [e1]; exact hne k hk) hn1
  refine lv_astore_n (lv' := [(3, .ref H3.size), (2, .ref a1), (1, .ref a0), (0, .ref b)]) hx hb dL_law_19 rfl hl (by decide) rfl (fun ls hl => ?_)
  refine lv_iconst (v := nI 0) hx hb dL_law_20 (by decide) ?_
  refine lv_istore (lv' := [(4, .int (nI 0)), (3, .ref H3.size), (2, .ref a1), (1, .ref a0), (0, .ref b)]) hx hb dL_law_21 hl (by decide) rfl (fun ls hl => ?_)
  have hl : lv_has ls 9 [(0, .ref b), (1, .ref (q0 0)), (2, .ref (q1 0)), (3, .ref H3.size), (4, .int (nI (6 * 0)))] := by
    rw [e0, e1]
    exact lv_sub hl [4, 3, 2, 1, 0] rfl
  exact law_loop lf la hl0 hL L 0 (by omega) (by omega) 0 0 (fun _ _ => 0) H4 locs3 ls s.drawn hd0 ⟨hB, ⟨_, _, _, hM⟩, _, hO⟩ iw_0 hS4 hl
end ENTRY
