/-! PART 38: below and cell; the face's changing calls by numbers; rows for conditions. -/
section LAWS
variable {p : Program} {l : Launch} {e : Env} {R : Room} {s : State} {m : MethodId} {args : Array Value} {below : List Frame} {meth : Method} {c : Code} {H : Heap} {locs : List Loc} {cells slots : Nat} {Q : State → Prop}
variable {cc : ByteArray} {nL pc : Nat} {rest : List Value} {ls : Array Slot} {Ts : List Cond} {own : String}
/-- x == 0 ? 1 : 0 -/
theorem r_sel (hexec : p.tables.exec = Jvm.exec) (hb : c.code = cc) {x : Int32} (h1 : decode cc pc = .ok (.ifCond .ne 7, 3)) (h2 : decode cc (pc + 3) = .ok (.iconst 1, 1)) (h3 : decode cc (pc + 3 + 1) = .ok (.goto 4, 3)) (h4 : decode cc (pc + 7) = .ok (.iconst 0, 1))
    (kk : W p l e R s m args below meth c H locs cells slots Q (F0 m (pc + 8) ls (.int (bI (decide (x = 0))) :: rest))) : W p l e R s m args below meth c H locs cells slots Q (F0 m pc ls (.int x :: rest)) := by
  refine lv_if_ne (tgt := pc + 7) hexec hb h1 (by omega) (fun h => ?_) (fun h => ?_)
  · refine lv_iconst (v := nI 0) hexec hb h4 (by decide) ?_
    rw [decide_eq_false h] at kk
    exact kk
  · have h : x = 0 := h
    refine lv_iconst (v := nI 1) hexec hb h2 (by decide) ?_
    refine lv_goto (tgt := pc + 8) hexec hb h3 (by omega) ?_
    rw [decide_eq_true h] at kk
    exact kk
/-- z == 0 ? a : b, two small numbers -/
theorem r_selB (hexec : p.tables.exec = Jvm.exec) (hb : c.code = cc) {z a b : Nat} (hz : z < 2 ^ 31) (ea : (Int8.ofInt (a : Int)).toInt32 = nI a) (eb : (Int8.ofInt (b : Int)).toInt32 = nI b) (h1 : decode cc pc = .ok (.ifCond .ne 8, 3)) (h2 : decode cc (pc + 3) = .ok (.bipush (a : Int), 2)) (h3 : decode cc (pc + 3 + 2) = .ok (.goto 5, 3)) (h4 : decode cc (pc + 8) = .ok (.bipush (b : Int), 2))
    (kk : ∀ M : Nat, M = a ∨ M = b → W p l e R s m args below meth c H locs cells slots Q (F0 m (pc + 10) ls (.int (nI M) :: rest))) : W p l e R s m args below meth c H locs cells slots Q (F0 m pc ls (.int (nI z) :: rest)) := by
  refine n_if_ne (tgt := pc + 8) hexec hb hz h1 (by omega) (fun h => ?_) (fun h => ?_)
  · exact lv_bipush (v := nI b) hexec hb h4 eb (kk b (Or.inr rfl))
  · refine lv_bipush (v := nI a) hexec hb h2 ea ?_
    exact lv_goto (tgt := pc + 10) hexec hb h3 (by omega) (kk a (Or.inl rfl))
theorem r_selS (hexec : p.tables.exec = Jvm.exec) (hb : c.code = cc) {z a b : Nat} (hz : z < 2 ^ 31) (ea : (Int16.ofInt (a : Int)).toInt32 = nI a) (eb : (Int16.ofInt (b : Int)).toInt32 = nI b) (h1 : decode cc pc = .ok (.ifCond .ne 9, 3)) (h2 : decode cc (pc + 3) = .ok (.sipush (a : Int), 3)) (h3 : decode cc (pc + 3 + 3) = .ok (.goto 6, 3)) (h4 : decode cc (pc + 9) = .ok (.sipush (b : Int), 3))
    (kk : ∀ M : Nat, M = a ∨ M = b → W p l e R s m args below meth c H locs cells slots Q (F0 m (pc + 12) ls (.int (nI M) :: rest))) : W p l e R s m args below meth c H locs cells slots Q (F0 m pc ls (.int (nI z) :: rest)) := by
  refine n_if_ne (tgt := pc + 9) hexec hb hz h1 (by omega) (fun h => ?_) (fun h => ?_)
  · exact lv_sipush (v := nI b) hexec hb h4 eb (kk b (Or.inr rfl))
  · refine lv_sipush (v := nI a) hexec hb h2 ea ?_
    exact lv_goto (tgt := pc + 12) hexec hb h3 (by omega) (kk a (Or.inl rfl))
theorem rem_n {n d : Nat} (hn : n < 2 ^ 31) (h0 : 0 < d) (hd : d < 2 ^ 31) : nI n - nI n / nI d * nI d = nI (n % d) := by
  rw [pk_div hn h0 hd, pk_mul, pk_sub (Nat.div_mul_le_self _ _)]
  congr 1
  have := Nat.div_add_mod n d
  rw [Nat.mul_comm] at this
  omega
theorem m_L_below (l : Launch) (v : Int32) (n : Nat) (h0 : 0 < n) (hn : n < 2 ^ 31) : Met l yL_below wsL_below ({ frames := 0, cells := 0, slots := 0, locals := 0 } : Room) (va_Pc [.int v, .int (nI n)] (fun _ => True)) (RQ (some (.int (nI (bw v n))))) 0 0 none_ := by
  refine Met.ofR (cc := cL_below) (maxL := 2) (ret := (some .int)) (by decide) rfl (Nat.le_of_ble_eq_true rfl) ?_
  intro pg en s m bl mt cd ls Fx hr hlocks _ hl
  have hl : lv_has ls 2 [(0, .int v), (1, .int (nI n))] := hl
  have Fx : CallFix pg m cd cL_below 2 s _ wsL_below RL := Fx
  have hx := Fx.1
  have hb := Fx.2.1
  refine lv_iload_n hx hb dL_below_0 rfl (lv_at hl 0 rfl) ?_
  refine lv_ldc hx hb Fx.2.2.2.1 (Fx.2.2.2.2 (.constant RL 7 2147483647) (by decide +kernel)) dL_below_1 ?_
  refine lv_iand hx hb dL_below_3 ?_
  refine lv_iload_n hx hb dL_below_4 rfl (lv_at hl 1 rfl) ?_
  refine lv_irem hx hb dL_below_5 (nI_ne0 h0 hn) ?_
  rw [bw_irem v h0 hn]
  exact r_iret hx hb hr hlocks rfl dL_below_6
theorem m_L_cell (l : Launch) (b L : Nat) (xs : Nat → Int32) (k : Nat) (hL : L < 1000) (hk : k < 1000) : Met l yL_cell wsL_cell ({ frames := 0, cells := 0, slots := 0, locals := 0 } : Room) (va_Pc [.ref b, .int (nI k)] (fun U => va_X b L xs U U.heap ∧ b < U.heap.size)) (RQ (some (.int (cV xs L k)))) 0 0 none_ := by
  refine Met.ofR (cc := cL_cell) (maxL := 2) (ret := (some .int)) (by decide) rfl (Nat.le_of_ble_eq_true rfl) ?_
  intro pg en s m bl mt cd ls Fx hr hlocks hB hl
  obtain ⟨hX, hbl⟩ := hB
  have hl : lv_has ls 2 [(0, .ref b), (1, .int (nI k))] := hl
  have Fx : CallFix pg m cd cL_cell 2 s _ wsL_cell RL := Fx
  have hx := Fx.1
  have hb := Fx.2.1
  have hS : va_S none_ s.heap s.heap [] := va_S.rf
  refine lv_iload_n hx hb dL_cell_0 rfl (lv_at hl 1 rfl) ?_
  refine lv_aload_n hx hb dL_cell_1 rfl (lv_at hl 0 rfl) ?_
  refine va_slen hx hb hX hbl (fun h => h) hS dL_cell_2 ?_
  refine n_icmp_ge (x := k) (y := L) (tgt := 12) hx hb (by omega) (by omega) dL_cell_3 (by decide) (fun h => ?_) (fun h => ?_)
  · refine lv_ldc hx hb Fx.2.2.2.1 (Fx.2.2.2.2 (.constant RL 8 790386105) (by decide +kernel)) dL_cell_12 ?_
    refine lv_iload_n hx hb dL_cell_14 rfl (lv_at hl 1 rfl) ?_
    refine lv_iconst (v := nI 3) hx hb dL_cell_15 (by decide) ?_
    refine r_iadd_n hx hb dL_cell_16 ?_
    refine lv_imul hx hb dL_cell_17 ?_
    exact r_iret hx hb hr hlocks (by unfold cV; rw [if_neg (by omega)]) dL_cell_18
  · refine lv_aload_n hx hb dL_cell_6 rfl (lv_at hl 0 rfl) ?_
    refine lv_iload_n hx hb dL_cell_7 rfl (lv_at hl 1 rfl) ?_
    refine va_sld hx hb hX hbl (fun h => h) hS (vp_in_nI h (by omega)) dL_cell_8 ?_
    refine lv_goto (tgt := 18) hx hb dL_cell_9 (by decide) ?_
    exact r_iret hx hb hr hlocks (by unfold cV; rw [if_pos h, nI_clamp (by omega)]) dL_cell_18
end LAWS
section LAWT
theorem t_addFerry (l : Launch) (hl0 : l.stackTraces = false) {D : va_G} {ci cz : ClassId} {cj : ClassId × ClassId} {q : Nat → Nat} {F P : Nat} {g : Nat → Nat → Int32} (hq : DQ q 8) (hF : F ≤ 6) (hP12 : P ≤ 12) (a : Int32)   : vx_Met l yX0_addFerry wsX0_addFerry ({ frames := 7, cells := 1, slots := 6, locals := 102 } : Room) (va_Pc [.ref (q 0), .int a] (B0 D ci cz cj q F P g)) (PQ (k_addFerry F a) (some (.int (nI F))) (fun H => va_P D vwCl (w0 ci cz q (F + 1) (P) (gTol g F a)) H) (aw q 8)) (PX (k_addFerry F a) [xIA, xIS]) 1 6 (aw q 8) := by
  have h := m_X0_addFerry l hl0 (D := D) (ci := ci) (cz := cz) (cj := cj) (q := q) (F := F) (P := P) (g := g) hq hF hP12 a 
  exact h
theorem t_addPerson (l : Launch) (hl0 : l.stackTraces = false) {D : va_G} {ci cz : ClassId} {cj : ClassId × ClassId} {q : Nat → Nat} {F P : Nat} {g : Nat → Nat → Int32} (hq : DQ q 8) (hF : F ≤ 6) (hP12 : P ≤ 12)   (h3 : ∀ z, P ≤ z → g 3 z = 0) : vx_Met l yX0_addPerson wsX0_addPerson ({ frames := 7, cells := 1, slots := 6, locals := 102 } : Room) (va_Pc [.ref (q 0)] (B0 D ci cz cj q F P g)) (PQ (k_addPerson P) (some (.int (nI P))) (fun H => va_P D vwCl (w0 ci cz q (F) (P + 1) (gPar g P (-1))) H) (aw q 8)) (PX (k_addPerson P) [xIS]) 1 6 (aw q 8) := by
  have h := m_X0_addPerson l hl0 (D := D) (ci := ci) (cz := cz) (cj := cj) (q := q) (F := F) (P := P) (g := g) hq hF hP12  h3
  exact h
theorem t_addChild (l : Launch) (hl0 : l.stackTraces = false) {D : va_G} {ci cz : ClassId} {cj : ClassId × ClassId} {q : Nat → Nat} {F P : Nat} {g : Nat → Nat → Int32} (hq : DQ q 8) (hF : F ≤ 6) (hP12 : P ≤ 12) (k : Nat) (hk9 : k < 2 ^ 31) (h3 : ∀ z, P ≤ z → g 3 z = 0) : vx_Met l yX0_addChild wsX0_addChild ({ frames := 7, cells := 1, slots := 6, locals := 103 } : Room) (va_Pc [.ref (q 0), .int (nI k)] (B0 D ci cz cj q F P g)) (PQ (k_addChild P g (nI k)) (some (.int (nI P))) (fun H => va_P D vwCl (w0 ci cz q (F) (P + 1) (gPar g P (nI k))) H) (aw q 8)) (PX (k_addChild P g (nI k)) [xIO, xIS]) 1 6 (aw q 8) := by
  have h := m_X0_addChild l hl0 (D := D) (ci := ci) (cz := cz) (cj := cj) (q := q) (F := F) (P := P) (g := g) hq hF hP12 (nI k) h3
  try simp only [ix_nI hk9] at h
  exact h
theorem t_pay (l : Launch) (hl0 : l.stackTraces = false) {D : va_G} {ci cz : ClassId} {cj : ClassId × ClassId} {q : Nat → Nat} {F P : Nat} {g : Nat → Nat → Int32} (hq : DQ q 8) (hF : F ≤ 6) (hP12 : P ≤ 12) (k : Nat) (x : Int32) (hk9 : k < 2 ^ 31)  : vx_Met l yX0_pay wsX0_pay ({ frames := 7, cells := 1, slots := 6, locals := 103 } : Room) (va_Pc [.ref (q 0), .int (nI k), .int x] (B0 D ci cz cj q F P g)) (PQ (k_pay P g (nI k) x) (some (.int (mn (g 4 k + x)))) (fun H => va_P D vwCl (w0 ci cz q (F) (P) (gGet g k x)) H) (aw q 8)) (PX (k_pay P g (nI k) x) [xIO, xIA, xIS]) 1 6 (aw q 8) := by
  have h := m_X0_pay l hl0 (D := D) (ci := ci) (cz := cz) (cj := cj) (q := q) (F := F) (P := P) (g := g) hq hF hP12 (nI k) x 
  try simp only [ix_nI hk9] at h
  exact h
theorem t_grant (l : Launch) (hl0 : l.stackTraces = false) {D : va_G} {ci cz : ClassId} {cj : ClassId × ClassId} {q : Nat → Nat} {F P : Nat} {g : Nat → Nat → Int32} (hq : DQ q 8) (hF : F ≤ 6) (hP12 : P ≤ 12) (f : Nat) (w : Nat) (k : Nat) (x : Int32) (hf9 : f < 2 ^ 31) (hw9 : w < 2 ^ 31) (hk9 : k < 2 ^ 31)  : vx_Met l yX0_grant wsX0_grant ({ frames := 7, cells := 1, slots := 6, locals := 103 } : Room) (va_Pc [.ref (q 0), .int (nI f), .int (nI w), .int (nI k), .int x] (B0 D ci cz cj q F P g)) (PQ (k_grant F P g (nI f) (nI w) (nI k) x) (some (.int (sCro (gAdd g f w k x) P f w))) (fun H => va_P D vwCl (w0 ci cz q (F) (P) (gAdd g f w k x)) H) (aw q 8)) (PX (k_grant F P g (nI f) (nI w) (nI k) x) [xIO, xIA, xIS]) 1 6 (aw q 8) := by
  have h := m_X0_grant l hl0 (D := D) (ci := ci) (cz := cz) (cj := cj) (q := q) (F := F) (P := P) (g := g) hq hF hP12 (nI f) (nI w) (nI k) x 
  try simp only [ix_nI hf9, ix_nI hw9, ix_nI hk9] at h
  exact h
theorem t_give (l : Launch) (hl0 : l.stackTraces = false) {D : va_G} {ci cz : ClassId} {cj : ClassId × ClassId} {q : Nat → Nat} {F P : Nat} {g : Nat → Nat → Int32} (hq : DQ q 8) (hF : F ≤ 6) (hP12 : P ≤ 12) (k : Nat) (o : Nat) (f : Nat) (w : Nat) (x : Int32) (hk9 : k < 2 ^ 31) (ho9 : o < 2 ^ 31) (hf9 : f < 2 ^ 31) (hw9 : w < 2 ^ 31)  : vx_Met l yX0_give wsX0_give ({ frames := 7, cells := 1, slots := 6, locals := 103 } : Room) (va_Pc [.ref (q 0), .int (nI k), .int (nI o), .int (nI f), .int (nI w), .int x] (B0 D ci cz cj q F P g)) (PQ (k_give F P g (nI k) (nI o) (nI f) (nI w) x) (some (.int (own (gGiv g k o f w x) f w o))) (fun H => va_P D vwCl (w0 ci cz q (F) (P) (gGiv g k o f w x)) H) (aw q 8)) (PX (k_give F P g (nI k) (nI o) (nI f) (nI w) x) [xIO, xIA, xIS]) 1 6 (aw q 8) := by
  have h := m_X0_give l hl0 (D := D) (ci := ci) (cz := cz) (cj := cj) (q := q) (F := F) (P := P) (g := g) hq hF hP12 (nI k) (nI o) (nI f) (nI w) x 
  try simp only [ix_nI hk9, ix_nI ho9, ix_nI hf9, ix_nI hw9] at h
  exact h
theorem t_buy (l : Launch) (hl0 : l.stackTraces = false) {D : va_G} {ci cz : ClassId} {cj : ClassId × ClassId} {q : Nat → Nat} {F P : Nat} {g : Nat → Nat → Int32} (hq : DQ q 8) (hF : F ≤ 6) (hP12 : P ≤ 12) (k : Nat) (o : Nat) (f : Nat) (w : Nat) (hk9 : k < 2 ^ 31) (ho9 : o < 2 ^ 31) (hf9 : f < 2 ^ 31) (hw9 : w < 2 ^ 31)  : vx_Met l yX0_buy wsX0_buy ({ frames := 8, cells := 1, slots := 6, locals := 127 } : Room) (va_Pc [.ref (q 0), .int (nI k), .int (nI o), .int (nI f), .int (nI w)] (B0 D ci cz cj q F P g)) (PQ (k_buy F P g (nI k) (nI o) (nI f) (nI w)) (some (.int (sPri g f w o))) (fun H => va_P D vwCl (w0 ci cz q (F) (P) (gBuy g k o f w)) H) (aw q 8)) (PX (k_buy F P g (nI k) (nI o) (nI f) (nI w)) [xIO, xIS]) 1 6 (aw q 8) := by
  have h := m_X0_buy l hl0 (D := D) (ci := ci) (cz := cz) (cj := cj) (q := q) (F := F) (P := P) (g := g) hq hF hP12 (nI k) (nI o) (nI f) (nI w) 
  try simp only [ix_nI hk9, ix_nI ho9, ix_nI hf9, ix_nI hw9] at h
  exact h
theorem t_setToll (l : Launch) (hl0 : l.stackTraces = false) {D : va_G} {ci cz : ClassId} {cj : ClassId × ClassId} {q : Nat → Nat} {F P : Nat} {g : Nat → Nat → Int32} (hq : DQ q 8) (hF : F ≤ 6) (hP12 : P ≤ 12) (f : Nat) (a : Int32) (x : Int32) (hf9 : f < 2 ^ 31)  : vx_Met l yX0_setToll wsX0_setToll ({ frames := 7, cells := 1, slots := 6, locals := 103 } : Room) (va_Pc [.ref (q 0), .int (nI f), .int a, .int x] (B0 D ci cz cj q F P g)) (PQ (k_setToll F P g (nI f) a x) (some (.int (g 0 f))) (fun H => va_P D vwCl (w0 ci cz q (F) (P) (gTol g f x)) H) (aw q 8)) (PX (k_setToll F P g (nI f) a x) [xIO, xIA, xIS]) 1 6 (aw q 8) := by
  have h := m_X0_setToll l hl0 (D := D) (ci := ci) (cz := cz) (cj := cj) (q := q) (F := F) (P := P) (g := g) hq hF hP12 (nI f) a x 
  try simp only [ix_nI hf9] at h
  exact h
theorem t_carry (l : Launch) (hl0 : l.stackTraces = false) {D : va_G} {ci cz : ClassId} {cj : ClassId × ClassId} {q : Nat → Nat} {F P : Nat} {g : Nat → Nat → Int32} (hq : DQ q 8) (hF : F ≤ 6) (hP12 : P ≤ 12) (f : Nat) (h : Nat) (x : Int32) (hf9 : f < 2 ^ 31) (hh9 : h < 2 ^ 31)  : vx_Met l yX0_carry wsX0_carry ({ frames := 7, cells := 1, slots := 6, locals := 103 } : Room) (va_Pc [.ref (q 0), .int (nI f), .int (nI h), .int x] (B0 D ci cz cj q F P g)) (PQ (k_carry F (nI f) (nI h) x) (some (.int (lCar g f (h / 6) x P))) (fun H => va_P D vwCl (w0 ci cz q (F) (P) (gCry g P f (h / 6) x)) H) (aw q 8)) (PX (k_carry F (nI f) (nI h) x) [xIO, xIA]) 1 6 (aw q 8) := by
  have h := m_X0_carry l hl0 (D := D) (ci := ci) (cz := cz) (cj := cj) (q := q) (F := F) (P := P) (g := g) hq hF hP12 (nI f) (nI h) x 
  try simp only [ix_nI hf9, ix_nI hh9] at h
  exact h
theorem t_die (l : Launch) (hl0 : l.stackTraces = false) {D : va_G} {ci cz : ClassId} {cj : ClassId × ClassId} {q : Nat → Nat} {F P : Nat} {g : Nat → Nat → Int32} (hq : DQ q 8) (hF : F ≤ 6) (hP12 : P ≤ 12) (k : Nat) (hk9 : k < 2 ^ 31)  : vx_Met l yX0_die wsX0_die ({ frames := 7, cells := 1, slots := 6, locals := 103 } : Room) (va_Pc [.ref (q 0), .int (nI k)] (B0 D ci cz cj q F P g)) (PQ (k_die P g (nI k)) (some (.int (nI (sCHe g P k)))) (fun H => va_P D vwCl (w0 ci cz q (F) (P) (gDie g F P k)) H) (aw q 8)) (PX (k_die P g (nI k)) [xIO, xIS]) 1 6 (aw q 8) := by
  have h := m_X0_die l hl0 (D := D) (ci := ci) (cz := cz) (cj := cj) (q := q) (F := F) (P := P) (g := g) hq hF hP12 (nI k) 
  try simp only [ix_nI hk9] at h
  exact h
end LAWT
