/-! PART 07: rows over numbers, loops, ends. -/
section ROWS2
variable {p : Program} {l : Launch} {e : Env} {R : Room} {s : State} {m : MethodId} {args : Array Value} {below : List Frame} {meth : Method} {c : Code} {H : Heap} {locs : List Loc} {cells slots : Nat} {Q : State → Prop}
variable {cc : ByteArray} {nL pc : Nat} {rest : List Value} {ls : Array Slot} {Ts : List Cond} {own : String}
theorem nI_inc (i k : Nat) (h : Int32.ofInt (k : Int) = nI k := by rfl) : nI i + Int32.ofInt (k : Int) = nI (i + k) := by rw [h]; exact nI_add i k
theorem r_iadd_n (hexec : p.tables.exec = Jvm.exec) (hb : c.code = cc) {x y : Nat} (hdg : decode cc pc = .ok (.iadd, 1)) (k : W p l e R s m args below meth c H locs cells slots Q (F0 m (pc + 1) ls (.int (nI (x + y)) :: rest))) : W p l e R s m args below meth c H locs cells slots Q (F0 m pc ls (.int (nI y) :: .int (nI x) :: rest)) := by
  refine lv_iadd hexec hb hdg ?_
  rw [nI_add]
  exact k
theorem r_imul_n (hexec : p.tables.exec = Jvm.exec) (hb : c.code = cc) {x y : Nat} (hdg : decode cc pc = .ok (.imul, 1)) (k : W p l e R s m args below meth c H locs cells slots Q (F0 m (pc + 1) ls (.int (nI (x * y)) :: rest))) : W p l e R s m args below meth c H locs cells slots Q (F0 m pc ls (.int (nI y) :: .int (nI x) :: rest)) := by
  refine lv_imul hexec hb hdg ?_
  rw [pk_mul]
  exact k
theorem r_isub_n (hexec : p.tables.exec = Jvm.exec) (hb : c.code = cc) {x y : Nat} (h : y ≤ x) (hdg : decode cc pc = .ok (.isub, 1)) (k : W p l e R s m args below meth c H locs cells slots Q (F0 m (pc + 1) ls (.int (nI (x - y)) :: rest))) : W p l e R s m args below meth c H locs cells slots Q (F0 m pc ls (.int (nI y) :: .int (nI x) :: rest)) := by
  refine lv_isub hexec hb hdg ?_
  rw [pk_sub h]
  exact k
theorem r_idiv_n (hexec : p.tables.exec = Jvm.exec) (hb : c.code = cc) {x y : Nat} (hx : x < 2 ^ 31) (h0 : 0 < y) (hy : y < 2 ^ 31) (hdg : decode cc pc = .ok (.idiv, 1)) (k : W p l e R s m args below meth c H locs cells slots Q (F0 m (pc + 1) ls (.int (nI (x / y)) :: rest))) : W p l e R s m args below meth c H locs cells slots Q (F0 m pc ls (.int (nI y) :: .int (nI x) :: rest)) := by
  refine lv_idiv hexec hb hdg (nI_ne0 h0 hy) ?_
  rw [pk_div hx h0 hy]
  exact k
theorem n_icmp_ge (hexec : p.tables.exec = Jvm.exec) (hb : c.code = cc) {x y : Nat} {off : Int} {tgt : Nat} (hx : x < 2 ^ 31) (hy : y < 2 ^ 31) (hdg : decode cc pc = .ok (.if_icmp .ge off, 3)) (ht : (pc : Int) + off = (tgt : Int)) (kt : y ≤ x → W p l e R s m args below meth c H locs cells slots Q (F0 m tgt ls rest)) (kf : x < y → W p l e R s m args below meth c H locs cells slots Q (F0 m (pc + 3) ls rest)) : W p l e R s m args below meth c H locs cells slots Q (F0 m pc ls (.int (nI y) :: .int (nI x) :: rest)) :=
  lv_icmp_ge hexec hb hdg ht (fun h => kt ((nI_leI hy hx).mp h)) (fun h => kf (Nat.lt_of_not_le fun g => h ((nI_leI hy hx).mpr g)))
theorem n_icmp_lt (hexec : p.tables.exec = Jvm.exec) (hb : c.code = cc) {x y : Nat} {off : Int} {tgt : Nat} (hx : x < 2 ^ 31) (hy : y < 2 ^ 31) (hdg : decode cc pc = .ok (.if_icmp .lt off, 3)) (ht : (pc : Int) + off = (tgt : Int)) (kt : x < y → W p l e R s m args below meth c H locs cells slots Q (F0 m tgt ls rest)) (kf : y ≤ x → W p l e R s m args below meth c H locs cells slots Q (F0 m (pc + 3) ls rest)) : W p l e R s m args below meth c H locs cells slots Q (F0 m pc ls (.int (nI y) :: .int (nI x) :: rest)) :=
  lv_icmp_lt hexec hb hdg ht (fun h => kt ((nI_ltI hx hy).mp h)) (fun h => kf (Nat.le_of_not_lt fun g => h ((nI_ltI hx hy).mpr g)))
theorem n_icmp_gt (hexec : p.tables.exec = Jvm.exec) (hb : c.code = cc) {x y : Nat} {off : Int} {tgt : Nat} (hx : x < 2 ^ 31) (hy : y < 2 ^ 31) (hdg : decode cc pc = .ok (.if_icmp .gt off, 3)) (ht : (pc : Int) + off = (tgt : Int)) (kt : y < x → W p l e R s m args below meth c H locs cells slots Q (F0 m tgt ls rest)) (kf : x ≤ y → W p l e R s m args below meth c H locs cells slots Q (F0 m (pc + 3) ls rest)) : W p l e R s m args below meth c H locs cells slots Q (F0 m pc ls (.int (nI y) :: .int (nI x) :: rest)) :=
  lv_icmp_gt hexec hb hdg ht (fun h => kt ((nI_ltI hy hx).mp h)) (fun h => kf (Nat.le_of_not_lt fun g => h ((nI_ltI hy hx).mpr g)))
theorem n_icmp_le (hexec : p.tables.exec = Jvm.exec) (hb : c.code = cc) {x y : Nat} {off : Int} {tgt : Nat} (hx : x < 2 ^ 31) (hy : y < 2 ^ 31) (hdg : decode cc pc = .ok (.if_icmp .le off, 3)) (ht : (pc : Int) + off = (tgt : Int)) (kt : x ≤ y → W p l e R s m args below meth c H locs cells slots Q (F0 m tgt ls rest)) (kf : y < x → W p l e R s m args below meth c H locs cells slots Q (F0 m (pc + 3) ls rest)) : W p l e R s m args below meth c H locs cells slots Q (F0 m pc ls (.int (nI y) :: .int (nI x) :: rest)) :=
  lv_icmp_le hexec hb hdg ht (fun h => kt ((nI_leI hx hy).mp h)) (fun h => kf (Nat.lt_of_not_le fun g => h ((nI_leI hx hy).mpr g)))
theorem n_icmp_eq (hexec : p.tables.exec = Jvm.exec) (hb : c.code = cc) {x y : Nat} {off : Int} {tgt : Nat} (hx : x < 2 ^ 31) (hy : y < 2 ^ 31) (hdg : decode cc pc = .ok (.if_icmp .eq off, 3)) (ht : (pc : Int) + off = (tgt : Int)) (kt : x = y → W p l e R s m args below meth c H locs cells slots Q (F0 m tgt ls rest)) (kf : x ≠ y → W p l e R s m args below meth c H locs cells slots Q (F0 m (pc + 3) ls rest)) : W p l e R s m args below meth c H locs cells slots Q (F0 m pc ls (.int (nI y) :: .int (nI x) :: rest)) :=
  lv_icmp_eq hexec hb hdg ht (fun h => kt ((nI_eq hx hy).mp h)) (fun h => kf fun g => h ((nI_eq hx hy).mpr g))
theorem n_icmp_ne (hexec : p.tables.exec = Jvm.exec) (hb : c.code = cc) {x y : Nat} {off : Int} {tgt : Nat} (hx : x < 2 ^ 31) (hy : y < 2 ^ 31) (hdg : decode cc pc = .ok (.if_icmp .ne off, 3)) (ht : (pc : Int) + off = (tgt : Int)) (kt : x ≠ y → W p l e R s m args below meth c H locs cells slots Q (F0 m tgt ls rest)) (kf : x = y → W p l e R s m args below meth c H locs cells slots Q (F0 m (pc + 3) ls rest)) : W p l e R s m args below meth c H locs cells slots Q (F0 m pc ls (.int (nI y) :: .int (nI x) :: rest)) :=
  lv_icmp_ne hexec hb hdg ht (fun h => kt fun g => h ((nI_eq hx hy).mpr g)) (fun h => kf ((nI_eq hx hy).mp h))
theorem n_if_ne (hexec : p.tables.exec = Jvm.exec) (hb : c.code = cc) {x : Nat} {off : Int} {tgt : Nat} (hx : x < 2 ^ 31) (hdg : decode cc pc = .ok (.ifCond .ne off, 3)) (ht : (pc : Int) + off = (tgt : Int)) (kt : x ≠ 0 → W p l e R s m args below meth c H locs cells slots Q (F0 m tgt ls rest)) (kf : x = 0 → W p l e R s m args below meth c H locs cells slots Q (F0 m (pc + 3) ls rest)) : W p l e R s m args below meth c H locs cells slots Q (F0 m pc ls (.int (nI x) :: rest)) :=
  lv_if_ne hexec hb hdg ht (fun h => kt fun g => h (by rw [g]; rfl)) (fun h => kf ((nI_eq hx (by decide)).mp (h.trans nI_0.symm)))
theorem n_if_eq (hexec : p.tables.exec = Jvm.exec) (hb : c.code = cc) {x : Nat} {off : Int} {tgt : Nat} (hx : x < 2 ^ 31) (hdg : decode cc pc = .ok (.ifCond .eq off, 3)) (ht : (pc : Int) + off = (tgt : Int)) (kt : x = 0 → W p l e R s m args below meth c H locs cells slots Q (F0 m tgt ls rest)) (kf : x ≠ 0 → W p l e R s m args below meth c H locs cells slots Q (F0 m (pc + 3) ls rest)) : W p l e R s m args below meth c H locs cells slots Q (F0 m pc ls (.int (nI x) :: rest)) :=
  lv_if_eq hexec hb hdg ht (fun h => kt ((nI_eq hx (by decide)).mp (h.trans nI_0.symm))) (fun h => kf fun g => h (by rw [g]; rfl))
theorem n_if_le (hexec : p.tables.exec = Jvm.exec) (hb : c.code = cc) {x : Nat} {off : Int} {tgt : Nat} (hx : x < 2 ^ 31) (hdg : decode cc pc = .ok (.ifCond .le off, 3)) (ht : (pc : Int) + off = (tgt : Int)) (kt : x = 0 → W p l e R s m args below meth c H locs cells slots Q (F0 m tgt ls rest)) (kf : x ≠ 0 → W p l e R s m args below meth c H locs cells slots Q (F0 m (pc + 3) ls rest)) : W p l e R s m args below meth c H locs cells slots Q (F0 m pc ls (.int (nI x) :: rest)) :=
  lv_if_le hexec hb hdg ht (fun h => kt (by
    rcases Nat.eq_zero_or_pos x with g | g
    · exact g
    · exact absurd h (nI_nle g hx))) (fun h => kf fun g => h (by rw [g]; decide))
theorem bI_0 (b : Bool) : bI b = 0 ↔ b = false := by cases b <;> decide
theorem b_if_eq (hexec : p.tables.exec = Jvm.exec) (hb : c.code = cc) {x : Bool} {off : Int} {tgt : Nat} (hdg : decode cc pc = .ok (.ifCond .eq off, 3)) (ht : (pc : Int) + off = (tgt : Int)) (kt : x = false → W p l e R s m args below meth c H locs cells slots Q (F0 m tgt ls rest)) (kf : x = true → W p l e R s m args below meth c H locs cells slots Q (F0 m (pc + 3) ls rest)) : W p l e R s m args below meth c H locs cells slots Q (F0 m pc ls (.int (bI x) :: rest)) :=
  lv_if_eq hexec hb hdg ht (fun h => kt ((bI_0 x).mp h)) (fun h => kf (by cases x with | true => rfl | false => exact absurd ((bI_0 false).mpr rfl) h))
theorem b_if_ne (hexec : p.tables.exec = Jvm.exec) (hb : c.code = cc) {x : Bool} {off : Int} {tgt : Nat} (hdg : decode cc pc = .ok (.ifCond .ne off, 3)) (ht : (pc : Int) + off = (tgt : Int)) (kt : x = true → W p l e R s m args below meth c H locs cells slots Q (F0 m tgt ls rest)) (kf : x = false → W p l e R s m args below meth c H locs cells slots Q (F0 m (pc + 3) ls rest)) : W p l e R s m args below meth c H locs cells slots Q (F0 m pc ls (.int (bI x) :: rest)) :=
  lv_if_ne hexec hb hdg ht (fun h => kt (by cases x with | true => rfl | false => exact absurd ((bI_0 false).mpr rfl) h)) (fun h => kf ((bI_0 x).mp h))
/-- a loop over i = 0 .. N-1 that writes nothing; L: the locals, I: what else holds -/
theorem rloop {N : Nat} (I : Nat → Prop) (L : Nat → List (Nat × Value)) (h0 : I 0) (hl : lv_has ls nL (L 0))
    (hx : I N → ∀ ls : Array Slot, lv_has ls nL (L N) → W p l e R s m args below meth c H locs cells slots Q (F0 m pc ls rest))
    (hs : ∀ i : Nat, i < N → I i → (I (i + 1) → ∀ ls : Array Slot, lv_has ls nL (L (i + 1)) → W p l e R s m args below meth c H locs cells slots Q (F0 m pc ls rest)) → ∀ ls : Array Slot, lv_has ls nL (L i) → W p l e R s m args below meth c H locs cells slots Q (F0 m pc ls rest)) :
    W p l e R s m args below meth c H locs cells slots Q (F0 m pc ls rest) := by
  have key : ∀ n i : Nat, i + n = N → I i → ∀ ls : Array Slot, lv_has ls nL (L i) → W p l e R s m args below meth c H locs cells slots Q (F0 m pc ls rest) := by
    intro n
    induction n with
    | zero =>
      intro i hi h ls hl
      have : i = N := by omega
      subst this
      exact hx h ls hl
    | succ n ih =>
      intro i hi h ls hl
      exact hs i (by omega) h (fun h ls hl => ih (i + 1) (by omega) h ls hl) ls hl
  exact key N 0 (by omega) h0 ls hl
/-- .. that writes: Pw: the world -/
theorem wloop {N : Nat} {A0 : Nat → Prop} {H0 : Heap} (I : Nat → Prop) (L : Nat → List (Nat × Value)) (Pw : Nat → Heap → Prop) (h0 : I 0) (hp0 : Pw 0 H) (hS0 : va_S A0 H0 H locs) (hl : lv_has ls nL (L 0))
    (hx : I N → ∀ (H : Heap) (locs : List Loc) (ls : Array Slot), Pw N H → va_S A0 H0 H locs → lv_has ls nL (L N) → W p l e R s m args below meth c H locs cells slots Q (F0 m pc ls rest))
    (hs : ∀ i : Nat, i < N → I i → (I (i + 1) → ∀ (H : Heap) (locs : List Loc) (ls : Array Slot), Pw (i + 1) H → va_S A0 H0 H locs → lv_has ls nL (L (i + 1)) → W p l e R s m args below meth c H locs cells slots Q (F0 m pc ls rest)) → ∀ (H : Heap) (locs : List Loc) (ls : Array Slot), Pw i H → va_S A0 H0 H locs → lv_has ls nL (L i) → W p l e R s m args below meth c H locs cells slots Q (F0 m pc ls rest)) :
    W p l e R s m args below meth c H locs cells slots Q (F0 m pc ls rest) := by
  have key : ∀ n i : Nat, i + n = N → I i → ∀ (H : Heap) (locs : List Loc) (ls : Array Slot), Pw i H → va_S A0 H0 H locs → lv_has ls nL (L i) → W p l e R s m args below meth c H locs cells slots Q (F0 m pc ls rest) := by
    intro n
    induction n with
    | zero =>
      intro i hi h H locs ls hp hS hl
      have : i = N := by omega
      subst this
      exact hx h H locs ls hp hS hl
    | succ n ih =>
      intro i hi h H locs ls hp hS hl
      exact hs i (by omega) h (fun h H locs ls hp hS hl => ih (i + 1) (by omega) h H locs ls hp hS hl) H locs ls hp hS hl
  exact key N 0 (by omega) h0 H locs ls hp0 hS0 hl
theorem nin {P : Loc → Prop} : ∀ q ∈ ([] : List Loc), P q := fun _ h => absurd h List.not_mem_nil
theorem r_iret {v x : Int32} (hexec : p.tables.exec = Jvm.exec) (hb : c.code = cc) (hr : meth.sig.returnType = some .int) (hlocks : meth.locks = false) (h : x = v) (hdg : decode cc pc = .ok (.ireturn, 1)) : W p l e R s m args below meth c s.heap [] 0 0 (MQ below (RQ (some (.int v))) args s 0 0 none_) (F0 m pc ls [.int x]) := by
  subst h
  exact W.iret hexec hb hr (fun t ht _ => ⟨rfl, ht⟩) nin hdg hlocks
theorem nar_bI (b : Bool) : narrow .boolean (.int (bI b)) = .int (bI b) := by cases b <;> rfl
theorem r_zret {b : Bool} {x : Int32} (hexec : p.tables.exec = Jvm.exec) (hb : c.code = cc) (hr : meth.sig.returnType = some .boolean) (hlocks : meth.locks = false) (h : x = bI b) (hdg : decode cc pc = .ok (.ireturn, 1)) : W p l e R s m args below meth c s.heap [] 0 0 (MQ below (RQ (some (.int (bI b)))) args s 0 0 none_) (F0 m pc ls [.int x]) := by
  subst h
  exact W.zret hexec hb hr (nar_bI b) (fun t ht _ => ⟨rfl, ht⟩) nin hdg hlocks
theorem r_lret {v x : Int64} (hexec : p.tables.exec = Jvm.exec) (hb : c.code = cc) (hr : meth.sig.returnType = some .long) (hlocks : meth.locks = false) (h : x = v) (hdg : decode cc pc = .ok (.lreturn, 1)) : W p l e R s m args below meth c s.heap [] 0 0 (MQ below (RQ (some (.long v))) args s 0 0 none_) (F0 m pc ls [.long x]) := by
  subst h
  exact W.lret hexec hb hr (fun t ht _ => ⟨rfl, ht⟩) nin hdg hlocks
theorem r_vret (hexec : p.tables.exec = Jvm.exec) (hb : c.code = cc) (hr : meth.sig.returnType = none) (hlocks : meth.locks = false) (hdg : decode cc pc = .ok (.return_, 1)) : W p l e R s m args below meth c s.heap [] 0 0 (MQ below (RQ none) args s 0 0 none_) (F0 m pc ls []) :=
  W.vret hexec hb hr (fun t ht _ => ⟨rfl, ht⟩) nin hdg hlocks
/-- ends of methods that write -/
theorem w_iret {v x : Int32} {P1 : Heap → Prop} {Ad : Nat → Prop} (hexec : p.tables.exec = Jvm.exec) (hb : c.code = cc) (hr : meth.sig.returnType = some .int) (hlocks : meth.locks = false) (hS : va_S Ad s.heap H locs) (hp : P1 H) (h : x = v) (hdg : decode cc pc = .ok (.ireturn, 1)) : W p l e R s m args below meth c H locs 0 0 (MQ below (WQ (some (.int v)) P1 Ad) args s 0 0 Ad) (F0 m pc ls [.int x]) := by
  subst h
  exact W.iret hexec hb hr (fun t ht _ => ⟨rfl, by rw [ht]; exact hp, hS.F ht⟩) hS.2.2 hdg hlocks
theorem w_zret {b : Bool} {x : Int32} {P1 : Heap → Prop} {Ad : Nat → Prop} (hexec : p.tables.exec = Jvm.exec) (hb : c.code = cc) (hr : meth.sig.returnType = some .boolean) (hlocks : meth.locks = false) (hS : va_S Ad s.heap H locs) (hp : P1 H) (h : x = bI b) (hdg : decode cc pc = .ok (.ireturn, 1)) : W p l e R s m args below meth c H locs 0 0 (MQ below (WQ (some (.int (bI b))) P1 Ad) args s 0 0 Ad) (F0 m pc ls [.int x]) := by
  subst h
  exact W.zret hexec hb hr (nar_bI b) (fun t ht _ => ⟨rfl, by rw [ht]; exact hp, hS.F ht⟩) hS.2.2 hdg hlocks
theorem w_lret {v x : Int64} {P1 : Heap → Prop} {Ad : Nat → Prop} (hexec : p.tables.exec = Jvm.exec) (hb : c.code = cc) (hr : meth.sig.returnType = some .long) (hlocks : meth.locks = false) (hS : va_S Ad s.heap H locs) (hp : P1 H) (h : x = v) (hdg : decode cc pc = .ok (.lreturn, 1)) : W p l e R s m args below meth c H locs 0 0 (MQ below (WQ (some (.long v)) P1 Ad) args s 0 0 Ad) (F0 m pc ls [.long x]) := by
  subst h
  exact W.lret hexec hb hr (fun t ht _ => ⟨rfl, by rw [ht]; exact hp, hS.F ht⟩) hS.2.2 hdg hlocks
theorem w_vret {P1 : Heap → Prop} {Ad : Nat → Prop} (hexec : p.tables.exec = Jvm.exec) (hb : c.code = cc) (hr : meth.sig.returnType = none) (hlocks : meth.locks = false) (hS : va_S Ad s.heap H locs) (hp : P1 H) (hdg : decode cc pc = .ok (.return_, 1)) : W p l e R s m args below meth c H locs 0 0 (MQ below (WQ none P1 Ad) args s 0 0 Ad) (F0 m pc ls []) :=
  W.vret hexec hb hr (fun t ht _ => ⟨rfl, by rw [ht]; exact hp, hS.F ht⟩) hS.2.2 hdg hlocks
/-- ends of the face's methods, which return or throw: k: 0 or the number of what is thrown -/
def PQ (k : Nat) (v : Option Value) (P1 : Heap → Prop) (Ad : Nat → Prop) : Array Value → State → Outcome → State → Prop := fun _ st o t => k = 0 ∧ o = .returned v ∧ P1 t.heap ∧ va_F Ad st t
def PX (k : Nat) (xs : List String) : String → State → State → Prop := fun E st t => (∃ j, k = j + 1 ∧ xs[j]? = some E) ∧ hkep st.heap t.heap
variable {k : Nat} {P1 : Heap → Prop} {Ad : Nat → Prop} {xs : List String}
theorem p_iret {v x : Int32} (hexec : p.tables.exec = Jvm.exec) (hb : c.code = cc) (hr : meth.sig.returnType = some .int) (hlocks : meth.locks = false) (hS : va_S Ad s.heap H locs) (hp : P1 H) (hk : k = 0) (h : x = v) (hc : cells ≤ 1) (hs : slots ≤ 6) (hdg : decode cc pc = .ok (.ireturn, 1)) : W p l e R s m args below meth c H locs cells slots (vx_MQ below (PQ k (some (.int v)) P1 Ad) (PX k xs) args s 1 6 Ad) (F0 m pc ls [.int x]) := by
  subst h
  exact W.widen hc hs (vx_ret (W.iret hexec hb hr (fun t ht _ => ⟨hk, rfl, by rw [ht]; exact hp, hS.F ht⟩) hS.2.2 hdg hlocks))
theorem p_zret {b : Bool} {x : Int32} (hexec : p.tables.exec = Jvm.exec) (hb : c.code = cc) (hr : meth.sig.returnType = some .boolean) (hlocks : meth.locks = false) (hS : va_S Ad s.heap H locs) (hp : P1 H) (hk : k = 0) (h : x = bI b) (hc : cells ≤ 1) (hs : slots ≤ 6) (hdg : decode cc pc = .ok (.ireturn, 1)) : W p l e R s m args below meth c H locs cells slots (vx_MQ below (PQ k (some (.int (bI b))) P1 Ad) (PX k xs) args s 1 6 Ad) (F0 m pc ls [.int x]) := by
  subst h
  exact W.widen hc hs (vx_ret (W.zret hexec hb hr (nar_bI b) (fun t ht _ => ⟨hk, rfl, by rw [ht]; exact hp, hS.F ht⟩) hS.2.2 hdg hlocks))
/-- what a callee has thrown goes on to the caller; nothing was written so far -/
theorem p_out {Qc : Array Value → State → Outcome → State → Prop} {E : String} {ce : Cell} {q9 : Addr} {H1 : Heap} (hex : ∀ x ∈ c.exceptionTable.toList, False) (hlocks : meth.locks = false) (hh : hkep s.heap H1) (hce : H1[q9]? = some ce) (hcv : ce.vm = .none) (hcl : s.vm.findClass E = some ce.cls) (hk : ∃ j, k = j + 1 ∧ xs[j]? = some E) (hc : cells ≤ 1) (hs : slots ≤ 6) :
    vx_W p l e R s m args below meth c H1 [] cells slots (vx_MQ below Qc (PX k xs) args s 1 6 Ad) (F0 m pc ls rest) q9 :=
  vx_out (fun x h => (hex x h).elim) hlocks hce hcv hcl (fun t ht _ => ⟨hk, by rw [ht]; exact hh⟩) nin hc hs
theorem x_out {E : String} {ce : Cell} {q9 : Addr} {H1 : Heap} (hex : ∀ x ∈ c.exceptionTable.toList, False) (hlocks : meth.locks = false) (hh : hkep s.heap H1) (hce : H1[q9]? = some ce) (hcv : ce.vm = .none) (hcl : s.vm.findClass E = some ce.cls) (hc : cells ≤ 1) (hs : slots ≤ 6) :
    vx_W p l e R s m args below meth c H1 [] cells slots (vx_MQ below FF (XQ E) args s 1 6 none_) (F0 m pc ls rest) q9 :=
  vx_out (fun x h => (hex x h).elim) hlocks hce hcv hcl (fun t ht _ => ⟨rfl, by rw [ht]; exact hh⟩) nin hc hs
end ROWS2
