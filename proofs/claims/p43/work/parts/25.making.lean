/-! PART 25: contracts of methods that make cells, their calls, their ends; loops that make cells; a few rows more. -/
section MAKING
/-- what a method leaves that may make cells: nothing that was there changes but the set's -/
def MQv (P1 : Option Value → Heap → Prop) (Ad : Nat → Prop) : Array Value → State → Outcome → State → Prop := fun _ st o t => ∃ v, o = .returned v ∧ P1 v t.heap ∧ va_F Ad st t
def new_ (hz : Nat) : Nat → Prop := fun a => hz ≤ a
theorem KP.nw {H H1 : Heap} {hz : Nat} (h : KP (new_ hz) H H1) (hh : H.size ≤ hz) : KP none_ H H1 := h.monol (fun q hq (z : hz ≤ q) => by omega)
variable {p : Program} {l : Launch} {e : Env} {R : Room} {s : State} {m : MethodId} {args : Array Value} {below : List Frame} {meth : Method} {c : Code} {H : Heap} {locs : List Loc} {cells slots : Nat} {Q : State → Prop}
variable {y : MethodName} {bytes cc : ByteArray} {maxL nL mc ms n index pc : Nat} {ret : Option FieldType} {ws : List Cond} {rm : Room} {Ts : List Cond} {own C : String} {b : Nat} {As rest st0 : List Value} {ls : Array Slot} {Pr : State → Prop}
theorem Met.ofM {ws' : List Cond} {av : List Value} {Qc : Array Value → State → Outcome → State → Prop} {Ad : Nat → Prop} (hy : plainName y.cls = true) (hw : ws = Cond.code y cc maxL ret :: ws') (hlen : (lg_sl av).length ≤ maxL)
    (body : ∀ (p : Program) (e : Env) (s : State) (m : MethodId) (below : List Frame) (meth : Method) (c : Code) (ls : Array Slot), CallFix p m c cc maxL s av.toArray ws y.cls → meth.sig.returnType = ret → meth.locks = false → Pr s → lv_has ls maxL (lv_args 0 av) →
      W p l e rm s m av.toArray below meth c s.heap [] 0 0 (MQ below Qc av.toArray s mc ms Ad) (F0 m 0 ls [])) : Met l y ws rm (va_Pc av Pr) Qc mc ms Ad := by
  refine Met.ofW (cc := cc) (maxL := maxL) (ret := ret) hy hw ?_
  intro p e s m args below meth c s₁ B hml hv
  obtain ⟨rfl, hv⟩ := hv
  rw [lg_entry_eq]
  exact body p e s m below meth c _ ⟨B.exec, B.bytes, hml, findClass_of_methodNamed B.named, atoms_spec (ws := ws) B.pre⟩ B.returns B.notSynchronized hv (lv_entry av hlen)
theorem Met.ex {α : Type} {av : List Value} {Pr : α → State → Prop} {C9 : α → Prop} {Pr' : State → Prop} {Qc : Array Value → State → Outcome → State → Prop} {Ad : Nat → Prop} (h : ∀ U, Pr' U → ∃ i, C9 i ∧ Pr i U) (hM : ∀ i, C9 i → Met l y ws rm (va_Pc av (Pr i)) Qc mc ms Ad) : Met l y ws rm (va_Pc av Pr') Qc mc ms Ad := by
  intro p e ha hc hk s m args below hf happ hP hK
  obtain ⟨i, h1, h2⟩ := h _ hP.2
  exact hM i h1 p e ha hc hk s m args below hf happ ⟨hP.1, h2⟩ hK
theorem Met.po {Pc : Array Value → State → Prop} {Qc Qc' : Array Value → State → Outcome → State → Prop} {Ad : Nat → Prop} (h : ∀ a st o t, Qc a st o t → Qc' a st o t) (hM : Met l y ws rm Pc Qc mc ms Ad) : Met l y ws rm Pc Qc' mc ms Ad := by
  intro p e ha hc hk s m args below hf happ hP hK
  obtain ⟨n, o, h1, h2, h3, h4, L, h5, h6⟩ := hM p e ha hc hk s m args below hf happ hP hK
  exact ⟨n, o, h1, h2, h3, h _ _ _ _ h4, L, h5, h6⟩
theorem WQ.po {v : Option Value} {P1 P2 : Heap → Prop} {Ad : Nat → Prop} (h : ∀ H, P1 H → P2 H) : ∀ a st o t, WQ v P1 Ad a st o t → WQ v P2 Ad a st o t := fun _ _ _ _ q => ⟨q.1, h _ q.2.1, q.2.2⟩
/-- a call of a method that may make cells -/
theorem r_callM {P1 : Option Value → Heap → Prop} {Ad A0 : Nat → Prop} {H0 : Heap} (F : CallFix p m c cc nL s args Ts own) (hM : Met l y ws rm (va_Pc (.ref b :: As) Pr) (MQv P1 Ad) mc ms Ad) (cw : CallW R s args own C index y bytes maxL ret ws rm mc ms n) (hbl : ∀ U g mk a, Pr U → Pr (U.calling g mk a))
    (hrec : ∃ cellB : Cell, H[b]? = some cellB ∧ cellB.vm.isStatics = false ∧ s.vm.findClass C = some cellB.cls) (hpre : ∀ U : State, U.heap = H → s.WarmedH U.vm → Pr U) (hn : As.length = n) (hsize : ls.size = nL) (hst : st0 = As.reverse ++ .ref b :: rest) (hW : (rest.map fun v => v.category).sum ≤ 8)
    (hdg : decode cc pc = .ok (.invokevirtual index, 3)) (hf : cells + mc ≤ R.cells ∧ slots + ms ≤ R.slots) (hS : va_S A0 H0 H locs) (hA : ∀ q, Ad q → A0 q)
    (kk : ∀ (v : Option Value) (H1 : Heap) (locs1 : List Loc), P1 v H1 → KP Ad H H1 → va_S A0 H0 H1 locs1 → W p l e R s m args below meth c H1 locs1 (cells + mc) (slots + ms) Q (F0 m (pc + 3) ls (v.toList ++ rest))) : W p l e R s m args below meth c H locs cells slots Q (F0 m pc ls st0) := by
  intro T hT X
  obtain ⟨v', st₀, t, T', L, h0, X', hL, e1, e2, ⟨v, hv, hp, hF⟩, st⟩ := va_runV F hM cw ⟨fun a U g mk hq => ⟨hq.1, hbl U g mk a hq.2⟩, hrec, fun U hU hW => ⟨rfl, hpre U hU hW⟩⟩ (g := F0 m pc ls st0) rfl hn hsize hst (lv_room hW) hdg hf T hT X
  cases hv
  obtain ⟨k1, k2, k3⟩ := vx_keep h0 e1 hS (fun q _ h => hA q h) hA hL hF
  obtain ⟨t2, a1, b1⟩ := kk v' T'.heap (locs ++ L) (by rw [e1]; exact hp) ⟨k1, k2⟩ k3 T' rfl X'
  exact ⟨t2, st t2 a1, b1⟩
theorem r_callMS {P1 : Option Value → Heap → Prop} {Ad A0 : Nat → Prop} {H0 : Heap} (F : CallFix p m c cc nL s args Ts own) (hM : Met l y ws rm (va_Pc As Pr) (MQv P1 Ad) mc ms Ad) (cw : CallB R s args own index y bytes maxL ret ws rm mc ms n ∧ (Cond.static y).before args s = true) (hbl : ∀ U g mk a, Pr U → Pr (U.calling g mk a))
    (hpre : ∀ U : State, U.heap = H → s.WarmedH U.vm → Pr U) (hn : As.length = n) (hsize : ls.size = nL) (hst : st0 = As.reverse ++ rest) (hW : (rest.map fun v => v.category).sum ≤ 8)
    (hdg : decode cc pc = .ok (.invokestatic index, 3)) (hf : cells + mc ≤ R.cells ∧ slots + ms ≤ R.slots) (hS : va_S A0 H0 H locs) (hA : ∀ q, Ad q → A0 q)
    (kk : ∀ (v : Option Value) (H1 : Heap) (locs1 : List Loc), P1 v H1 → KP Ad H H1 → va_S A0 H0 H1 locs1 → W p l e R s m args below meth c H1 locs1 (cells + mc) (slots + ms) Q (F0 m (pc + 3) ls (v.toList ++ rest))) : W p l e R s m args below meth c H locs cells slots Q (F0 m pc ls st0) := by
  intro T hT X
  obtain ⟨v', st₀, t, T', L, h0, X', hL, e1, e2, ⟨v, hv, hp, hF⟩, st⟩ := va_runS F hM cw ⟨fun a U g mk hq => ⟨hq.1, hbl U g mk a hq.2⟩, fun U hU hW => ⟨rfl, hpre U hU hW⟩⟩ (g := F0 m pc ls st0) rfl hn hsize hst (lv_room hW) hdg hf T hT X
  cases hv
  obtain ⟨k1, k2, k3⟩ := vx_keep h0 e1 hS (fun q _ h => hA q h) hA hL hF
  obtain ⟨t2, a1, b1⟩ := kk v' T'.heap (locs ++ L) (by rw [e1]; exact hp) ⟨k1, k2⟩ k3 T' rfl X'
  exact ⟨t2, st t2 a1, b1⟩
/-- ends -/
theorem m_aret {P1 : Option Value → Heap → Prop} {Ad : Nat → Prop} {a : Nat} {rt : FieldType} (hexec : p.tables.exec = Jvm.exec) (hb : c.code = cc) (hr : meth.sig.returnType = some rt) (hrt : (∃ n, rt = .object n) ∨ ∃ t, rt = .array t) (hlocks : meth.locks = false) (hS : va_S Ad s.heap H locs) (hp : P1 (some (.ref a)) H) (h1 : cells ≤ mc) (h2 : slots ≤ ms) (hdg : decode cc pc = .ok (.areturn, 1)) : W p l e R s m args below meth c H locs cells slots (MQ below (MQv P1 Ad) args s mc ms Ad) (F0 m pc ls [.ref a]) :=
  W.widen h1 h2 (W.aret hexec hb hr hrt (Or.inr ⟨a, rfl⟩) (fun t ht _ => ⟨_, rfl, by rw [ht]; exact hp, hS.F ht⟩) hS.2.2 hdg hlocks)
theorem m_vret {P1 : Option Value → Heap → Prop} {Ad : Nat → Prop} (hexec : p.tables.exec = Jvm.exec) (hb : c.code = cc) (hr : meth.sig.returnType = none) (hlocks : meth.locks = false) (hS : va_S Ad s.heap H locs) (hp : P1 none H) (h1 : cells ≤ mc) (h2 : slots ≤ ms) (hdg : decode cc pc = .ok (.return_, 1)) : W p l e R s m args below meth c H locs cells slots (MQ below (MQv P1 Ad) args s mc ms Ad) (F0 m pc ls []) :=
  W.widen h1 h2 (W.vret hexec hb hr (fun t ht _ => ⟨_, rfl, by rw [ht]; exact hp, hS.F ht⟩) hS.2.2 hdg hlocks)
theorem m_iret {P1 : Option Value → Heap → Prop} {Ad : Nat → Prop} {x : Int32} (hexec : p.tables.exec = Jvm.exec) (hb : c.code = cc) (hr : meth.sig.returnType = some .int) (hlocks : meth.locks = false) (hS : va_S Ad s.heap H locs) (hp : P1 (some (.int x)) H) (h1 : cells ≤ mc) (h2 : slots ≤ ms) (hdg : decode cc pc = .ok (.ireturn, 1)) : W p l e R s m args below meth c H locs cells slots (MQ below (MQv P1 Ad) args s mc ms Ad) (F0 m pc ls [.int x]) :=
  W.widen h1 h2 (W.iret hexec hb hr (fun t ht _ => ⟨_, rfl, by rw [ht]; exact hp, hS.F ht⟩) hS.2.2 hdg hlocks)
theorem m_zret {P1 : Option Value → Heap → Prop} {Ad : Nat → Prop} {b : Bool} (hexec : p.tables.exec = Jvm.exec) (hb : c.code = cc) (hr : meth.sig.returnType = some .boolean) (hlocks : meth.locks = false) (hS : va_S Ad s.heap H locs) (hp : P1 (some (.int (bI b))) H) (h1 : cells ≤ mc) (h2 : slots ≤ ms) (hdg : decode cc pc = .ok (.ireturn, 1)) : W p l e R s m args below meth c H locs cells slots (MQ below (MQv P1 Ad) args s mc ms Ad) (F0 m pc ls [.int (bI b)]) :=
  W.widen h1 h2 (W.zret hexec hb hr (nar_bI b) (fun t ht _ => ⟨_, rfl, by rw [ht]; exact hp, hS.F ht⟩) hS.2.2 hdg hlocks)
/-- a loop over i = 0 .. N-1 that may make cells: dc cells and ds slots in each turn -/
theorem mloop {N : Nat} {A0 : Nat → Prop} {H0 : Heap} {c0 s0 : Nat} (dc ds : Nat) (I : Nat → Prop) (L : Nat → Heap → List (Nat × Value) → Prop) (Pw : Nat → Heap → Prop) (h0 : I 0) (hp0 : Pw 0 H) (hS0 : va_S A0 H0 H locs) {lv0 : List (Nat × Value)} (hL0 : L 0 H lv0) (hl : lv_has ls nL lv0)
    (hx : I N → ∀ (H : Heap) (locs : List Loc) (ls : Array Slot) (lv : List (Nat × Value)), Pw N H → va_S A0 H0 H locs → L N H lv → lv_has ls nL lv → W p l e R s m args below meth c H locs (c0 + N * dc) (s0 + N * ds) Q (F0 m pc ls rest))
    (hs : ∀ i : Nat, i < N → I i → (I (i + 1) → ∀ (H : Heap) (locs : List Loc) (ls : Array Slot) (lv : List (Nat × Value)), Pw (i + 1) H → va_S A0 H0 H locs → L (i + 1) H lv → lv_has ls nL lv → W p l e R s m args below meth c H locs (c0 + i * dc + dc) (s0 + i * ds + ds) Q (F0 m pc ls rest)) → ∀ (H : Heap) (locs : List Loc) (ls : Array Slot) (lv : List (Nat × Value)), Pw i H → va_S A0 H0 H locs → L i H lv → lv_has ls nL lv → W p l e R s m args below meth c H locs (c0 + i * dc) (s0 + i * ds) Q (F0 m pc ls rest)) :
    W p l e R s m args below meth c H locs c0 s0 Q (F0 m pc ls rest) := by
  have key : ∀ n i : Nat, i + n = N → I i → ∀ (H : Heap) (locs : List Loc) (ls : Array Slot) (lv : List (Nat × Value)), Pw i H → va_S A0 H0 H locs → L i H lv → lv_has ls nL lv → W p l e R s m args below meth c H locs (c0 + i * dc) (s0 + i * ds) Q (F0 m pc ls rest) := by
    intro n
    induction n with
    | zero =>
      intro i hi h H locs ls lv hp hS hL hl
      have : i = N := by omega
      subst this
      exact hx h H locs ls lv hp hS hL hl
    | succ n ih =>
      intro i hi h H locs ls lv hp hS hL hl
      refine hs i (by omega) h (fun h H locs ls lv hp hS hL hl => ?_) H locs ls lv hp hS hL hl
      have := ih (i + 1) (by omega) h H locs ls lv hp hS hL hl
      rw [show c0 + i * dc + dc = c0 + (i + 1) * dc by rw [Nat.succ_mul]; omega, show s0 + i * ds + ds = s0 + (i + 1) * ds by rw [Nat.succ_mul]; omega]
      exact this
  have := key N 0 (by omega) h0 H locs ls lv0 hp0 hS0 hL0 hl
  rw [Nat.zero_mul, Nat.zero_mul] at this
  exact this
theorem r_as {x : Int32} (y : Int32) (h : x = y) (k : W p l e R s m args below meth c H locs cells slots Q (F0 m pc ls (.int y :: rest))) : W p l e R s m args below meth c H locs cells slots Q (F0 m pc ls (.int x :: rest)) := by
  subst h
  exact k
theorem n_if_gt (hexec : p.tables.exec = Jvm.exec) (hb : c.code = cc) {x : Nat} {off : Int} {tgt : Nat} (hx : x < 2 ^ 31) (hdg : decode cc pc = .ok (.ifCond .gt off, 3)) (ht : (pc : Int) + off = (tgt : Int)) (kt : 0 < x → W p l e R s m args below meth c H locs cells slots Q (F0 m tgt ls rest)) (kf : x = 0 → W p l e R s m args below meth c H locs cells slots Q (F0 m (pc + 3) ls rest)) : W p l e R s m args below meth c H locs cells slots Q (F0 m pc ls (.int (nI x) :: rest)) :=
  lv_if_gt hexec hb hdg ht (fun h => kt (by
    rcases Nat.eq_zero_or_pos x with g | g
    · subst g
      exact absurd h (by decide)
    · exact g)) (fun h => kf (by
    rcases Nat.eq_zero_or_pos x with g | g
    · exact g
    · exact absurd (nI_lt g hx) h))
theorem iv_par {F P : Nat} {g : Nat → Nat → Int32} (h : Iv F P g) : ∀ z, z < P → g 6 z ≠ nI z := h.2.2.2.2.2.2.2
theorem nI_dec {x : Nat} (h : 0 < x) : nI x + Int32.ofInt (-1) = nI (x - 1) := by
  obtain ⟨y, rfl⟩ : ∃ y, x = y + 1 := ⟨x - 1, by omega⟩
  rw [Nat.add_sub_cancel, ← nI_add, show Int32.ofInt (-1) = -1 from rfl, Int32.add_assoc, show (nI 1 + -1 : Int32) = 0 by decide, Int32.add_zero]
end MAKING
