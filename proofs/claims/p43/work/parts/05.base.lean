/-! PART 05: the surroundings of a method (statics, strings, casts), the two worlds, and the rows for calls of methods that write nothing, that write their world alone, that throw. -/
section BASE
def trf : Nat → Int32 := fun w => match w with | 0 => 2 | 1 => 4 | 2 => 3 | _ => 1
def xIA : String := "java/lang/IllegalArgumentException"
def xIS : String := "java/lang/IllegalStateException"
def xIO : String := "java/lang/IndexOutOfBoundsException"
def exs3 : List String := [xIA, xIS, xIO]
def dnm : List String := ["java/lang/RuntimeException", "java/lang/Exception", Bundle.tN]
def strs : List (Nat × String) := [(48, "there are 6 ferries"), (68, "coins is not 1 to 9999"), (88, "the crown has not so many shares"), (94, "both people are the same"), (100, "the one who gives has not so many shares"), (109, "this buyer cannot buy them"), (117, "this person is not the master of the ferry"), (142, "nobody owns any share of it"), (144, "this ferry has no master"), (152, "this person has no parent"), (162, "no such place among the heirs"), (171, "nobody is alive"), (190, "no such ferry"), (192, "no such watch"), (194, "hour is not 0 to 23"), (196, "no such person"), (198, "toll is not 0 to 20"), (200, "shares is not 1 to 64"), (202, "passengers is not 1 to 200"), (204, "this person is dead"), (206, "there are 12 people")]
/-- the tables' words for arrays of arrays -/
def AOs (U : State) : Prop := (Cond.arrayOver (.array .int)).before #[] U = true ∧ (Cond.arrayOver (.array (.array .int))).before #[] U = true
theorem AO_moved {t : FieldType} {u U : State} (hvm : u.vm.Alike U.vm) (h : (Cond.arrayOver (.array t)).before #[] u = true) : (Cond.arrayOver (.array t)).before #[] U = true := by
  obtain ⟨comp, c, k, h1, h2, h3, h4, h5⟩ := arrayOverA_spec h
  obtain ⟨k', hk', he⟩ := hvm.2.2 _ _ h3
  have e1 : U.vm.findClass (FieldType.array t).toString = some comp := by rw [hvm.findClass]; exact h1
  have e5 : U.vm.findClass ("[" ++ (FieldType.array t).toString) = some c := by rw [hvm.findClass]; exact h5
  have e2 : (U.vm.classes.findIdx? fun x => match x.kind with | .array component _ => component == comp | _ => false) = some c := by rw [hvm.findIdx?_eq _ (fun _ => rfl)]; exact h2
  have e4 : k'.kind = .array comp (.array t) := by rw [he]; exact h4
  unfold Cond.before Cond.holds
  simp only [Cond.value]
  rw [e1, Option.bind_some]
  refine (congrArg (fun o : Option Nat => (o.bind (fun c => (U.vm.classes[c]?).map fun (k : Class) => match k.kind with | .array _ ty => decide (ty = FieldType.array t) && decide (U.vm.findClass ("[" ++ (FieldType.array t).toString) = some c) | _ => false) == some true)) e2).trans ?_
  simp [hk', e4, e5]
theorem AOs.moved {u U : State} (hvm : u.vm.Alike U.vm) (h : AOs u) : AOs U := ⟨AO_moved hvm h.1, AO_moved hvm h.2⟩
/-- what the methods need of the surroundings: the statics, the strings, the casts of the exceptions to themselves -/
def EV (A : Nat → Prop) (U : State) (H : Heap) : Prop :=
  (vx_Zq Bundle.tN "UNASSIGNED_STACK" Bundle.steD A U H ∧ vx_Zq Bundle.tN "SUPPRESSED_SENTINEL" Bundle.listD A U H) ∧
  ((∀ x ∈ exs3, va_Nw (.castable x x) U) ∧ (∀ x ∈ dnm, va_Nw (.declares (Bundle.initS x)) U)) ∧ (∀ x ∈ strs, ∃ sa : Nat, vk_R RX0 x.1 x.2 sa U) ∧
  (∃ t : Nat, va_Z RX0 "TRAFFIC" "[I" (.ref t) A U H ∧ va_T .int t 4 (fun j => .int (trf j)) A U H) ∧
  AOs U
theorem EV.mv {A : Nat → Prop} {s U : State} {H H1 : Heap} (hW : s.WarmedH U.vm) (h : EV A s H) (hk : ∀ a : Nat, a < H.size → ¬ A a → H1[a]? = H[a]?) : EV A U H1 := by
  obtain ⟨⟨h1, h2⟩, ⟨h3, hd⟩, h4, ⟨t5, h5, h5'⟩, h6⟩ := h
  refine ⟨⟨vx_Zq.moved hW.alike (h1.kept hk), vx_Zq.moved hW.alike (h2.kept hk)⟩, ⟨fun x hx => va_Nw.warmC hW (h3 x hx), fun x hx => va_Nw.warmD hW (hd x hx)⟩, fun x hx => ?_, ⟨t5, va_Z.moved hW.alike (h5.kept hk), va_T.moved hW.alike (h5'.kept hk)⟩, h6.moved hW.alike⟩
  obtain ⟨sa, h⟩ := h4 x hx
  exact ⟨sa, vk_R.warm hW h⟩
theorem EV.nar {A B : Nat → Prop} {U : State} {H : Heap} (h : EV A U H) (hAB : ∀ q, B q → A q) : EV B U H := by
  obtain ⟨⟨h1, h2⟩, h3, h4, ⟨t5, h5, h5'⟩, h6⟩ := h
  exact ⟨⟨h1.narrow hAB, h2.narrow hAB⟩, h3, h4, ⟨t5, h5.narrow hAB, h5'.narrow hAB⟩, h6⟩
/-- the addresses q 0 .. q (N-1), and that they are apart -/
def aw (q : Nat → Nat) (N : Nat) : Nat → Prop := fun a => ∃ k, k < N ∧ a = q k
def DQ (q : Nat → Nat) (N : Nat) : Prop := ∀ i j, i < N → j < N → q i = q j → i = j
def tyL (ci cz : ClassId) (cj : ClassId × ClassId) : List (ClassId × FieldType) := [(ci, .int), (cz, .boolean), (cj.1, .array .int), (cj.2, .array (.array .int))]
/-- who is alive, out of who is dead -/
def alv (P : Nat) (d : Nat → Int32) : Nat → Int32 := fun p => if p < P then (if d p = 0 then 1 else 0) else 0
/-- the world of a FerryRights; g: 0 tolls, 1 carried, 2 shares, 3 dead, 4 coins, 5 earned, 6 parents, 7 the crown's coins -/
def w0r (ci cz : ClassId) (q : Nat → Nat) (F P : Nat) (al : Nat → Int32) (g : Nat → Nat → Int32) : va_W := [(q 0, .inr (0, [.int (nI F), .ref (q 1), .ref (q 2), .ref (q 3), .int (nI P), .ref (q 4), .ref (q 5), .ref (q 6), .ref (q 7), .int (g 7 0)])), (q 1, .inl (ci, 6, .inl (g 0))), (q 2, .inl (ci, 6, .inl (g 1))), (q 3, .inl (ci, 288, .inl (g 2))), (q 4, .inl (cz, 12, .inl al)), (q 5, .inl (ci, 12, .inl (g 4))), (q 6, .inl (ci, 12, .inl (g 5))), (q 7, .inl (ci, 12, .inl (g 6)))]
def w0 (ci cz : ClassId) (q : Nat → Nat) (F P : Nat) (g : Nat → Nat → Int32) : va_W := w0r ci cz q F P (alv P (g 3)) g
theorem w0r_fst {ci cz : ClassId} {q : Nat → Nat} {F P : Nat} {al : Nat → Int32} {g : Nat → Nat → Int32} {k : Nat} {r : Nat × va_E} (h : (w0r ci cz q F P al g)[k]? = some r) : k < 8 ∧ r.1 = q k := by
  have hk : k < 8 := (List.getElem?_eq_some_iff.mp h).1
  refine ⟨hk, ?_⟩
  rcases (show k = 0 ∨ k = 1 ∨ k = 2 ∨ k = 3 ∨ k = 4 ∨ k = 5 ∨ k = 6 ∨ k = 7 by omega) with rfl | rfl | rfl | rfl | rfl | rfl | rfl | rfl <;> exact (congrArg Prod.fst (Option.some.inj h)).symm
theorem dst {q : Nat → Nat} {N : Nat} {ws : va_W} (hq : DQ q N) (h : ∀ k r, ws[k]? = some r → k < N ∧ r.1 = q k) : va_D (aw q N) ws :=
  ⟨fun i j x y hi hj hxy => hq i j (h i x hi).1 (h j y hj).1 (by rw [← (h i x hi).2, ← (h j y hj).2]; exact hxy), fun k r hk => ⟨k, (h k r hk).1, (h k r hk).2⟩⟩
theorem d0 {ci cz : ClassId} {q : Nat → Nat} {F P : Nat} {al : Nat → Int32} {g : Nat → Nat → Int32} (hq : DQ q 8) : va_D (aw q 8) (w0r ci cz q F P al g) := dst hq fun _ _ h => w0r_fst h
/-- a world, and its surroundings -/
def BW (D : va_G) (ci cz : ClassId) (cj : ClassId × ClassId) (q : Nat → Nat) (N : Nat) (ws : va_W) (U : State) : Prop := va_P D vwCl ws U.heap ∧ va_K D vwCl (tyL ci cz cj) U ∧ EV (aw q N) U U.heap
def B0 (D : va_G) (ci cz : ClassId) (cj : ClassId × ClassId) (q : Nat → Nat) (F P : Nat) (g : Nat → Nat → Int32) : State → Prop := BW D ci cz cj q 8 (w0 ci cz q F P g)
theorem BW.bl {D : va_G} {ci cz : ClassId} {cj : ClassId × ClassId} {q : Nat → Nat} {N : Nat} {ws : va_W} (U : State) (g : JFrame) (mk : MethodId) (a : Array Value) (h : BW D ci cz cj q N ws U) : BW D ci cz cj q N ws (U.calling g mk a) :=
  ⟨h.1, va_K.moved (u := U) (U := U.calling g mk a) (Vm.Alike.refl U.vm) h.2.1, EV.mv (s := U) (U := U.calling g mk a) (State.WarmedH.refl U) h.2.2 (fun _ _ _ => rfl)⟩
theorem BW.at {D : va_G} {ci cz : ClassId} {cj : ClassId × ClassId} {q : Nat → Nat} {N : Nat} {ws : va_W} {s : State} {H : Heap} {locs : List Loc} (hP : va_P D vwCl ws H) (hK : va_K D vwCl (tyL ci cz cj) s) (hE : EV (aw q N) s s.heap) (hS : va_S (aw q N) s.heap H locs) (U : State) (hU : U.heap = H) (hW : s.WarmedH U.vm) : BW D ci cz cj q N ws U :=
  ⟨by rw [hU]; exact hP, va_K.moved hW.alike hK, EV.mv hW hE (fun a h1 h2 => by rw [hU]; exact hS.2.1 a h1 h2)⟩
/-- ends: nothing is written -/
def RQ (v : Option Value) : Array Value → State → Outcome → State → Prop := fun _ st o t => o = .returned v ∧ t.heap = st.heap
/-- ends: of the old cells those of the set alone may have changed -/
def WQ (v : Option Value) (P1 : Heap → Prop) (Ad : Nat → Prop) : Array Value → State → Outcome → State → Prop := fun _ st o t => o = .returned v ∧ P1 t.heap ∧ va_F Ad st t
def FF : Array Value → State → Outcome → State → Prop := fun _ _ _ _ => False
def hkep (H H1 : Heap) : Prop := H.size ≤ H1.size ∧ ∀ a : Nat, a < H.size → H1[a]? = H[a]?
/-- throws an E; old cells stay -/
def XQ (E : String) : String → State → State → Prop := fun E' st t => E' = E ∧ hkep st.heap t.heap
def none_ : Nat → Prop := fun _ => False
end BASE
section ROWS
variable {p : Program} {l : Launch} {e : Env} {R : Room} {s : State} {m : MethodId} {args : Array Value} {below : List Frame} {meth : Method} {c : Code} {H : Heap} {locs : List Loc} {cells slots : Nat} {Q : State → Prop}
variable {y : MethodName} {bytes cc : ByteArray} {maxL nL mc ms n index pc : Nat} {ret : Option FieldType} {ws : List Cond} {rm : Room} {Ts : List Cond} {own C : String} {b : Nat} {As rest st0 : List Value} {ls : Array Slot} {Pr : State → Prop}
theorem Met.ofR {ws' : List Cond} {av : List Value} {v : Option Value} (hy : plainName y.cls = true) (hw : ws = Cond.code y cc maxL ret :: ws') (hlen : (lg_sl av).length ≤ maxL)
    (body : ∀ (p : Program) (e : Env) (s : State) (m : MethodId) (below : List Frame) (meth : Method) (c : Code) (ls : Array Slot), CallFix p m c cc maxL s av.toArray ws y.cls → meth.sig.returnType = ret → meth.locks = false → Pr s → lv_has ls maxL (lv_args 0 av) →
      W p l e rm s m av.toArray below meth c s.heap [] 0 0 (MQ below (RQ v) av.toArray s 0 0 none_) (F0 m 0 ls [])) : Met l y ws rm (va_Pc av Pr) (RQ v) 0 0 none_ := by
  refine Met.ofW (cc := cc) (maxL := maxL) (ret := ret) hy hw ?_
  intro p e s m args below meth c s₁ B hml hv
  obtain ⟨rfl, hv⟩ := hv
  rw [lg_entry_eq]
  exact body p e s m below meth c _ ⟨B.exec, B.bytes, hml, findClass_of_methodNamed B.named, atoms_spec (ws := ws) B.pre⟩ B.returns B.notSynchronized hv (lv_entry av hlen)
theorem Met.ofWr {ws' : List Cond} {av : List Value} {v : Option Value} {P1 : Heap → Prop} {Ad : Nat → Prop} (hy : plainName y.cls = true) (hw : ws = Cond.code y cc maxL ret :: ws') (hlen : (lg_sl av).length ≤ maxL)
    (body : ∀ (p : Program) (e : Env) (s : State) (m : MethodId) (below : List Frame) (meth : Method) (c : Code) (ls : Array Slot), CallFix p m c cc maxL s av.toArray ws y.cls → meth.sig.returnType = ret → meth.locks = false → Pr s → lv_has ls maxL (lv_args 0 av) →
      W p l e rm s m av.toArray below meth c s.heap [] 0 0 (MQ below (WQ v P1 Ad) av.toArray s 0 0 Ad) (F0 m 0 ls [])) : Met l y ws rm (va_Pc av Pr) (WQ v P1 Ad) 0 0 Ad := by
  refine Met.ofW (cc := cc) (maxL := maxL) (ret := ret) hy hw ?_
  intro p e s m args below meth c s₁ B hml hv
  obtain ⟨rfl, hv⟩ := hv
  rw [lg_entry_eq]
  exact body p e s m below meth c _ ⟨B.exec, B.bytes, hml, findClass_of_methodNamed B.named, atoms_spec (ws := ws) B.pre⟩ B.returns B.notSynchronized hv (lv_entry av hlen)
theorem vx_ofX {ws' : List Cond} {av : List Value} {Qc : Array Value → State → Outcome → State → Prop} {XC : String → State → State → Prop} {Ad : Nat → Prop} (hy : plainName y.cls = true) (hw : ws = Cond.code y cc maxL ret :: ws') (hlen : (lg_sl av).length ≤ maxL)
    (body : ∀ (p : Program) (e : Env) (s : State) (m : MethodId) (below : List Frame) (meth : Method) (c : Code) (ls : Array Slot), CallFix p m c cc maxL s av.toArray ws y.cls → meth.sig.returnType = ret → meth.locks = false → (∀ x ∈ c.exceptionTable.toList, False) → Pr s → lv_has ls maxL (lv_args 0 av) →
      W p l e rm s m av.toArray below meth c s.heap [] 0 0 (vx_MQ below Qc XC av.toArray s 1 6 Ad) (F0 m 0 ls [])) : vx_Met l y ws rm (va_Pc av Pr) Qc XC 1 6 Ad := by
  refine vx_ofW (cc := cc) (maxL := maxL) (ret := ret) hy hw ?_
  intro p e s m args below meth c s₁ B hml hex hv
  obtain ⟨rfl, hv⟩ := hv
  rw [lg_entry_eq]
  exact body p e s m below meth c _ ⟨B.exec, B.bytes, hml, findClass_of_methodNamed B.named, atoms_spec (ws := ws) B.pre⟩ B.returns B.notSynchronized hex hv (lv_entry av hlen)
theorem nil_of {L : List Loc} (h : ∀ q ∈ L, none_ q.base) : L = [] := by
  cases L with
  | nil => rfl
  | cons x t => exact (h x List.mem_cons_self).elim
/-- a call of a method of an object that writes nothing -/
theorem r_callR {v : Option Value} (F : CallFix p m c cc nL s args Ts own) (hM : Met l y ws rm (va_Pc (.ref b :: As) Pr) (RQ v) 0 0 none_) (cw : CallW R s args own C index y bytes maxL ret ws rm 0 0 n) (hbl : ∀ U g mk a, Pr U → Pr (U.calling g mk a))
    (hrec : ∃ cellB : Cell, H[b]? = some cellB ∧ cellB.vm.isStatics = false ∧ s.vm.findClass C = some cellB.cls) (hpre : ∀ U : State, U.heap = H → s.WarmedH U.vm → Pr U) (hn : As.length = n) (hsize : ls.size = nL) (hst : st0 = As.reverse ++ .ref b :: rest) (hW : (rest.map fun v => v.category).sum ≤ 8)
    (hdg : decode cc pc = .ok (.invokevirtual index, 3)) (hf : cells ≤ R.cells ∧ slots ≤ R.slots) (kk : W p l e R s m args below meth c H locs cells slots Q (F0 m (pc + 3) ls (v.toList ++ rest))) : W p l e R s m args below meth c H locs cells slots Q (F0 m pc ls st0) := by
  intro T hT X
  obtain ⟨v', st₀, t, T', L, h0, X', hL, e1, e2, ⟨hv, hh⟩, st⟩ := va_runV F hM cw ⟨fun a U g mk hq => ⟨hq.1, hbl U g mk a hq.2⟩, hrec, fun U hU hW => ⟨rfl, hpre U hU hW⟩⟩ (g := F0 m pc ls st0) rfl hn hsize hst (lv_room hW) hdg hf T hT X
  cases hv
  have hL0 := nil_of hL
  subst hL0
  rw [List.append_nil] at X'
  obtain ⟨t2, a1, b1⟩ := kk T' (by rw [e1, hh, h0]) X'
  exact ⟨t2, st t2 a1, b1⟩
/-- .. of a static method -/
theorem r_callRS {v : Option Value} (F : CallFix p m c cc nL s args Ts own) (hM : Met l y ws rm (va_Pc As Pr) (RQ v) 0 0 none_) (cw : CallB R s args own index y bytes maxL ret ws rm 0 0 n ∧ (Cond.static y).before args s = true) (hbl : ∀ U g mk a, Pr U → Pr (U.calling g mk a))
    (hpre : ∀ U : State, U.heap = H → s.WarmedH U.vm → Pr U) (hn : As.length = n) (hsize : ls.size = nL) (hst : st0 = As.reverse ++ rest) (hW : (rest.map fun v => v.category).sum ≤ 8)
    (hdg : decode cc pc = .ok (.invokestatic index, 3)) (hf : cells ≤ R.cells ∧ slots ≤ R.slots) (kk : W p l e R s m args below meth c H locs cells slots Q (F0 m (pc + 3) ls (v.toList ++ rest))) : W p l e R s m args below meth c H locs cells slots Q (F0 m pc ls st0) := by
  intro T hT X
  obtain ⟨v', st₀, t, T', L, h0, X', hL, e1, e2, ⟨hv, hh⟩, st⟩ := va_runS F hM cw ⟨fun a U g mk hq => ⟨hq.1, hbl U g mk a hq.2⟩, fun U hU hW => ⟨rfl, hpre U hU hW⟩⟩ (g := F0 m pc ls st0) rfl hn hsize hst (lv_room hW) hdg hf T hT X
  cases hv
  have hL0 := nil_of hL
  subst hL0
  rw [List.append_nil] at X'
  obtain ⟨t2, a1, b1⟩ := kk T' (by rw [e1, hh, h0]) X'
  exact ⟨t2, st t2 a1, b1⟩
/-- a call of a method that writes its world alone -/
theorem r_callW {v : Option Value} {P1 : Heap → Prop} {Ad A0 : Nat → Prop} {H0 : Heap} (F : CallFix p m c cc nL s args Ts own) (hM : Met l y ws rm (va_Pc (.ref b :: As) Pr) (WQ v P1 Ad) 0 0 Ad) (cw : CallW R s args own C index y bytes maxL ret ws rm 0 0 n) (hbl : ∀ U g mk a, Pr U → Pr (U.calling g mk a))
    (hrec : ∃ cellB : Cell, H[b]? = some cellB ∧ cellB.vm.isStatics = false ∧ s.vm.findClass C = some cellB.cls) (hpre : ∀ U : State, U.heap = H → s.WarmedH U.vm → Pr U) (hn : As.length = n) (hsize : ls.size = nL) (hst : st0 = As.reverse ++ .ref b :: rest) (hW : (rest.map fun v => v.category).sum ≤ 8)
    (hdg : decode cc pc = .ok (.invokevirtual index, 3)) (hf : cells ≤ R.cells ∧ slots ≤ R.slots) (hS : va_S A0 H0 H locs) (hA : ∀ q, Ad q → A0 q)
    (kk : ∀ (H1 : Heap) (locs1 : List Loc), P1 H1 → va_S A0 H0 H1 locs1 → H.size ≤ H1.size → (∀ q : Nat, q < H.size → ¬ Ad q → H1[q]? = H[q]?) → W p l e R s m args below meth c H1 locs1 cells slots Q (F0 m (pc + 3) ls (v.toList ++ rest))) : W p l e R s m args below meth c H locs cells slots Q (F0 m pc ls st0) := by
  intro T hT X
  obtain ⟨v', st₀, t, T', L, h0, X', hL, e1, e2, ⟨hv, hp, hF⟩, st⟩ := va_runV F hM cw ⟨fun a U g mk hq => ⟨hq.1, hbl U g mk a hq.2⟩, hrec, fun U hU hW => ⟨rfl, hpre U hU hW⟩⟩ (g := F0 m pc ls st0) rfl hn hsize hst (lv_room hW) hdg hf T hT X
  cases hv
  obtain ⟨k1, k2, k3⟩ := vx_keep h0 e1 hS (fun q _ h => hA q h) hA hL hF
  obtain ⟨t2, a1, b1⟩ := kk T'.heap (locs ++ L) (by rw [e1]; exact hp) k3 k1 k2 T' rfl X'
  exact ⟨t2, st t2 a1, b1⟩
/-- a call of a method that throws an E -/
theorem r_callX {E : String} (F : CallFix p m c cc nL s args Ts own) (hM : vx_Met l y ws rm (va_Pc (.ref b :: As) Pr) FF (XQ E) 1 6 none_) (cw : CallW R s args own C index y bytes maxL ret ws rm 1 6 n) (hbl : ∀ U g mk a, Pr U → Pr (U.calling g mk a))
    (hrec : ∃ cellB : Cell, H[b]? = some cellB ∧ cellB.vm.isStatics = false ∧ s.vm.findClass C = some cellB.cls) (hpre : ∀ U : State, U.heap = H → s.WarmedH U.vm → Pr U) (hn : As.length = n) (hsize : ls.size = nL) (hst : st0 = As.reverse ++ .ref b :: rest) (hW : (rest.map fun v => v.category).sum ≤ 8)
    (hdg : decode cc pc = .ok (.invokevirtual index, 3)) (hf : cells + 1 ≤ R.cells ∧ slots + 6 ≤ R.slots)
    (kx : ∀ (ce : Cell) (q9 : Addr) (H1 : Heap), hkep H H1 → H1[q9]? = some ce → ce.vm = .none → s.vm.findClass E = some ce.cls → vx_W p l e R s m args below meth c H1 locs (cells + 1) (slots + 6) Q (F0 m pc ls rest) q9) : W p l e R s m args below meth c H locs cells slots Q (F0 m pc ls st0) := by
  intro T hT X
  rcases vx_runV F hM cw ⟨fun a U g mk hq => ⟨hq.1, hbl U g mk a hq.2⟩, hrec, fun U hU hW => ⟨rfl, hpre U hU hW⟩⟩ (g := F0 m pc ls st0) rfl hn hsize hst (lv_room hW) hdg hf T hT X with ⟨v', st₀, t, T', L, h0, X', hL, e1, e2, hq, st⟩ | ⟨q, st₀, t, T', L, E', ce, h0, X', hL, e1, e2, ⟨hE, hh⟩, hce, hcv, hcl, st⟩
  · exact hq.elim
  · subst hE
    have hL0 := nil_of hL
    subst hL0
    rw [List.append_nil] at X'
    rw [h0, ← e1] at hh
    obtain ⟨t2, a1, b1⟩ := kx ce q T'.heap hh (by rw [e1]; exact hce) hcv hcl T' rfl X'
    exact ⟨t2, st.trans a1, b1⟩
theorem r_callXS {E : String} (F : CallFix p m c cc nL s args Ts own) (hM : vx_Met l y ws rm (va_Pc As Pr) FF (XQ E) 1 6 none_) (cw : CallB R s args own index y bytes maxL ret ws rm 1 6 n ∧ (Cond.static y).before args s = true) (hbl : ∀ U g mk a, Pr U → Pr (U.calling g mk a))
    (hpre : ∀ U : State, U.heap = H → s.WarmedH U.vm → Pr U) (hn : As.length = n) (hsize : ls.size = nL) (hst : st0 = As.reverse ++ rest) (hW : (rest.map fun v => v.category).sum ≤ 8)
    (hdg : decode cc pc = .ok (.invokestatic index, 3)) (hf : cells + 1 ≤ R.cells ∧ slots + 6 ≤ R.slots)
    (kx : ∀ (ce : Cell) (q9 : Addr) (H1 : Heap), hkep H H1 → H1[q9]? = some ce → ce.vm = .none → s.vm.findClass E = some ce.cls → vx_W p l e R s m args below meth c H1 locs (cells + 1) (slots + 6) Q (F0 m pc ls rest) q9) : W p l e R s m args below meth c H locs cells slots Q (F0 m pc ls st0) := by
  intro T hT X
  rcases vx_runS F hM cw ⟨fun a U g mk hq => ⟨hq.1, hbl U g mk a hq.2⟩, fun U hU hW => ⟨rfl, hpre U hU hW⟩⟩ (g := F0 m pc ls st0) rfl hn hsize hst (lv_room hW) hdg hf T hT X with ⟨v', st₀, t, T', L, h0, X', hL, e1, e2, hq, st⟩ | ⟨q, st₀, t, T', L, E', ce, h0, X', hL, e1, e2, ⟨hE, hh⟩, hce, hcv, hcl, st⟩
  · exact hq.elim
  · subst hE
    have hL0 := nil_of hL
    subst hL0
    rw [List.append_nil] at X'
    rw [h0, ← e1] at hh
    obtain ⟨t2, a1, b1⟩ := kx ce q T'.heap hh (by rw [e1]; exact hce) hcv hcl T' rfl X'
    exact ⟨t2, st.trans a1, b1⟩
/-- fields -/
theorem r_get {D : va_G} {wd : va_W} {tys : List (ClassId × FieldType)} {T : u_T} {N : Nat} {a : Nat} {fs : List Value} {v : Value} (F : CallFix p m c cc nL s args Ts own) (hin : ∀ w ∈ u_ws C T N, w ∈ Ts) (hK : va_K D vwCl tys s) (hP : va_P D vwCl wd H) (ci : Nat) (hc : vwCl[ci]? = some (C, T, N)) (k : Nat) (hk : k < N) (hm : Cond.fieldLink own index (T k).1 (T k).2.1 (T k).2.2.1 ∈ Ts) (he : wd[0]? = some (a, .inr (ci, fs))) (hv : fs[k]? = some v)
    (hdg : decode cc pc = .ok (.getfield index, 3)) (kk : W p l e R s m args below meth c H locs cells slots Q (F0 m (pc + 3) ls (v :: rest))) : W p l e R s m args below meth c H locs cells slots Q (F0 m pc ls (.ref a :: rest)) :=
  va_get F.1 F.2.1 F.2.2.2.2 hin F.2.2.2.1 hK hP 0 he hc k hk (F.2.2.2.2 _ hm) (fun _ h => h) hv hdg kk
theorem r_put {D : va_G} {wd : va_W} {tys : List (ClassId × FieldType)} {T : u_T} {N : Nat} {a : Nat} {fs : List Value} {x : Int32} {A : Nat → Prop} {H0 : Heap} (F : CallFix p m c cc nL s args Ts own) (hin : ∀ w ∈ u_ws C T N, w ∈ Ts) (ty0 : Nat → FieldType) (hty : ∀ k, k < N → parseFieldDescriptor (T k).2.2.1 = some (ty0 k)) (hnm : ∀ a, a < N → ∀ b, b < N → a ≠ b → (T a).2.1 ≠ (T b).2.1) (hK : va_K D vwCl tys s) (hP : va_P D vwCl wd H) (hD : va_D A wd) (hS : va_S A H0 H locs) (ci : Nat) (hc : vwCl[ci]? = some (C, T, N)) (k : Nat) (hk : k < N) (hm : Cond.fieldLink own index (T k).1 (T k).2.1 (T k).2.2.1 ∈ Ts) (hfin : (T k).2.2.2 = false) (hd : parseFieldDescriptor (T k).2.2.1 = some .int) (he : wd[0]? = some (a, .inr (ci, fs))) (hl : k < fs.length)
    (hdg : decode cc pc = .ok (.putfield index, 3)) (kk : ∀ (H1 : Heap) (locs1 : List Loc), va_P D vwCl (wd.set 0 (a, .inr (ci, fs.set k (.int x)))) H1 → va_S A H0 H1 locs1 → W p l e R s m args below meth c H1 locs1 cells slots Q (F0 m (pc + 3) ls rest)) : W p l e R s m args below meth c H locs cells slots Q (F0 m pc ls (.int x :: .ref a :: rest)) :=
  va_put F.1 F.2.1 F.2.2.2.2 hin ty0 hty hnm F.2.2.2.1 hK hP hD hS 0 he hc k hk (F.2.2.2.2 _ hm) (fun _ h => h) hfin hd rfl rfl hl hdg (fun H1 l1 h1 _ h3 => kk H1 l1 h1 h3)
/-- arrays, by an index that is a number -/
theorem r_iald {D : va_G} {wd : va_W} {tys : List (ClassId × FieldType)} {a N : Nat} {cA : ClassId} {f : Nat → Int32} (F : CallFix p m c cc nL s args Ts own) (hK : va_K D vwCl tys s) (hP : va_P D vwCl wd H) (q0 t0 : Nat) (ha : wd[q0]? = some (a, .inl (cA, N, .inl f))) (ht : tys[t0]? = some (cA, .int)) {i : Nat} (hi : i < N) (hN : N < 2 ^ 31) (hdg : decode cc pc = .ok (.iaload, 1))
    (kk : W p l e R s m args below meth c H locs cells slots Q (F0 m (pc + 1) ls (.int (f i) :: rest))) : W p l e R s m args below meth c H locs cells slots Q (F0 m pc ls (.int (nI i) :: .ref a :: rest)) := by
  refine va_iald F.1 F.2.1 hK hP q0 t0 ha ht (vp_in_nI hi hN) hdg ?_
  rw [nI_clamp (by omega)]
  exact kk
theorem r_zald {D : va_G} {wd : va_W} {tys : List (ClassId × FieldType)} {a N : Nat} {cA : ClassId} {f : Nat → Int32} (F : CallFix p m c cc nL s args Ts own) (hK : va_K D vwCl tys s) (hP : va_P D vwCl wd H) (q0 t0 : Nat) (ha : wd[q0]? = some (a, .inl (cA, N, .inl f))) (ht : tys[t0]? = some (cA, .boolean)) {i : Nat} (hi : i < N) (hN : N < 2 ^ 31) (hdg : decode cc pc = .ok (.baload, 1))
    (kk : W p l e R s m args below meth c H locs cells slots Q (F0 m (pc + 1) ls (.int (f i) :: rest))) : W p l e R s m args below meth c H locs cells slots Q (F0 m pc ls (.int (nI i) :: .ref a :: rest)) := by
  refine va_zald F.1 F.2.1 hK hP q0 t0 ha ht (vp_in_nI hi hN) hdg ?_
  rw [nI_clamp (by omega)]
  exact kk
theorem r_iast {D : va_G} {wd : va_W} {tys : List (ClassId × FieldType)} {a N : Nat} {cA : ClassId} {f : Nat → Int32} {x : Int32} {A : Nat → Prop} {H0 : Heap} (F : CallFix p m c cc nL s args Ts own) (hK : va_K D vwCl tys s) (hP : va_P D vwCl wd H) (hD : va_D A wd) (hS : va_S A H0 H locs) (q0 t0 : Nat) (ha : wd[q0]? = some (a, .inl (cA, N, .inl f))) (ht : tys[t0]? = some (cA, .int)) {i : Nat} (hi : i < N) (hN : N < 2 ^ 31) (hdg : decode cc pc = .ok (.iastore, 1))
    (kk : ∀ (H1 : Heap) (locs1 : List Loc), va_P D vwCl (wd.set q0 (a, .inl (cA, N, .inl (upd f i x)))) H1 → va_S A H0 H1 locs1 → W p l e R s m args below meth c H1 locs1 cells slots Q (F0 m (pc + 1) ls rest)) : W p l e R s m args below meth c H locs cells slots Q (F0 m pc ls (.int x :: .int (nI i) :: .ref a :: rest)) := by
  refine va_iast F.1 F.2.1 hK hP hD hS q0 t0 ha ht (vp_in_nI hi hN) hdg (fun H1 l1 h1 _ h3 => ?_)
  rw [nI_clamp (by omega)] at h1
  exact kk H1 l1 h1 h3
end ROWS
