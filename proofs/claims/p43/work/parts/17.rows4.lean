/-! PART 17: methods that may draw (a quotient of doubles), constructors. -/
section DRAWS
def mC (g : Nat → Nat → Int32) (P : Nat) : UInt64 := if sLiv g P = 0 then FP.dconst0 else FP.ddiv (FP.i2d (csm (fun z => lv g z) (fun z => g 4 z) P)) (FP.i2d (nI (sLiv g P)))
/-- ends with a double that is x, or a NaN where x is one -/
def DQd (x : UInt64) (P1 : Heap → Prop) (Ad : Nat → Prop) : Array Value → State → Outcome → State → Prop := fun _ st o t => ∃ r : UInt64, o = .returned (some (.double r)) ∧ alike64 r x = true ∧ P1 t.heap ∧ va_F Ad st t
variable {p : Program} {l : Launch} {e : Env} {R : Room} {s : State} {m : MethodId} {args : Array Value} {below : List Frame} {meth : Method} {c : Code} {H : Heap} {locs : List Loc} {cells slots : Nat} {Q : State → Prop}
variable {y : MethodName} {bytes cc : ByteArray} {maxL nL mc ms n index pc : Nat} {ret : Option FieldType} {ws : List Cond} {rm : Room} {Ts : List Cond} {own C : String} {b : Nat} {As rest st0 : List Value} {ls : Array Slot} {Pr : State → Prop}
theorem MetD.ofD {ws' : List Cond} {av : List Value} {x : UInt64} {P1 : Heap → Prop} {Ad : Nat → Prop} (hy : plainName y.cls = true) (hw : ws = Cond.code y cc maxL ret :: ws') (hlen : (lg_sl av).length ≤ maxL)
    (body : ∀ (p : Program) (e : Env) (s : State) (m : MethodId) (below : List Frame) (meth : Method) (c : Code) (ls : Array Slot), CallFix p m c cc maxL (s.setDrawn s.drawn) av.toArray ws y.cls → meth.sig.returnType = ret → meth.locks = false → Pr s → s.drawn.sameBut s.drawn lw_cs → lv_has ls maxL (lv_args 0 av) →
      W p l e rm (s.setDrawn s.drawn) m av.toArray below meth c s.heap [] 0 0 (MQD lw_cs below (DQd x P1 Ad) av.toArray s 0 0 Ad) (F0 m 0 ls [])) : MetD lw_cs l y ws rm (va_Pc av Pr) (DQd x P1 Ad) 0 0 Ad := by
  refine MetD.ofW (cc := cc) (maxL := maxL) (ret := ret) hy hw ?_
  intro p e s m args below meth c s₁ B hml hv hd0
  obtain ⟨rfl, hv⟩ := hv
  rw [lg_entry_eq]
  exact body p e s m below meth c _ ⟨B.exec, B.bytes, hml, findClass_of_methodNamed B.named, dr_words (atoms_spec (ws := ws) B.pre) _⟩ B.returns B.notSynchronized hv hd0 (lv_entry av hlen)
theorem d_dret {r x : UInt64} {d1 : Drawn} {P1 : Heap → Prop} {Ad : Nat → Prop} (hd1 : s.drawn.sameBut d1 lw_cs) (hexec : p.tables.exec = Jvm.exec) (hb : c.code = cc) (hr : meth.sig.returnType = some .double) (hlocks : meth.locks = false) (hS : va_S Ad s.heap H locs) (hp : P1 H) (h : alike64 r x = true) (hdg : decode cc pc = .ok (.dreturn, 1)) :
    W p l e R (s.setDrawn d1) m args below meth c H locs 0 0 (MQD lw_cs below (DQd x P1 Ad) args s 0 0 Ad) (F0 m pc ls [.double r]) := by
  refine W.endD hd1 ?_
  exact W.dret hexec hb hr (fun t ht _ => ⟨r, rfl, h, by rw [ht]; exact hp, hS.F ht⟩) hS.2.2 hdg hlocks
theorem EV.dr {A : Nat → Prop} {s : State} {H : Heap} (h : EV A s H) (d : Drawn) : EV A (s.setDrawn d) H := EV.mv (s := s) (U := s.setDrawn d) (State.WarmedH.refl s) h (fun _ _ _ => rfl)
/-- a call of such a method -/
theorem r_callD {d0 : Drawn} {x : UInt64} {P1 : Heap → Prop} {Ad A0 : Nat → Prop} {H0 : Heap} (hd0 : s.drawn.sameBut d0 lw_cs) (F : CallFix p m c cc nL (s.setDrawn d0) args Ts own) (hM : MetD lw_cs l y ws rm (va_Pc (.ref b :: As) Pr) (DQd x P1 Ad) 0 0 Ad) (cw : CallW R (s.setDrawn d0) args own C index y bytes maxL ret ws rm 0 0 n) (hbl : ∀ U g mk a, Pr U → Pr (U.calling g mk a))
    (hrec : ∃ cellB : Cell, H[b]? = some cellB ∧ cellB.vm.isStatics = false ∧ s.vm.findClass C = some cellB.cls) (hpre : ∀ U : State, U.heap = H → s.WarmedH U.vm → Pr U) (hn : As.length = n) (hsize : ls.size = nL) (hst : st0 = As.reverse ++ .ref b :: rest) (hW : (rest.map fun v => v.category).sum ≤ 8)
    (hdg : decode cc pc = .ok (.invokevirtual index, 3)) (hf : cells ≤ R.cells ∧ slots ≤ R.slots) (hS : va_S A0 H0 H locs) (hA : ∀ q, Ad q → A0 q)
    (kk : ∀ (r : UInt64) (d1 : Drawn) (H1 : Heap) (locs1 : List Loc), alike64 r x = true → s.drawn.sameBut d1 lw_cs → P1 H1 → va_S A0 H0 H1 locs1 → H.size ≤ H1.size → (∀ q : Nat, q < H.size → ¬ Ad q → H1[q]? = H[q]?) → W p l e R (s.setDrawn d1) m args below meth c H1 locs1 cells slots Q (F0 m (pc + 3) ls (.double r :: rest))) : W p l e R (s.setDrawn d0) m args below meth c H locs cells slots Q (F0 m pc ls st0) := by
  have hM' : MetD lw_cs l y ws rm (va_Pc (.ref b :: As) Pr) (va_Qd (fun r (_ : Unit) => alike64 r x = true) (fun _ t => P1 t.heap) Ad) 0 0 Ad := by
    intro p e ha hc hk s m args below hf happ hP hK
    obtain ⟨n, o, h1, h2, h3, d, h4, ⟨r, h5, h6, h7, h8⟩, L, h9, h10⟩ := hM p e ha hc hk s m args below hf happ hP hK
    exact ⟨n, o, h1, h2, h3, d, h4, ⟨⟨r, (), h5, h6, h7⟩, h8⟩, L, h9, h10⟩
  refine va_calldD hd0 (va_runV_D F hM' cw ⟨fun a U g mk hq => ⟨hq.1, hbl U g mk a hq.2⟩, hrec, fun U hU hW => ⟨rfl, hpre U hU hW⟩⟩ rfl hn hsize hst (lv_room hW) hdg hf) hS (fun q _ h => hA q h) hA (fun r u t H1 locs1 ht hvm hw hB hz hk hS d1 hd1 => ?_)
  exact kk r d1 H1 locs1 hw hd1 (by rw [← ht]; exact hB) hS hz hk
end DRAWS
section MAKE
theorem alv_0 {d : Nat → Int32} : alv 0 d = fun _ => 0 := by
  funext z
  simp [alv]
theorem w0r_at {ci cz : ClassId} {q : Nat → Nat} {F P : Nat} {al : Nat → Int32} {g : Nat → Nat → Int32} {k : Nat} (h : k < 8) : ∃ e, (w0r ci cz q F P al g)[k]? = some (q k, e) := by
  rcases (show k = 0 ∨ k = 1 ∨ k = 2 ∨ k = 3 ∨ k = 4 ∨ k = 5 ∨ k = 6 ∨ k = 7 by omega) with rfl | rfl | rfl | rfl | rfl | rfl | rfl | rfl <;> exact ⟨_, rfl⟩
theorem dq_of {A : Nat → Prop} {ws : va_W} {q : Nat → Nat} {N : Nat} (hD : va_D A ws) (h : ∀ k, k < N → ∃ e, ws[k]? = some (q k, e)) : DQ q N := by
  intro i j hi hj hij
  obtain ⟨e1, h1⟩ := h i hi
  obtain ⟨e2, h2⟩ := h j hj
  exact hD.1 i j _ _ h1 h2 hij
theorem new_of {sz h0 N : Nat} {ws : va_W} {q : Nat → Nat} (hD : va_D (fun a => a = h0 ∨ sz ≤ a) ws) (h : ∀ k, k < N → ∃ e, ws[k]? = some (q k, e)) (h0q : q 0 = h0) : ∀ k, 1 ≤ k → k < N → sz ≤ q k := by
  intro k h1 h2
  obtain ⟨e1, g1⟩ := h k h2
  rcases hD.2 k _ g1 with g | g
  · have := dq_of hD h k 0 h2 (by omega) (by rw [h0q]; exact g)
    omega
  · exact g
theorem ra_eqI {D : va_G} {tys : List (ClassId × FieldType)} {s : State} {c1 c2 : ClassId} (hK : va_K D vwCl tys s) (i j : Nat) (h1 : tys[i]? = some (c1, .int)) (h2 : tys[j]? = some (c2, .int)) : c1 = c2 := Option.some.inj ((hK.2 i _ h1).2.symm.trans (hK.2 j _ h2).2)
theorem ra_eqZ {D : va_G} {tys : List (ClassId × FieldType)} {s : State} {c1 c2 : ClassId} (hK : va_K D vwCl tys s) (i j : Nat) (h1 : tys[i]? = some (c1, .boolean)) (h2 : tys[j]? = some (c2, .boolean)) : c1 = c2 := Option.some.inj ((hK.2 i _ h1).2.symm.trans (hK.2 j _ h2).2)
end MAKE
