/-! PART 36: what the law's own methods need: catching, both objects' cells. -/
section LAWR
/-- no more is needed of the throwables' classes -/
def NC (_ : State) : Prop := True
theorem NC.mv {s U : State} (_ : s.vm.Alike U.vm) (_ : NC s) : NC U := trivial
def bg (sz : Nat) : Nat → Prop := fun a => sz ≤ a
variable {p : Program} {l : Launch} {e : Env} {R : Room} {s : State} {m : MethodId} {args : Array Value} {below : List Frame} {meth : Method} {c : Code} {H : Heap} {locs : List Loc} {cells slots : Nat} {Q : State → Prop}
variable {y : MethodName} {bytes cc : ByteArray} {maxL nL mc ms n index pc : Nat} {ret : Option FieldType} {ws : List Cond} {rm : Room} {Ts : List Cond} {own C : String} {b : Nat} {As rest st0 : List Value} {ls : Array Slot} {Pr : State → Prop}
variable {D : va_G} {ci cz : ClassId} {cj : ClassId × ClassId} {q : Nat → Nat} {sz : Nat} {A : Nat → Nat} {F P : Nat} {g : Nat → Nat → Int32}
theorem Met.ofLM {hh : List (Nat × Nat × Nat × Nat)} {ws' : List Cond} {av : List Value} {Qc : Array Value → State → Outcome → State → Prop} {Ad : Nat → Prop} (hy : plainName y.cls = true) (hw : ws = Cond.codeWith y cc maxL ret hh :: ws') (hlen : (lg_sl av).length ≤ maxL)
    (body : ∀ (p : Program) (e : Env) (s : State) (m : MethodId) (below : List Frame) (meth : Method) (c : Code) (ls : Array Slot), CallFix p m c cc maxL s av.toArray ws y.cls → meth.sig.returnType = ret → meth.locks = false → c.exceptionTable.toList = tableOf hh → Pr s → lv_has ls maxL (lv_args 0 av) →
      W p l e rm s m av.toArray below meth c s.heap [] 0 0 (MQ below Qc av.toArray s mc ms Ad) (F0 m 0 ls [])) : Met l y ws rm (va_Pc av Pr) Qc mc ms Ad := by
  refine MetFree.of_bodyS (code := cc) (maxLocals := maxL) (ret := ret) hy ?_ ?_
  · intro args s m h hn
    obtain ⟨m9, meth, c, hn9, h1, h2, h3, h4, -, h5, h6, -⟩ := Cond.codeWith_spec (atoms_spec (ws := ws) h _ (by rw [hw]; exact List.mem_cons_self))
    cases hn.symm.trans hn9
    exact ⟨meth, c, h1, h2, h3, h4, h5, h6⟩
  · intro p e s m args below meth c s₁ B hml hv _
    have hh0 : s₁.heap = s.heap := by rw [B.state]; rfl
    have htab : c.exceptionTable.toList = tableOf hh := vx_table (x := y) B (atoms_spec (ws := ws) B.pre _ (by rw [hw]; exact List.mem_cons_self))
    obtain ⟨rfl, hv⟩ := hv
    have hb := body p e s m below meth c _ ⟨B.exec, B.bytes, hml, findClass_of_methodNamed B.named, atoms_spec (ws := ws) B.pre⟩ B.returns B.notSynchronized htab hv (lv_entry av hlen)
    rw [← lg_entry_eq] at hb
    obtain ⟨t, a1, o, b1, b2, b3⟩ := hb s₁ hh0 (Stand.of_body B)
    exact ⟨t, o, a1, b1, b2, ⟨b3.1, b3.2⟩⟩
/-- a call of a method of the face, which returns or throws -/
theorem r_callT {v : Option Value} {P1 : Heap → Prop} {Ad A0 : Nat → Prop} {H0 : Heap} {k : Nat} {xs : List String} (F : CallFix p m c cc nL s args Ts own) (hM : vx_Met l y ws rm (va_Pc (.ref b :: As) Pr) (PQ k v P1 Ad) (PX k xs) 1 6 Ad) (cw : CallW R s args own C index y bytes maxL ret ws rm 1 6 n) (hbl : ∀ U g mk a, Pr U → Pr (U.calling g mk a))
    (hrec : ∃ cellB : Cell, H[b]? = some cellB ∧ cellB.vm.isStatics = false ∧ s.vm.findClass C = some cellB.cls) (hpre : ∀ U : State, U.heap = H → s.WarmedH U.vm → Pr U) (hn : As.length = n) (hsize : ls.size = nL) (hst : st0 = As.reverse ++ .ref b :: rest) (hW : (rest.map fun v => v.category).sum ≤ 8)
    (hdg : decode cc pc = .ok (.invokevirtual index, 3)) (hf : cells + 1 ≤ R.cells ∧ slots + 6 ≤ R.slots) (hS : va_S A0 H0 H locs) (hA : ∀ q, Ad q → A0 q)
    (kk : ∀ (H1 : Heap) (locs1 : List Loc), k = 0 → P1 H1 → KP Ad H H1 → va_S A0 H0 H1 locs1 → W p l e R s m args below meth c H1 locs1 (cells + 1) (slots + 6) Q (F0 m (pc + 3) ls (v.toList ++ rest)))
    (kx : ∀ (j : Nat) (E : String) (ce : Cell) (q9 : Addr) (H1 : Heap) (locs1 : List Loc), k = j + 1 → xs[j]? = some E → hkep H H1 → va_S A0 H0 H1 locs1 → H1[q9]? = some ce → ce.vm = .none → s.vm.findClass E = some ce.cls → vx_W p l e R s m args below meth c H1 locs1 (cells + 1) (slots + 6) Q (F0 m pc ls rest) q9) : W p l e R s m args below meth c H locs cells slots Q (F0 m pc ls st0) := by
  intro T hT X
  rcases vx_runV F hM cw ⟨fun a U g mk hq => ⟨hq.1, hbl U g mk a hq.2⟩, hrec, fun U hU hW => ⟨rfl, hpre U hU hW⟩⟩ (g := F0 m pc ls st0) rfl hn hsize hst (lv_room hW) hdg hf T hT X with ⟨v', st₀, t, T', L, h0, X', hL, e1, e2, ⟨hk, hv, hp, hF⟩, st⟩ | ⟨q, st₀, t, T', L, E', ce, h0, X', hL, e1, e2, ⟨⟨j, hj, hE⟩, hh⟩, hce, hcv, hcl, st⟩
  · cases hv
    obtain ⟨k1, k2, k3⟩ := vx_keep h0 e1 hS (fun q _ h => hA q h) hA hL hF
    obtain ⟨t2, a1, b1⟩ := kk T'.heap (locs ++ L) hk (by rw [e1]; exact hp) ⟨k1, k2⟩ k3 T' rfl X'
    exact ⟨t2, st t2 a1, b1⟩
  · obtain ⟨k1, k2, k3⟩ := vx_keep (A1 := Ad) h0 e1 hS (fun q _ h => hA q h) hA hL ⟨hh.1, fun q h _ => hh.2 q h⟩
    rw [h0, ← e1] at hh
    obtain ⟨t2, a1, b1⟩ := kx j E' ce q T'.heap (locs ++ L) hj hE hh k3 (by rw [e1]; exact hce) hcv hcl T' rfl X'
    exact ⟨t2, st.trans a1, b1⟩
/-- an IllegalStateException, where every row of the table is for it: by the first row that covers the place -/
theorem l_ise {Ae : Nat → Prop} {hh : List (Nat × Nat × Nat × Nat)} {ce : Cell} {q9 : Addr} {i k : Nat} (j : Nat) (F : CallFix p m c cc nL s args Ts own) (hE : EV Ae s s.heap) (htab : c.exceptionTable.toList = tableOf hh) (hk0 : k ≠ 0) (hlk : Cond.classLink own k xIS ∈ Ts)
    (hx : hh[j]? = some (i, n, b, k)) (hcov : covers ⟨i, n, b, k⟩ pc = true) (hno : ∀ z ∈ hh.take j, covers ⟨z.1, z.2.1, z.2.2.1, z.2.2.2⟩ pc = false)
    (hcell : H[q9]? = some ce) (hv : ce.vm = .none) (hcl : s.vm.findClass xIS = some ce.cls) (kk : W p l e R s m args below meth c H locs cells slots Q (F0 m b ls [.ref q9])) : vx_W p l e R s m args below meth c H locs cells slots Q (F0 m pc ls rest) q9 := by
  obtain ⟨hjh, ejh⟩ := List.getElem?_eq_some_iff.mp hx
  have hE9 : xIS ∈ exs3 := by decide
  refine vx_catch F.2.2.2.1 (tableOf (hh.take j)) ⟨i, n, b, k⟩ (tableOf (hh.drop (j + 1))) (name := xIS) (E := xIS) (ce := ce) ?_ ?_ hcov hk0 (F.2.2.2.2 _ hlk) (va_Nw.use rfl (hE.2.1.1 _ hE9)) hcell hv hcl kk
  · rw [htab]
    have h1 : hh = hh.take j ++ (i, n, b, k) :: hh.drop (j + 1) := by rw [← ejh, List.getElem_cons_drop, List.take_append_drop]
    unfold tableOf
    conv => lhs; rw [h1]
    rw [List.map_append, List.map_cons]
  · intro z hz9
    obtain ⟨r, hr, rfl⟩ := List.mem_map.mp hz9
    exact Or.inl (hno r hr)
/-- both objects -/
def LH (D : va_G) (ci cz : ClassId) (cj : ClassId × ClassId) (q : Nat → Nat) (A : Nat → Nat) (F P : Nat) (g : Nat → Nat → Int32) (H : Heap) : Prop := va_P D vwCl (w0 ci cz q F P g) H ∧ SS D ci cj A F P g H
/-- the surroundings of the law's methods -/
def EL (D : va_G) (ci cz : ClassId) (cj : ClassId × ClassId) (sz : Nat) (U : State) : Prop := va_K D vwCl (tyL ci cz cj) U ∧ EV (bg sz) U U.heap ∧ NC U
theorem EV.at (hE : EV (bg sz) s s.heap) (hS : va_S (bg sz) s.heap H locs) (U : State) (hU : U.heap = H) (hW : s.WarmedH U.vm) : EV (bg sz) U U.heap := EV.mv hW hE (fun a h1 h2 => by rw [hU]; exact hS.2.1 a h1 h2)
theorem EL.bl (U : State) (fr : JFrame) (mk : MethodId) (a : Array Value) (h : EL D ci cz cj sz U) : EL D ci cz cj sz (U.calling fr mk a) :=
  ⟨va_K.moved (u := U) (U := U.calling fr mk a) (Vm.Alike.refl U.vm) h.1, EV.mv (s := U) (U := U.calling fr mk a) (State.WarmedH.refl U) h.2.1 (fun _ _ _ => rfl), NC.mv (s := U) (U := U.calling fr mk a) (Vm.Alike.refl U.vm) h.2.2⟩
theorem EL.at (h : EL D ci cz cj sz s) (hS : va_S (bg sz) s.heap H locs) (U : State) (hU : U.heap = H) (hW : s.WarmedH U.vm) : EL D ci cz cj sz U := ⟨va_K.moved hW.alike h.1, EV.at h.2.1 hS U hU hW, NC.mv hW.alike h.2.2⟩
theorem EL.dr (h : EL D ci cz cj sz s) (d : Drawn) : EL D ci cz cj sz (s.setDrawn d) := ⟨h.1, h.2.1.dr d, trivial⟩
theorem bg_aw (hqs : ∀ k, k < 8 → sz ≤ q k) : ∀ a, aw q 8 a → bg sz a := by
  rintro a ⟨k, hk, rfl⟩
  exact hqs k hk
/-- the world of the one object, for a call -/
theorem BWb (hqs : ∀ k, k < 8 → sz ≤ q k) (hP : va_P D vwCl (w0 ci cz q F P g) H) (hL : EL D ci cz cj sz s) (hS : va_S (bg sz) s.heap H locs) (U : State) (hU : U.heap = H) (hW : s.WarmedH U.vm) : B0 D ci cz cj q F P g U :=
  ⟨by rw [hU]; exact hP, va_K.moved hW.alike hL.1, (EV.at hL.2.1 hS U hU hW).nar (bg_aw hqs)⟩
theorem q_lt (hP : va_P D vwCl (w0 ci cz q F P g) H) : ∀ k, k < 8 → q k < H.size := fun k hk => by
  obtain ⟨e, he⟩ := w0r_at (ci := ci) (cz := cz) (q := q) (F := F) (P := P) (al := alv P (g 3)) (g := g) hk
  exact (hP k (q k, e) he).lt
/-- a change of the one leaves the other -/
theorem SS_m {H1 : Heap} (hAD : AD q sz A F P) (h : SS D ci cj A F P g H) (hk : KP (aw q 8) H H1) : SS D ci cj A F P g H1 := h.mv hk (fun k hV => by
  rintro ⟨j, hj, e⟩
  exact (hAD.2 k hV).2 j hj e)
theorem w0_s {F' P' : Nat} {g' : Nat → Nat → Int32} {H1 : Heap} (hAD : AD q sz A F P) (h : va_P D vwCl (w0 ci cz q F' P' g') H) (hk : KP (SA A F P) H H1) : va_P D vwCl (w0 ci cz q F' P' g') H1 := hk.P h (fun k r hr => by
  rintro ⟨j, hj, e⟩
  obtain ⟨h1, h2⟩ := w0r_fst hr
  exact (hAD.2 j hj).2 k h1 (by rw [← e, h2]))
theorem w0_f {F' P' : Nat} {g' : Nat → Nat → Int32} {H1 : Heap} {hz : Nat} (hAD : AD q sz A F P) (h : va_P D vwCl (w0 ci cz q F' P' g') H) (hz9 : H.size ≤ hz) (hk : KP (fun a => a = A 0 ∨ hz ≤ a) H H1) : va_P D vwCl (w0 ci cz q F' P' g') H1 := hk.P h (fun k r hr => by
  have hlt := (h k r hr).lt
  obtain ⟨h1, h2⟩ := w0r_fst hr
  rintro (e | e)
  · exact (hAD.2 0 sV0).2 k h1 (by rw [← e, h2])
  · omega)
theorem w0_d {F' P' : Nat} {g' : Nat → Nat → Int32} {H1 : Heap} {hz : Nat} (hAD : AD q sz A F P) (h : va_P D vwCl (w0 ci cz q F' P' g') H) (hz9 : H.size ≤ hz) (hk : KP (fun a => SA A F P a ∨ hz ≤ a) H H1) : va_P D vwCl (w0 ci cz q F' P' g') H1 := hk.P h (fun k r hr => by
  have hlt := (h k r hr).lt
  obtain ⟨h1, h2⟩ := w0r_fst hr
  rintro (⟨j, hj, e⟩ | e)
  · exact (hAD.2 j hj).2 k h1 (by rw [← e, h2])
  · omega)
theorem w0_n' {F' P' : Nat} {g' : Nat → Nat → Int32} {H1 : Heap} {hz : Nat} (h : va_P D vwCl (w0 ci cz q F' P' g') H) (hz9 : H.size ≤ hz) (hk : KP (new_ hz) H H1) : va_P D vwCl (w0 ci cz q F' P' g') H1 := hk.P h (fun k r hr z => by
  have hlt := (h k r hr).lt
  have z : hz ≤ r.1 := z
  omega)
theorem P_all {ws : va_W} {H H1 : Heap} (h : va_P D vwCl ws H) (hk : hkep H H1) : va_P D vwCl ws H1 := h.kept (fun k r hr => hk.2 _ (h k r hr).lt)
theorem bg_f {hz : Nat} (hAD : AD q sz A F P) (hz8 : sz ≤ hz) : ∀ q9, (q9 = A 0 ∨ hz ≤ q9) → bg sz q9 := by
  rintro q9 (h9 | h9)
  · rw [h9]; exact (hAD.2 0 sV0).1
  · exact Nat.le_trans hz8 h9
theorem bg_d {hz : Nat} (hAD : AD q sz A F P) (hz8 : sz ≤ hz) : ∀ q9, (SA A F P q9 ∨ hz ≤ q9) → bg sz q9 := by
  rintro q9 (⟨j, hj, h9⟩ | h9)
  · rw [h9]; exact (hAD.2 j hj).1
  · exact Nat.le_trans hz8 h9
/-- what below answers -/
def bw (v : Int32) (n : Nat) : Nat := ix (v &&& 2147483647) % n
theorem bw_lt {v : Int32} {n : Nat} (h : 0 < n) : bw v n < n := Nat.mod_lt _ h
theorem bw_irem (v : Int32) {n : Nat} (h : 0 < n) (hn : n < 2 ^ 31) : (v &&& 2147483647) - (v &&& 2147483647) / nI n * nI n = nI (bw v n) := by
  obtain ⟨j, hj, e⟩ := pk_andE v (m := 2147483647) 31 (by decide)
  unfold bw
  rw [e, ix_nI hj, pk_div hj h hn, pk_mul, pk_sub (Nat.div_mul_le_self _ _)]
  congr 1
  have := Nat.div_add_mod j n
  rw [Nat.mul_comm] at this
  omega
/-- what cell answers -/
def cV (xs : Nat → Int32) (L : Nat) (k : Nat) : Int32 := if k < L then xs k else 790386105 * nI (k + 3)
theorem bI_a1 (b : Bool) : bI b &&& nI 1 = bI b := by cases b <;> decide
theorem bI_a0 (b : Bool) : bI b &&& nI 0 = nI 0 := by cases b <;> decide
theorem bI_not (b : Bool) : b = true ∨ b = false := by cases b <;> simp
end LAWR
