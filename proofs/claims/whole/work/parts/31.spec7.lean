/-! PART 31: the law's own catching methods: what they need, what they leave, the rows for a call that may throw, and for what it throws. -/
section CATCH
/-- the one long into which an answer is put -/
def wo (cj : ClassId) (ob : Nat) (f : Nat → Int64) : va_W := [(ob, .inl (cj, 1, .inr (.inl f)))]
def NC (U : State) : Prop := ∀ x ∈ exs3, ∀ y ∈ exs3, x ≠ y → va_Nc x y U
theorem NC.mv {s U : State} (hvm : s.vm.Alike U.vm) (h : NC s) : NC U := fun x hx y hy n => (h x hx y hy n).moved hvm
def qo (q : Nat → Nat) (ob : Nat) : Nat → Nat := fun k => if k = 8 then ob else q k
theorem qo_8 {q : Nat → Nat} {ob : Nat} : qo q ob 8 = ob := rfl
theorem qo_l {q : Nat → Nat} {ob k : Nat} (h : k < 8) : qo q ob k = q k := if_neg (by omega)
theorem qo_q {q : Nat → Nat} {ob : Nat} (h : DQ (qo q ob) 9) : DQ q 8 := fun i j hi hj e => h i j (by omega) (by omega) (by rw [qo_l hi, qo_l hj]; exact e)
theorem qo_n {q : Nat → Nat} {ob : Nat} (h : DQ (qo q ob) 9) {k : Nat} (hk : k < 8) : q k ≠ ob := fun e => absurd (h k 8 (by omega) (by omega) (by rw [qo_l hk, e]; rfl)) (by omega)
theorem aw_o {q : Nat → Nat} {ob a : Nat} (h : aw q 8 a) : aw (qo q ob) 9 a := by
  obtain ⟨k, hk, e⟩ := h
  exact ⟨k, by omega, by rw [qo_l hk]; exact e⟩
theorem aw_b {q : Nat → Nat} {ob : Nat} : aw (qo q ob) 9 ob := ⟨8, by omega, rfl⟩
def BL (D : va_G) (ci cz cj : ClassId) (q : Nat → Nat) (F P : Nat) (g : Nat → Nat → Int32) (ob : Nat) (f : Nat → Int64) : State → Prop := fun U => B0 D ci cz cj q F P g U ∧ NC U ∧ va_P D vwCl (wo cj ob f) U.heap
def LQ (D : va_G) (cj : ClassId) (ob : Nat) (ws : va_W) (K : Nat) (x : Int64) : Heap → Prop := fun H => va_P D vwCl ws H ∧ ∃ f, va_P D vwCl (wo cj ob f) H ∧ (K = 0 → f 0 = x)
def bL (b : Bool) : Int64 := if b then 1 else 0
variable {p : Program} {l : Launch} {e : Env} {R : Room} {s : State} {m : MethodId} {args : Array Value} {below : List Frame} {meth : Method} {c : Code} {H : Heap} {locs : List Loc} {cells slots : Nat} {Q : State → Prop}
variable {y : MethodName} {bytes cc : ByteArray} {maxL nL mc ms n index pc : Nat} {ret : Option FieldType} {ws : List Cond} {rm : Room} {Ts : List Cond} {own C : String} {b : Nat} {As rest st0 : List Value} {ls : Array Slot} {Pr : State → Prop}
variable {D : va_G} {ci cz cj : ClassId} {q : Nat → Nat} {F P : Nat} {g : Nat → Nat → Int32} {ob : Nat} {f : Nat → Int64}
theorem dqo (hq : DQ (qo q ob) 9) : va_D (aw (qo q ob) 9) (w0 ci cz q F P g ++ wo cj ob f) := dst hq fun k r h => by
  have hk : k < 9 := (List.getElem?_eq_some_iff.mp h).1
  refine ⟨hk, ?_⟩
  rcases (show k = 0 ∨ k = 1 ∨ k = 2 ∨ k = 3 ∨ k = 4 ∨ k = 5 ∨ k = 6 ∨ k = 7 ∨ k = 8 by omega) with rfl | rfl | rfl | rfl | rfl | rfl | rfl | rfl | rfl <;> exact (congrArg Prod.fst (Option.some.inj h)).symm
theorem P_stay {ws : va_W} {H H1 : Heap} {Ad : Nat → Prop} (h : va_P D vwCl ws H) (hk : ∀ q : Nat, q < H.size → ¬ Ad q → H1[q]? = H[q]?) (hn : ∀ (k : Nat) (r : Nat × va_E), ws[k]? = some r → ¬ Ad r.1) : va_P D vwCl ws H1 := h.kept (fun k r hr => hk _ (h k r hr).lt (hn k r hr))
theorem P_all {ws : va_W} {H H1 : Heap} (h : va_P D vwCl ws H) (hk : hkep H H1) : va_P D vwCl ws H1 := h.kept (fun k r hr => hk.2 _ (h k r hr).lt)
theorem wo_fst {k : Nat} {r : Nat × va_E} (h : (wo cj ob f)[k]? = some r) : r.1 = ob := by
  have hk : k < 1 := (List.getElem?_eq_some_iff.mp h).1
  obtain rfl : k = 0 := by omega
  exact (congrArg Prod.fst (Option.some.inj h)).symm
theorem wo_n (hq : DQ (qo q ob) 9) : ∀ (k : Nat) (r : Nat × va_E), (wo cj ob f)[k]? = some r → ¬ aw q 8 r.1 := by
  rintro k r h ⟨j, hj, e⟩
  exact qo_n hq hj (by rw [← e, wo_fst h])
theorem w0_0 {H : Heap} {F' P' k : Nat} {g' : Nat → Nat → Int32} (h : k = 0) (hP : va_P D vwCl (w0 ci cz q F' P' g') H) : va_P D vwCl (w0 ci cz q (sF k F' F) (sF k P' P) (sF k g' g)) H := by rw [h]; exact hP
theorem w0_n {H : Heap} {F' P' k : Nat} {g' : Nat → Nat → Int32} (j : Nat) (h : k = j + 1) (hP : va_P D vwCl (w0 ci cz q F P g) H) : va_P D vwCl (w0 ci cz q (sF k F' F) (sF k P' P) (sF k g' g)) H := by rw [h]; exact hP
theorem Met.ofL {hh : List (Nat × Nat × Nat × Nat)} {ws' : List Cond} {av : List Value} {v : Option Value} {P1 : Heap → Prop} {Ad : Nat → Prop} (hy : plainName y.cls = true) (hw : ws = Cond.codeWith y cc maxL ret hh :: ws') (hlen : (lg_sl av).length ≤ maxL)
    (body : ∀ (p : Program) (e : Env) (s : State) (m : MethodId) (below : List Frame) (meth : Method) (c : Code) (ls : Array Slot), CallFix p m c cc maxL s av.toArray ws y.cls → meth.sig.returnType = ret → meth.locks = false → c.exceptionTable.toList = tableOf hh → Pr s → lv_has ls maxL (lv_args 0 av) →
      W p l e rm s m av.toArray below meth c s.heap [] 0 0 (MQ below (WQ v P1 Ad) av.toArray s 1 6 Ad) (F0 m 0 ls [])) : Met l y ws rm (va_Pc av Pr) (WQ v P1 Ad) 1 6 Ad := by
  refine MetFree.of_bodyS (code := cc) (maxLocals := maxL) (ret := ret) hy ?_ ?_
  · intro args s m h hn
    obtain ⟨m9, meth, c, hn9, h1, h2, h3, h4, -, h5, h6, -⟩ := Cond.codeWith_spec (atoms_spec (ws := ws) h _ (by rw [hw]; exact List.mem_cons_self))
    cases hn.symm.trans hn9
    exact ⟨meth, c, h1, h2, h3, h4, h5, h6⟩
  · intro p e s m args below meth c s₁ B hml hv _
    have hh0 : s₁.heap = s.heap := by rw [B.state]; rfl
    have htab : c.exceptionTable.toList = tableOf hh := vx_table (x := y) B (atoms_spec (ws := ws) B.pre _ (by rw [hw]; exact List.mem_cons_self))
    obtain ⟨rfl, hv⟩ := hv
    have hb := body p e s m below meth c _ ⟨B.exec, B.bytes, hml, findClass_of_methodNamed B.named, atoms_spec (ws := ws) B.pre⟩ B.returns B.notSynchronized htab hv (lv_entry av hlen)
    rw [← lg_entry_eq] at hb
    obtain ⟨t, a1, o, b1, b2, b3⟩ := hb s₁ hh0 (Stand.of_body B)
    exact ⟨t, o, a1, b1, b2, ⟨b3.1, b3.2⟩⟩
/-- a call of a method of the face, which returns or throws -/
theorem r_callT {v : Option Value} {P1 : Heap → Prop} {Ad A0 : Nat → Prop} {H0 : Heap} {k : Nat} {xs : List String} (F : CallFix p m c cc nL s args Ts own) (hM : vx_Met l y ws rm (va_Pc (.ref b :: As) Pr) (PQ k v P1 Ad) (PX k xs) 1 6 Ad) (cw : CallW R s args own C index y bytes maxL ret ws rm 1 6 n) (hbl : ∀ U g mk a, Pr U → Pr (U.calling g mk a))
    (hrec : ∃ cellB : Cell, H[b]? = some cellB ∧ cellB.vm.isStatics = false ∧ s.vm.findClass C = some cellB.cls) (hpre : ∀ U : State, U.heap = H → s.WarmedH U.vm → Pr U) (hn : As.length = n) (hsize : ls.size = nL) (hst : st0 = As.reverse ++ .ref b :: rest) (hW : (rest.map fun v => v.category).sum ≤ 8)
    (hdg : decode cc pc = .ok (.invokevirtual index, 3)) (hf : cells + 1 ≤ R.cells ∧ slots + 6 ≤ R.slots) (hS : va_S A0 H0 H locs) (hA : ∀ q, Ad q → A0 q)
    (kk : ∀ (H1 : Heap) (locs1 : List Loc), k = 0 → P1 H1 → va_S A0 H0 H1 locs1 → (∀ q : Nat, q < H.size → ¬ Ad q → H1[q]? = H[q]?) → W p l e R s m args below meth c H1 locs1 (cells + 1) (slots + 6) Q (F0 m (pc + 3) ls (v.toList ++ rest)))
    (kx : ∀ (j : Nat) (E : String) (ce : Cell) (q9 : Addr) (H1 : Heap) (locs1 : List Loc), k = j + 1 → xs[j]? = some E → hkep H H1 → va_S A0 H0 H1 locs1 → H1[q9]? = some ce → ce.vm = .none → s.vm.findClass E = some ce.cls → vx_W p l e R s m args below meth c H1 locs1 (cells + 1) (slots + 6) Q (F0 m pc ls rest) q9) : W p l e R s m args below meth c H locs cells slots Q (F0 m pc ls st0) := by
  intro T hT X
  rcases vx_runV F hM cw ⟨fun a U g mk hq => ⟨hq.1, hbl U g mk a hq.2⟩, hrec, fun U hU hW => ⟨rfl, hpre U hU hW⟩⟩ (g := F0 m pc ls st0) rfl hn hsize hst (lv_room hW) hdg hf T hT X with ⟨v', st₀, t, T', L, h0, X', hL, e1, e2, ⟨hk, hv, hp, hF⟩, st⟩ | ⟨q, st₀, t, T', L, E', ce, h0, X', hL, e1, e2, ⟨⟨j, hj, hE⟩, hh⟩, hce, hcv, hcl, st⟩
  · cases hv
    obtain ⟨k1, k2, k3⟩ := vx_keep h0 e1 hS (fun q _ h => hA q h) hA hL hF
    obtain ⟨t2, a1, b1⟩ := kk T'.heap (locs ++ L) hk (by rw [e1]; exact hp) k3 k2 T' rfl X'
    exact ⟨t2, st t2 a1, b1⟩
  · obtain ⟨k1, k2, k3⟩ := vx_keep (A1 := Ad) h0 e1 hS (fun q _ h => hA q h) hA hL ⟨hh.1, fun q h _ => hh.2 q h⟩
    rw [h0, ← e1] at hh
    obtain ⟨t2, a1, b1⟩ := kx j E' ce q T'.heap (locs ++ L) hj hE hh k3 (by rw [e1]; exact hce) hcv hcl T' rfl X'
    exact ⟨t2, st.trans a1, b1⟩
/-- the j-th thing named by the table is caught by its j-th row -/
theorem l_catch {A : Nat → Prop} {xs : List String} {hh : List (Nat × Nat × Nat × Nat)} {E : String} {ce : Cell} {q9 : Addr} {x : Nat × Nat × Nat × Nat} (j : Nat) (F : CallFix p m c cc nL s args Ts own) (hE : EV A s s.heap) (hNC : NC s) (htab : c.exceptionTable.toList = tableOf hh) (hx : hh[j]? = some x) (hxs : xs[j]? = some E)
    (hlen : hh.length = xs.length) (hnd : ∀ i, i < j → xs[i]? ≠ xs[j]?) (hmem : ∀ z ∈ xs, z ∈ exs3) (hzz : ∀ z ∈ hh.zip xs, Cond.classLink own z.1.2.2.2 z.2 ∈ Ts ∧ z.1.2.2.2 ≠ 0) (hcov : covers ⟨x.1, x.2.1, x.2.2.1, x.2.2.2⟩ pc = true)
    (hcell : H[q9]? = some ce) (hv : ce.vm = .none) (hcl : s.vm.findClass E = some ce.cls) (kk : W p l e R s m args below meth c H locs cells slots Q (F0 m x.2.2.1 ls [.ref q9])) : vx_W p l e R s m args below meth c H locs cells slots Q (F0 m pc ls rest) q9 := by
  obtain ⟨hjh, ejh⟩ := List.getElem?_eq_some_iff.mp hx
  obtain ⟨hjx, ejx⟩ := List.getElem?_eq_some_iff.mp hxs
  have hw := F.2.2.2.2
  have hz : ∀ i (h1 : i < hh.length) (h2 : i < xs.length), Cond.classLink own hh[i].2.2.2 xs[i] ∈ Ts ∧ hh[i].2.2.2 ≠ 0 := fun i h1 h2 => hzz (hh[i], xs[i]) (List.mem_iff_getElem.mpr ⟨i, by simp; omega, by simp⟩)
  have hE9 : E ∈ exs3 := hmem _ (List.mem_of_getElem? hxs)
  refine vx_catch F.2.2.2.1 (tableOf (hh.take j)) ⟨x.1, x.2.1, x.2.2.1, x.2.2.2⟩ (tableOf (hh.drop (j + 1))) (name := E) (E := E) (ce := ce) ?_ ?_ hcov ?_ ?_ (va_Nw.use rfl (hE.2.1.1 _ hE9)) hcell hv hcl kk
  · rw [htab]
    have h1 : hh = hh.take j ++ x :: hh.drop (j + 1) := by rw [← ejh, List.getElem_cons_drop, List.take_append_drop]
    unfold tableOf
    conv => lhs; rw [h1]
    rw [List.map_append, List.map_cons]
  · intro z hz9
    obtain ⟨r, hr, rfl⟩ := List.mem_map.mp hz9
    obtain ⟨i, hi, er⟩ := List.mem_iff_getElem.mp hr
    have hij : i < j := by rw [List.length_take] at hi; omega
    rw [List.getElem_take] at er
    have h3 := hz i (by omega) (by omega)
    rw [er] at h3
    refine Or.inr ⟨h3.2, xs[i]'(by omega), hw _ h3.1, hNC _ hE9 _ (hmem _ (List.getElem_mem _)) ?_⟩
    rw [← ejx]
    intro e9
    exact hnd i hij (by rw [List.getElem?_eq_getElem (by omega), List.getElem?_eq_getElem hjx, e9])
  · have h3 := hz j hjh hjx
    rw [ejh] at h3
    exact h3.2
  · have h3 := hz j hjh hjx
    rw [ejh, ejx] at h3
    exact hw _ h3.1
/-- the answer is put into the long -/
theorem r_last {x : Int64} {H0 : Heap} {tys : List (ClassId × FieldType)} (Fx : CallFix p m c cc nL s args Ts own) (hK : va_K D vwCl tys s) (ht : tys[2]? = some (cj, .long)) (hP : va_P D vwCl (w0 ci cz q F P g) H) (hO : va_P D vwCl (wo cj ob f) H) (hq : DQ (qo q ob) 9) (hS : va_S (aw (qo q ob) 9) H0 H locs)
    (hdg : decode cc pc = .ok (.lastore, 1)) (kk : ∀ (H1 : Heap) (locs1 : List Loc) (f1 : Nat → Int64), va_P D vwCl (w0 ci cz q F P g) H1 → va_P D vwCl (wo cj ob f1) H1 → f1 0 = x → va_S (aw (qo q ob) 9) H0 H1 locs1 → W p l e R s m args below meth c H1 locs1 cells slots Q (F0 m (pc + 1) ls rest)) : W p l e R s m args below meth c H locs cells slots Q (F0 m pc ls (.long x :: .int (nI 0) :: .ref ob :: rest)) := by
  refine va_last Fx.1 Fx.2.1 hK (hP.app hO) (dqo hq) hS 8 2 rfl ht (vp_in_nI (by decide) (by decide)) hdg (fun H1 l1 h1 _ h3 => ?_)
  exact kk H1 l1 _ (h1.sub [0, 1, 2, 3, 4, 5, 6, 7] rfl) (h1.sub [8] rfl) (by unfold vp_updL; rw [nI_clamp (by decide)]; rfl) h3
/-- its end -/
theorem l_iret {v x : Int32} {P1 : Heap → Prop} {Ad : Nat → Prop} (hexec : p.tables.exec = Jvm.exec) (hb : c.code = cc) (hr : meth.sig.returnType = some .int) (hlocks : meth.locks = false) (hS : va_S Ad s.heap H locs) (hp : P1 H) (h : x = v) (hc : cells ≤ 1) (hs : slots ≤ 6) (hdg : decode cc pc = .ok (.ireturn, 1)) : W p l e R s m args below meth c H locs cells slots (MQ below (WQ (some (.int v)) P1 Ad) args s 1 6 Ad) (F0 m pc ls [.int x]) := by
  subst h
  exact W.widen hc hs (W.iret hexec hb hr (fun t ht _ => ⟨rfl, by rw [ht]; exact hp, hS.F ht⟩) hS.2.2 hdg hlocks)
end CATCH
