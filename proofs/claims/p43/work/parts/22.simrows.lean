/-! PART 22: rows for arrays, arrays of arrays and the fields of a Sim, by the cell alone; what stays. -/
section SROWS
theorem vr_outer (c : ClassId) (N h0 : Nat) : ∀ i : Nat, Jvm.Free.Multi.outerC c N h0 i = arrV c N (fun j => va_rf (if j < i then some (h0 + 1 + j) else none))
  | 0 => by
    show ({ cls := c, slots := Array.replicate N .null, vm := .none } : Cell) = _
    rw [arrV_new]
    refine congrArg (arrV c N) (funext fun j => ?_)
    simp [va_rf]
  | i + 1 => by
    show (Jvm.Free.Multi.outerC c N h0 i).setSlot i (.ref (h0 + 1 + i)) = _
    rw [vr_outer c N h0 i, arrV_store]
    refine congrArg (arrV c N) (funext fun j => ?_)
    by_cases e : j = i
    · subst e
      simp [updV, va_rf]
    · by_cases h : j < i
      · simp [updV, e, h, Nat.lt_succ_of_lt h]
      · simp [updV, e, h, show ¬ j < i + 1 by omega]
/-- cells that were there and aren't of the set stay -/
def KP (Ad : Nat → Prop) (H H1 : Heap) : Prop := H.size ≤ H1.size ∧ ∀ q : Nat, q < H.size → ¬ Ad q → H1[q]? = H[q]?
theorem KP.rf {Ad : Nat → Prop} {H : Heap} : KP Ad H H := ⟨Nat.le_refl _, fun _ _ _ => rfl⟩
theorem KP.trans {Ad : Nat → Prop} {H H1 H2 : Heap} (h1 : KP Ad H H1) (h2 : KP Ad H1 H2) : KP Ad H H2 := ⟨Nat.le_trans h1.1 h2.1, fun q hq hn => (h2.2 q (Nat.lt_of_lt_of_le hq h1.1) hn).trans (h1.2 q hq hn)⟩
theorem KP.mono {Ad B : Nat → Prop} {H H1 : Heap} (h : KP Ad H H1) (hAB : ∀ q, Ad q → B q) : KP B H H1 := ⟨h.1, fun q hq hn => h.2 q hq (fun z => hn (hAB q z))⟩
theorem KP.monol {Ad B : Nat → Prop} {H H1 : Heap} (h : KP Ad H H1) (hAB : ∀ q, q < H.size → Ad q → B q) : KP B H H1 := ⟨h.1, fun q hq hn => h.2 q hq (fun z => hn (hAB q hq z))⟩
theorem KP.of {H H1 : Heap} (h : hkep H H1) : KP none_ H H1 := ⟨h.1, fun q hq _ => h.2 q hq⟩
theorem KP.hk {H H1 : Heap} (h : KP none_ H H1) : hkep H H1 := ⟨h.1, fun q hq => h.2 q hq (fun z => z)⟩
theorem KP.at {Ad : Nat → Prop} {H H1 : Heap} {D : va_G} {cl : List vw_C} {r : Nat × va_E} (h : KP Ad H H1) (ha : va_at D cl r H) (hn : ¬ Ad r.1) : va_at D cl r H1 := ha.kept (h.2 _ ha.lt hn)
theorem KP.P {Ad : Nat → Prop} {H H1 : Heap} {D : va_G} {cl : List vw_C} {ws : va_W} (h : KP Ad H H1) (hP : va_P D cl ws H) (hn : ∀ (k : Nat) (r : Nat × va_E), ws[k]? = some r → ¬ Ad r.1) : va_P D cl ws H1 := fun k r hk => h.at (hP k r hk) (hn k r hk)
theorem KP.S {Ad A0 : Nat → Prop} {H0 H H1 : Heap} {locs : List Loc} (h : KP Ad H H1) (hS : va_S A0 H0 H locs) (hA : ∀ q, Ad q → A0 q) : va_S A0 H0 H1 locs := ⟨Nat.le_trans hS.1 h.1, fun q hq hn => (h.2 q (Nat.lt_of_lt_of_le hq hS.1) (fun z => hn (hA q z))).trans (hS.2.1 q hq hn), hS.2.2⟩
theorem KP.new_at {H H1 : Heap} {D : va_G} {cl : List vw_C} {r : Nat × va_E} (h : KP (fun a => H.size ≤ a) H H1) (ha : va_at D cl r H) : va_at D cl r H1 := h.at ha (fun z => absurd ha.lt (Nat.not_lt.mpr z))
theorem KP.ofF {Ad : Nat → Prop} {s t : State} (h : va_F Ad s t) : KP Ad s.heap t.heap := h
/-- an int array at a of length n -/
def isI (D : va_G) (ci : ClassId) (H : Heap) (a n : Nat) (f : Nat → Int32) : Prop := va_at D vwCl (a, .inl (ci, n, .inl f)) H
/-- an array of references -/
def isR (D : va_G) (cA : ClassId) (H : Heap) (a n : Nat) (f : Nat → Option Nat) : Prop := va_at D vwCl (a, .inl (cA, n, .inr (.inr (.inr (.inr f))))) H
theorem cell_i {cA : ClassId} {n : Nat} {f f' : Nat → Int32} (h : ∀ j, j < n → f j = f' j) : vp_cell cA (n, .inl f) = vp_cell cA (n, .inl f') := by
  rw [vp_cell_i, vp_cell_i]
  unfold arrV
  congr 2
  funext j
  show Value.int (f j.val) = Value.int (f' j.val)
  rw [h j.val j.isLt]
theorem cell_q {cA : ClassId} {n : Nat} {f f' : Nat → Option Nat} (h : ∀ j, j < n → f j = f' j) : vp_cell cA (n, .inr (.inr (.inr (.inr f)))) = vp_cell cA (n, .inr (.inr (.inr (.inr f')))) := by
  rw [vp_cell_q, vp_cell_q]
  unfold arrV
  congr 2
  funext j
  show va_rf (f j.val) = va_rf (f' j.val)
  rw [h j.val j.isLt]
theorem isI.cg {D : va_G} {ci : ClassId} {H : Heap} {a n : Nat} {f f' : Nat → Int32} (h : isI D ci H a n f) (hf : ∀ j, j < n → f j = f' j) : isI D ci H a n f' := by
  show H[a]? = some (vp_cell _ _)
  rw [← cell_i hf]
  exact h
theorem isR.cg {D : va_G} {ci : ClassId} {H : Heap} {a n : Nat} {f f' : Nat → Option Nat} (h : isR D ci H a n f) (hf : ∀ j, j < n → f j = f' j) : isR D ci H a n f' := by
  show H[a]? = some (vp_cell _ _)
  rw [← cell_q hf]
  exact h
variable {p : Program} {l : Launch} {e : Env} {R : Room} {s : State} {m : MethodId} {args : Array Value} {below : List Frame} {meth : Method} {c : Code} {H : Heap} {locs : List Loc} {cells slots : Nat} {Q : State → Prop}
variable {cc : ByteArray} {nL pc : Nat} {rest : List Value} {ls : Array Slot} {Ts : List Cond} {own : String} {D : va_G} {tys : List (ClassId × FieldType)} {A0 : Nat → Prop} {H0 : Heap}
theorem g_iald {a n : Nat} {cA : ClassId} {f : Nat → Int32} (F : CallFix p m c cc nL s args Ts own) (hK : va_K D vwCl tys s) (ha : isI D cA H a n f) (t0 : Nat) (ht : tys[t0]? = some (cA, .int)) {i : Nat} (hi : i < n) (hN : n < 2 ^ 31) (hdg : decode cc pc = .ok (.iaload, 1))
    (kk : W p l e R s m args below meth c H locs cells slots Q (F0 m (pc + 1) ls (.int (f i) :: rest))) : W p l e R s m args below meth c H locs cells slots Q (F0 m pc ls (.int (nI i) :: .ref a :: rest)) := by
  refine va_iald F.1 F.2.1 hK (ws := [(a, .inl (cA, n, .inl f))]) (fun k q hk => ?_) 0 t0 rfl ht (vp_in_nI hi hN) hdg ?_
  · have h1 : k < 1 := (List.getElem?_eq_some_iff.mp hk).1
    obtain rfl : k = 0 := by omega
    cases hk
    exact ha
  · rw [nI_clamp (by omega)]
    exact kk
theorem g_aald {a n v : Nat} {cA : ClassId} {ty : FieldType} {f : Nat → Option Nat} (F : CallFix p m c cc nL s args Ts own) (hK : va_K D vwCl tys s) (ha : isR D cA H a n f) (t0 : Nat) (ht : tys[t0]? = some (cA, ty)) (hty : ty.isReference = true) {i : Nat} (hi : i < n) (hN : n < 2 ^ 31) (hv : f i = some v) (hdg : decode cc pc = .ok (.aaload, 1))
    (kk : W p l e R s m args below meth c H locs cells slots Q (F0 m (pc + 1) ls (.ref v :: rest))) : W p l e R s m args below meth c H locs cells slots Q (F0 m pc ls (.int (nI i) :: .ref a :: rest)) := by
  have hin := vp_in_nI hi hN
  have hc : (nI i).toNatClampNeg = i := nI_clamp (by omega)
  exact W.aald (v := .ref v) (ty := ty) F.1 F.2.1 ha ((hK.2 t0 _ ht).1 n (fun j => va_rf (f j))) hty (fun q => by cases q) (by show ¬ (nI i < 0 ∨ (arrV _ _ _).slots.size ≤ _); rw [arrV_size]; exact hin) (by show (arrV _ _ _).slots[_]? = _; rw [hc, arrV_read _ _ hi, hv]; rfl) rfl rfl hdg kk
theorem g_alenI {a n : Nat} {cA : ClassId} {f : Nat → Int32} (F : CallFix p m c cc nL s args Ts own) (hK : va_K D vwCl tys s) (ha : isI D cA H a n f) (t0 : Nat) {ty : FieldType} (ht : tys[t0]? = some (cA, ty)) (hdg : decode cc pc = .ok (.arraylength, 1))
    (kk : W p l e R s m args below meth c H locs cells slots Q (F0 m (pc + 1) ls (.int (nI n) :: rest))) : W p l e R s m args below meth c H locs cells slots Q (F0 m pc ls (.ref a :: rest)) :=
  W.alen (n := nI n) F.1 F.2.1 ha ((hK.2 t0 _ ht).1 n (fun j => .int (f j))) (by rw [vp_cell_i, arrV_size] <;> rfl) rfl rfl hdg kk
theorem g_alenR {a n : Nat} {cA : ClassId} {f : Nat → Option Nat} (F : CallFix p m c cc nL s args Ts own) (hK : va_K D vwCl tys s) (ha : isR D cA H a n f) (t0 : Nat) {ty : FieldType} (ht : tys[t0]? = some (cA, ty)) (hdg : decode cc pc = .ok (.arraylength, 1))
    (kk : W p l e R s m args below meth c H locs cells slots Q (F0 m (pc + 1) ls (.int (nI n) :: rest))) : W p l e R s m args below meth c H locs cells slots Q (F0 m pc ls (.ref a :: rest)) :=
  W.alen (n := nI n) F.1 F.2.1 ha ((hK.2 t0 _ ht).1 n (fun j => va_rf (f j))) (by rw [vp_cell_q, arrV_size] <;> rfl) rfl rfl hdg kk
theorem g_iast {a n : Nat} {cA : ClassId} {f : Nat → Int32} {x : Int32} (F : CallFix p m c cc nL s args Ts own) (hK : va_K D vwCl tys s) (ha : isI D cA H a n f) (t0 : Nat) (ht : tys[t0]? = some (cA, .int)) (hA : A0 a) (hS : va_S A0 H0 H locs) {i : Nat} (hi : i < n) (hN : n < 2 ^ 31) (hdg : decode cc pc = .ok (.iastore, 1))
    (kk : ∀ (H1 : Heap) (locs1 : List Loc), isI D cA H1 a n (upd f i x) → KP (fun q => q = a) H H1 → va_S A0 H0 H1 locs1 → W p l e R s m args below meth c H1 locs1 cells slots Q (F0 m (pc + 1) ls rest)) : W p l e R s m args below meth c H locs cells slots Q (F0 m pc ls (.int x :: .int (nI i) :: .ref a :: rest)) := by
  have hin := vp_in_nI hi hN
  have hc : (nI i).toNatClampNeg = i := nI_clamp (by omega)
  refine W.iast F.1 F.2.1 ha ((hK.2 t0 _ ht).1 n (fun j => .int (f j))) (fun q => by cases q) (by show ¬ (nI i < 0 ∨ (arrV _ _ _).slots.size ≤ _); rw [arrV_size]; exact hin) rfl rfl hdg fun H1 e z oq => ?_
  refine kk H1 _ ?_ ⟨Nat.le_of_eq z.symm, fun q _ h => oq q h⟩ (hS.put z oq hA)
  show H1[a]? = some (vp_cell _ _)
  rw [e, hc, vp_cell_i, vp_cell_i, arrV_store]
  congr 2
  funext q
  by_cases hq : q = i
  · subst hq
    simp [updV, upd]
  · simp [updV, upd, hq]
theorem g_aast {a n v : Nat} {cA cV : ClassId} {t : FieldType} {f : Nat → Option Nat} {x : vp_A} (F : CallFix p m c cc nL s args Ts own) (hK : va_K D vwCl tys s) (hover : (Cond.arrayOver (.array t)).before #[] s = true) (ha : isR D cA H a n f) (t0 : Nat) (ht : tys[t0]? = some (cA, .array t)) (t1 : Nat) {tv : FieldType} (htv : tys[t1]? = some (cV, tv)) (hcv : s.vm.findClass (FieldType.array t).toString = some cV) (hv : va_at D vwCl (v, .inl (cV, x)) H) (hA : A0 a) (hS : va_S A0 H0 H locs) {i : Nat} (hi : i < n) (hN : n < 2 ^ 31) (hdg : decode cc pc = .ok (.aastore, 1))
    (kk : ∀ (H1 : Heap) (locs1 : List Loc), isR D cA H1 a n (va_up f i (some v)) → KP (fun q => q = a) H H1 → va_S A0 H0 H1 locs1 → W p l e R s m args below meth c H1 locs1 cells slots Q (F0 m (pc + 1) ls rest)) : W p l e R s m args below meth c H locs cells slots Q (F0 m pc ls (.ref v :: .int (nI i) :: .ref a :: rest)) := by
  have hc : (nI i).toNatClampNeg = i := nI_clamp (by omega)
  have h0 : ¬ nI i < 0 := nI_pos (by omega)
  obtain ⟨comp, cA2, kA, k1, -, k2, k3, k4⟩ := arrayOverA_spec hover
  have e1 : comp = cV := Option.some.inj (k1.symm.trans hcv)
  subst e1
  have e2 : cA2 = cA := Option.some.inj (k4.symm.trans (hK.2 t0 _ ht).2)
  subst e2
  obtain ⟨-, kV, hkV, -⟩ := (hK.2 t1 _ htv).1 0 (fun _ => .null)
  have hvv : ∃ cv : Cell, H[v]? = some cv ∧ cv.cls = comp ∧ cv.vm = .none := by
    obtain ⟨n9, f9 | f9 | f9 | f9 | f9⟩ := x <;> exact ⟨_, hv, rfl, rfl⟩
  obtain ⟨cv, v1, v2, v3⟩ := hvv
  refine W.aast (t := .array t) F.1 F.2.1 ha (fun q h => by cases h) (fun h => by cases h) k2 k3 rfl hkV ⟨h0, by show _ < (arrV _ _ _).slots.size; rw [arrV_size, hc]; exact hi⟩ v1 (fun q h => by rw [v3] at h; cases h) (by rw [v2]; exact hkV) (by rw [v2]; exact va_asg _ _) rfl rfl hdg fun H1 e z oq => ?_
  refine kk H1 _ ?_ ⟨Nat.le_of_eq z.symm, fun q _ h => oq q h⟩ (hS.put z oq hA)
  show H1[a]? = some (vp_cell _ _)
  rw [e, hc, vp_cell_q, vp_cell_q, arrV_store]
  congr 2
  funext q
  by_cases hq : q = i
  · subst hq
    simp [updV, va_up, va_rf]
  · simp [updV, va_up, hq]
theorem g_newa {n : Nat} {cA : ClassId} (F : CallFix p m c cc nL s args Ts own) (hK : va_K D vwCl tys s) (t0 : Nat) (ht : tys[t0]? = some (cA, .int)) (harr : (Cond.arrayClass .int) ∈ Ts) (hS : va_S A0 H0 H locs) (hn : n < 1000) (hcells : cells + 1 ≤ R.cells) (hslots : slots + n ≤ R.slots) (hdg : decode cc pc = .ok (.newarray .int, 2))
    (kk : ∀ (a : Nat) (H1 : Heap), a = H.size → isI D cA H1 a n (fun _ => 0) → KP none_ H H1 → H1.size = H.size + 1 → va_S A0 H0 H1 locs → W p l e R s m args below meth c H1 locs (cells + 1) (slots + n) Q (F0 m (pc + 2) ls (.ref a :: rest))) : W p l e R s m args below meth c H locs cells slots Q (F0 m pc ls (.int (nI n) :: rest)) := by
  refine va_newaK (atype := .int) (h := H.size) (n := nI n) (rest := rest) (g := F0 m pc ls (.int (nI n) :: rest)) (N := n) F.1 F.2.1 (F.2.2.2.2 _ harr) rfl hdg rfl (nI_pos (by omega)) (nI_clamp (by omega)) (by show n * 4 ≤ _; omega) hcells hslots rfl (fun H1 c9 h1 z1 k1 hof hfc => ?_)
  have e9 : c9 = cA := Option.some.inj (hfc.symm.trans (hK.2 t0 _ ht).2)
  subst e9
  have kp : KP none_ H H1 := ⟨by omega, fun q hq _ => k1 q hq⟩
  exact kk H.size H1 rfl h1 kp z1 (kp.S hS (fun q h => h.elim))
theorem g_newq {n : Nat} {cA : ClassId} {t : FieldType} {index : Nat} {nm : String} (F : CallFix p m c cc nL s args Ts own) (hK : va_K D vwCl tys s) (t0 : Nat) (ht : tys[t0]? = some (cA, .array t)) (hnm : (FieldType.array t).toString = nm) (hlk : Cond.classLink own index nm ∈ Ts) (hover : (Cond.arrayOver (.array t)).before #[] s = true) (hS : va_S A0 H0 H locs) (hn : n < 1000) (hcells : cells + 1 ≤ R.cells) (hslots : slots + n ≤ R.slots) (hdg : decode cc pc = .ok (.anewarray index, 3))
    (kk : ∀ (a : Nat) (H1 : Heap), a = H.size → isR D cA H1 a n (fun _ => none) → KP none_ H H1 → H1.size = H.size + 1 → va_S A0 H0 H1 locs → W p l e R s m args below meth c H1 locs (cells + 1) (slots + n) Q (F0 m (pc + 3) ls (.ref a :: rest))) : W p l e R s m args below meth c H locs cells slots Q (F0 m pc ls (.int (nI n) :: rest)) := by
  have hc : (nI n).toNatClampNeg = n := nI_clamp (by omega)
  have hn0 : ¬ nI n < 0 := nI_pos (by omega)
  have hb0 : (nI n).toNatClampNeg * 4 ≤ 536870912 := by rw [hc]; omega
  have hs0 : slots + (nI n).toNatClampNeg ≤ R.slots := by rw [hc]; exact hslots
  have hl0 : (Cond.classLink own index (FieldType.array t).toString).before args s = true := by rw [hnm]; exact F.2.2.2.2 _ hlk
  refine W.anewA (t := t) (g := F0 m pc ls (.int (nI n) :: rest)) (n := nI n) (rest := rest) F.1 F.2.1 F.2.2.2.1 hl0 hover rfl hdg rfl hn0 hb0 hcells hs0 fun c9 kA comp f1 f2 f3 f4 => ?_
  have e9 : c9 = cA := Option.some.inj (f1.symm.trans (hK.2 t0 _ ht).2)
  subst e9
  rw [hc]
  have kp : KP none_ H (H.push { cls := c9, slots := Array.replicate n .null, vm := .none }) := ⟨by rw [Array.size_push]; omega, fun q hq _ => by rw [Array.getElem?_push, if_neg (Nat.ne_of_lt hq)]⟩
  refine kk H.size _ rfl ?_ kp (by rw [Array.size_push]) (kp.S hS (fun q h => h.elim))
  show (H.push _)[H.size]? = some (vp_cell _ _)
  rw [Array.getElem?_push_size, vp_cell_q, ← arrV_new]
  rfl
/-- fields of an object -/
theorem g_get {C : String} {T : u_T} {N a index : Nat} {fs : List Value} {v : Value} (F : CallFix p m c cc nL s args Ts own) (hin : ∀ w ∈ u_ws C T N, w ∈ Ts) (hK : va_K D vwCl tys s) (ci : Nat) (ha : va_at D vwCl (a, .inr (ci, fs)) H) (hc : vwCl[ci]? = some (C, T, N)) (k : Nat) (hk : k < N) (hm : Cond.fieldLink own index (T k).1 (T k).2.1 (T k).2.2.1 ∈ Ts) (hv : fs[k]? = some v)
    (hdg : decode cc pc = .ok (.getfield index, 3)) (kk : W p l e R s m args below meth c H locs cells slots Q (F0 m (pc + 3) ls (v :: rest))) : W p l e R s m args below meth c H locs cells slots Q (F0 m pc ls (.ref a :: rest)) := by
  refine r_get F hin hK (wd := [(a, .inr (ci, fs))]) (fun k q hk => ?_) ci hc k hk hm rfl hv hdg kk
  have h1 : k < 1 := (List.getElem?_eq_some_iff.mp hk).1
  obtain rfl : k = 0 := by omega
  cases hk
  exact ha
theorem g_put {C : String} {T : u_T} {N a index : Nat} {fs : List Value} {v : Value} {ty : FieldType} (F : CallFix p m c cc nL s args Ts own) (hin : ∀ w ∈ u_ws C T N, w ∈ Ts) (ty0 : Nat → FieldType) (hty : ∀ k, k < N → parseFieldDescriptor (T k).2.2.1 = some (ty0 k)) (hnm : ∀ a, a < N → ∀ b, b < N → a ≠ b → (T a).2.1 ≠ (T b).2.1) (hK : va_K D vwCl tys s) (ci : Nat) (ha : va_at D vwCl (a, .inr (ci, fs)) H) (hA : A0 a) (hS : va_S A0 H0 H locs) (hc : vwCl[ci]? = some (C, T, N)) (k : Nat) (hk : k < N) (hm : Cond.fieldLink own index (T k).1 (T k).2.1 (T k).2.2.1 ∈ Ts) (hfin : (T k).2.2.2 = false) (hd : parseFieldDescriptor (T k).2.2.1 = some ty) (hn : narrow ty v = v) (hfit : fits ty v = true) (hl : k < fs.length)
    (hdg : decode cc pc = .ok (.putfield index, 3)) (kk : ∀ (H1 : Heap) (locs1 : List Loc), va_at D vwCl (a, .inr (ci, fs.set k v)) H1 → KP (fun q => q = a) H H1 → va_S A0 H0 H1 locs1 → W p l e R s m args below meth c H1 locs1 cells slots Q (F0 m (pc + 3) ls rest)) : W p l e R s m args below meth c H locs cells slots Q (F0 m pc ls (v :: .ref a :: rest)) := by
  have hap := va_apart (own := own) F.2.2.2.2 hin ty0 hty hnm hK hc
  obtain ⟨r, h1, cell, q1, q2, q3, q4⟩ := ha
  have hr : r = (C, T, N) := Option.some.inj (h1.symm.trans hc)
  subst hr
  obtain ⟨hS1, hfc, kC, hkC, hkind⟩ := hK.1 ci _ hc
  obtain ⟨cf, kf, fi, f, hi, hsl⟩ := hS1 k hk
  have hlay := F.2.2.2.2 _ (hin _ (u_in_lay hk))
  unfold u_lay at hlay
  rw [if_neg (by rw [hfin]; decide)] at hlay
  have hst := (u_facts hfc hkC (u_lays F.2.2.2.2 hin hk) hi).1
  have h6 := u_store hfc hkC hkind hlay hi hd hn hfit
  refine W.putK F.1 F.2.1 (f := f) ⟨F.2.2.2.1, F.2.2.2.2 _ hm, ⟨_, _, _, hi⟩, hst⟩ (by rw [q2]; exact h6) q1 q3 (by rw [hsl]; exact k2_hasslot (q4 k hk)) rfl rfl hdg fun H' e1 e2 e3 => ?_
  rw [hsl] at e1 ⊢
  exact kk H' _ ⟨_, hc, t_OB.to (V := updV (vp_V fs) k v) ⟨_, e1, q2, q3, t_set q4 hap hk v⟩ (fun j _ => vp_updV_set hl v j)⟩ ⟨Nat.le_of_eq e2.symm, fun q _ h => e3 q h⟩ (hS.put e2 e3 hA)
/-- new int[N][M] -/
theorem g_mna {N M : Nat} {cA cy : ClassId} {index : Nat} (F : CallFix p m c cc nL s args Ts own) (hK : va_K D vwCl tys s) (t0 : Nat) (ht : tys[t0]? = some (cA, .array .int)) (t1 : Nat) (ht1 : tys[t1]? = some (cy, .int)) (harr : (Cond.arrayClass .int) ∈ Ts) (hlk : Cond.classLink own index "[[I" ∈ Ts) (hover : (Cond.arrayOver (.array .int)).before #[] s = true) (hS : va_S A0 H0 H locs) (hN : N < 1000) (hM : M < 1000) (hcells : cells + (1 + N) ≤ R.cells) (hslots : slots + (N + N * M) ≤ R.slots) (hdg : decode cc pc = .ok (.multianewarray index 2, 4))
    (kk : ∀ (a : Nat) (H1 : Heap), a = H.size → isR D cA H1 a N (fun i => if i < N then some (a + 1 + i) else none) → (∀ i, i < N → isI D cy H1 (a + 1 + i) M (fun _ => 0)) → KP none_ H H1 → H1.size = H.size + 1 + N → va_S A0 H0 H1 locs → W p l e R s m args below meth c H1 locs (cells + 1 + N) (slots + N + N * M) Q (F0 m (pc + 4) ls (.ref a :: rest))) : W p l e R s m args below meth c H locs cells slots Q (F0 m pc ls (.int (nI M) :: .int (nI N) :: rest)) := by
  intro T hT Xs
  have hcN : (nI N).toNatClampNeg = N := nI_clamp (by omega)
  have hcM : (nI M).toNatClampNeg = M := nI_clamp (by omega)
  obtain ⟨vm₁, cA', comp, -, fA, fC, hO, -, X', step⟩ := Xs.multianewarray2F F.1 (ty := .int) F.2.2.2.1 (F.2.2.2.2 _ hlk) hover (F.2.2.2.2 _ harr) (g := F0 m pc ls (.int (nI M) :: .int (nI N) :: rest)) rfl (by rw [F.2.1]; exact hdg) rfl (nI_pos (by omega)) (nI_pos (by omega)) (by rw [hcN]; omega) (by rw [hcM]; show M * 4 ≤ _; omega) (by rw [hcM]; omega) rfl rfl (by rw [hcN]; exact hcells) (by rw [hcN, hcM]; exact hslots)
  have e9 : cA' = cA := Option.some.inj (fA.symm.trans (hK.2 t0 _ ht).2)
  subst e9
  have e8 : comp = cy := Option.some.inj (fC.symm.trans (hK.2 t1 _ ht1).2)
  subst e8
  rw [hcN, hcM] at X' step
  generalize hF : Jvm.Free.Multi.fill (T.setVm vm₁) cA' comp N M (defaultValue .int) N = G at X' step
  have hTh : (T.setVm vm₁).heap = H := hT
  obtain ⟨f1, f2, -, -⟩ := Jvm.Free.Multi.fill_facts (T.setVm vm₁) cA' comp N M (defaultValue .int) N
  rw [hF, hTh] at f1 f2
  have hold : ∀ x : Nat, x < H.size → G.heap[x]? = H[x]? := fun x hx => by
    have := Jvm.Free.Multi.fill_old (T.setVm vm₁) cA' comp N M (defaultValue .int) (a := x) (by rw [hTh]; exact hx) N
    rw [hF, hTh] at this
    exact this
  have hrow : ∀ j : Nat, j < N → isI D comp G.heap (H.size + 1 + j) M (fun _ => 0) := fun j hj => by
    have := Jvm.Free.Multi.fill_inner (T.setVm vm₁) cA' comp N M (defaultValue .int) N j hj
    rw [hF, hTh] at this
    show G.heap[_]? = some (vp_cell _ _)
    rw [this, vp_cell_i, ← arrV_new]
    rfl
  have hout : isR D cA' G.heap H.size N (fun i => if i < N then some (H.size + 1 + i) else none) := by
    show G.heap[_]? = some (vp_cell _ _)
    rw [f2, vp_cell_q]
    exact congrArg some (vr_outer cA' N H.size N)
  have kp : KP none_ H G.heap := ⟨by rw [f1]; omega, fun q hq _ => hold q hq⟩
  obtain ⟨t, a1, b1⟩ := kk H.size G.heap rfl hout hrow kp f1 (kp.S hS (fun q h => h.elim)) G rfl X'
  refine ⟨t, step t ?_, b1⟩
  have e : T.heap.size = H.size := by rw [hT]
  rw [e]
  exact a1
end SROWS
