/-! PART 44: the law's own surroundings, and its rows. -/
section LFIX
def big (s : State) : Nat → Prop := fun a => s.heap.size ≤ a
/-- the addresses of the two objects and of the answer: all apart, all new -/
def LA (q0 q1 : Nat → Nat) (ob sz : Nat) : Prop := DQ (qo q0 ob) 9 ∧ DQ q1 9 ∧ (∀ i j, i < 9 → j < 9 → qo q0 ob i ≠ q1 j) ∧ (∀ i, i < 9 → sz ≤ qo q0 ob i) ∧ ∀ i, i < 9 → sz ≤ q1 i
theorem LA.h9 {q0 q1 : Nat → Nat} {ob sz : Nat} (h : LA q0 q1 ob sz) : DQ (qo q0 ob) 9 := h.1
theorem LA.h1 {q0 q1 : Nat → Nat} {ob sz : Nat} (h : LA q0 q1 ob sz) : DQ q1 9 := h.2.1
theorem LA.ap {q0 q1 : Nat → Nat} {ob sz : Nat} (h : LA q0 q1 ob sz) : ∀ i j, i < 9 → j < 9 → qo q0 ob i ≠ q1 j := h.2.2.1
theorem LA.b0 {q0 q1 : Nat → Nat} {ob sz : Nat} (h : LA q0 q1 ob sz) : ∀ i, i < 9 → sz ≤ qo q0 ob i := h.2.2.2.1
theorem LA.b1 {q0 q1 : Nat → Nat} {ob sz : Nat} (h : LA q0 q1 ob sz) : ∀ i, i < 9 → sz ≤ q1 i := h.2.2.2.2
def LF (p : Program) (m : MethodId) (c : Code) (meth : Method) (s : State) (b L : Nat) (xs : Nat → Int32) (D : va_G) (ci cz cj : ClassId) : Prop :=
  CallFix p m c cL_law 9 s #[Value.ref b] wsL_law RL ∧ meth.sig.returnType = ret ∧ meth.locks = false ∧ va_X b L xs s s.heap ∧ b < s.heap.size ∧ EV (big s) s s.heap ∧ NC s ∧ va_K D vwCl (tyL ci cz cj) s
section
variable {p : Program} {m : MethodId} {c : Code} {meth : Method} {s : State} {b L : Nat} {xs : Nat → Int32} {D : va_G} {ci cz cj : ClassId}
theorem LF.F (h : LF p m c meth s b L xs D ci cz cj) : CallFix p m c cL_law 9 s #[Value.ref b] wsL_law RL := h.1
theorem LF.hr (h : LF p m c meth s b L xs D ci cz cj) : meth.sig.returnType = ret := h.2.1
theorem LF.hlocks (h : LF p m c meth s b L xs D ci cz cj) : meth.locks = false := h.2.2.1
theorem LF.X (h : LF p m c meth s b L xs D ci cz cj) : va_X b L xs s s.heap := h.2.2.2.1
theorem LF.hb (h : LF p m c meth s b L xs D ci cz cj) : b < s.heap.size := h.2.2.2.2.1
theorem LF.E (h : LF p m c meth s b L xs D ci cz cj) : EV (big s) s s.heap := h.2.2.2.2.2.1
theorem LF.N (h : LF p m c meth s b L xs D ci cz cj) : NC s := h.2.2.2.2.2.2.1
theorem LF.K (h : LF p m c meth s b L xs D ci cz cj) : va_K D vwCl (tyL ci cz cj) s := h.2.2.2.2.2.2.2
end
/-- what the loop keeps of the heap -/
def LW (D : va_G) (ci cz cj : ClassId) (q0 q1 : Nat → Nat) (ob F P : Nat) (g : Nat → Nat → Int32) (H : Heap) : Prop := va_P D vwCl (w0 ci cz q0 F P g) H ∧ (∃ th he hn, va_P D vwCl (w1 ci cz q1 th F P g he hn) H) ∧ ∃ f, va_P D vwCl (wo cj ob f) H
variable {p : Program} {l : Launch} {e : Env} {R : Room} {s : State} {m : MethodId} {args : Array Value} {below : List Frame} {meth : Method} {c : Code} {H : Heap} {locs : List Loc} {cells slots : Nat} {Q : State → Prop}
variable {y : MethodName} {bytes cc : ByteArray} {maxL nL mc ms n index pc : Nat} {rt : Option FieldType} {ws : List Cond} {rm : Room} {Ts : List Cond} {own C : String} {b L : Nat} {As rest st0 : List Value} {ls : Array Slot} {Pr : State → Prop}
variable {D : va_G} {ci cz cj : ClassId} {q0 q1 : Nat → Nat} {F P : Nat} {g : Nat → Nat → Int32} {ob : Nat} {f : Nat → Int64} {xs : Nat → Int32} {th : Int32} {he : Nat → Int32} {hn : Nat}
theorem LA.o0 {sz : Nat} (la : LA q0 q1 ob sz) : ∀ a, aw (qo q0 ob) 9 a → sz ≤ a := by
  rintro a ⟨k, hk, rfl⟩
  exact la.b0 k hk
theorem LA.o1 {sz : Nat} (la : LA q0 q1 ob sz) : ∀ a, aw q1 9 a → sz ≤ a := by
  rintro a ⟨k, hk, rfl⟩
  exact la.b1 k hk
theorem LA.n1 {sz : Nat} (la : LA q0 q1 ob sz) : ∀ (k : Nat) (r : Nat × va_E), (w1 ci cz q1 th F P g he hn)[k]? = some r → ¬ aw (qo q0 ob) 9 r.1 := by
  rintro k r h ⟨i, hi, ei⟩
  obtain ⟨hk, e⟩ := w1_fst h
  exact la.ap i k hi hk (by rw [← ei, e])
theorem LA.n0 {sz : Nat} (la : LA q0 q1 ob sz) : ∀ (k : Nat) (r : Nat × va_E), (w0 ci cz q0 F P g)[k]? = some r → ¬ aw q1 9 r.1 := by
  rintro k r h ⟨i, hi, ei⟩
  obtain ⟨hk, e⟩ := w0r_fst h
  exact la.ap k i (by omega) hi (by rw [qo_l hk, ← e, ei])
theorem LA.no {sz : Nat} (la : LA q0 q1 ob sz) : ∀ (k : Nat) (r : Nat × va_E), (wo cj ob f)[k]? = some r → ¬ aw q1 9 r.1 := by
  rintro k r h ⟨i, hi, ei⟩
  exact la.ap 8 i (by omega) hi (by rw [qo_8, ← wo_fst h, ei])
theorem BL.bl (U : State) (g9 : JFrame) (mk : MethodId) (a : Array Value) (h : BL D ci cz cj q0 F P g ob f U) : BL D ci cz cj q0 F P g ob f (U.calling g9 mk a) :=
  ⟨BW.bl U g9 mk a h.1, NC.mv (s := U) (U := U.calling g9 mk a) (Vm.Alike.refl U.vm) h.2.1, h.2.2⟩
theorem LF.ev {N : Nat} {q : Nat → Nat} (lf : LF p m c meth s b L xs D ci cz cj) (hq : ∀ a, aw q N a → s.heap.size ≤ a) (hS : va_S (big s) s.heap H locs) (U : State) (hU : U.heap = H) (hW : s.WarmedH U.vm) : EV (aw q N) U U.heap :=
  (EV.mv hW lf.E (fun a h1 h2 => by rw [hU]; exact hS.2.1 a h1 h2)).nar hq
theorem LF.b0 (lf : LF p m c meth s b L xs D ci cz cj) (la : LA q0 q1 ob s.heap.size) (hP : va_P D vwCl (w0 ci cz q0 F P g) H) (hO : va_P D vwCl (wo cj ob f) H) (hS : va_S (big s) s.heap H locs) (U : State) (hU : U.heap = H) (hW : s.WarmedH U.vm) : BL D ci cz cj q0 F P g ob f U :=
  ⟨⟨by rw [hU]; exact hP, va_K.moved hW.alike lf.K, lf.ev (fun a h => la.o0 a (aw_o h)) hS U hU hW⟩, lf.N.mv hW.alike, by rw [hU]; exact hO⟩
theorem LF.b0' (lf : LF p m c meth s b L xs D ci cz cj) (la : LA q0 q1 ob s.heap.size) (hP : va_P D vwCl (w0 ci cz q0 F P g) H) (hS : va_S (big s) s.heap H locs) (U : State) (hU : U.heap = H) (hW : s.WarmedH U.vm) : B0 D ci cz cj q0 F P g U :=
  ⟨by rw [hU]; exact hP, va_K.moved hW.alike lf.K, lf.ev (fun a h => la.o0 a (aw_o h)) hS U hU hW⟩
theorem LF.b1 (lf : LF p m c meth s b L xs D ci cz cj) (la : LA q0 q1 ob s.heap.size) (hP : va_P D vwCl (w1 ci cz q1 th F P g he hn) H) (hS : va_S (big s) s.heap H locs) (U : State) (hU : U.heap = H) (hW : s.WarmedH U.vm) : B1 D ci cz cj q1 th F P g he hn U :=
  ⟨by rw [hU]; exact hP, va_K.moved hW.alike lf.K, lf.ev la.o1 hS U hU hW⟩
/-- the k-th argument of a call -/
theorem r_arg (lf : LF p m c meth s b L xs D ci cz cj) (hS : va_S (big s) s.heap H locs) {i k : Nat} {k9 : Int} (h0 : ls[0]? = some (.val (.ref b))) (h4 : ls[4]? = some (.val (.int (nI i)))) (hk : Int32.ofInt k9 = nI k) (hik : i + k < L) (hL : L ≤ 3072) {p1 p3 p4 p5 p6 : Nat} (e1 : p1 = pc + 1) (e3 : p3 = pc + 3) (e4 : p4 = pc + 4) (e5 : p5 = pc + 5) (e6 : p6 = pc + 6)
    (d0 : decode cL_law pc = .ok (.aload_n 0, 1)) (d1 : decode cL_law p1 = .ok (.iload 4, 2)) (d3 : decode cL_law p3 = .ok (.iconst k9, 1)) (d4 : decode cL_law p4 = .ok (.iadd, 1)) (d5 : decode cL_law p5 = .ok (.iaload, 1))
    (kk : W p l e R s m args below meth c H locs cells slots Q (F0 m p6 ls (.int (xs (i + k)) :: rest))) : W p l e R s m args below meth c H locs cells slots Q (F0 m pc ls rest) := by
  subst e1; subst e3; subst e4; subst e5; subst e6
  refine lv_aload_n lf.F.1 lf.F.2.1 d0 rfl h0 ?_
  refine lv_iload lf.F.1 lf.F.2.1 d1 h4 ?_
  refine lv_iconst lf.F.1 lf.F.2.1 d3 hk ?_
  refine r_iadd_n lf.F.1 lf.F.2.1 d4 ?_
  refine va_sld lf.F.1 lf.F.2.1 lf.X lf.hb (A := big s) (Nat.not_le.mpr lf.hb) hS (vp_in_nI hik (by omega)) d5 ?_
  rw [nI_clamp (by omega)]
  exact kk
/-- a call of one of the law's catching methods -/
theorem r_callLW {hh : List (Nat × Nat × Nat × Nat)} {v : Option Value} {P1 : Heap → Prop} {Ad A0 : Nat → Prop} {H0 : Heap} (F : CallFix p m c cc nL s args Ts own) (hM : Met l y ws rm (va_Pc As Pr) (WQ v P1 Ad) 1 6 Ad) (cw : vx_CSW R s args own index y bytes maxL rt hh ws rm 1 6 n) (hbl : ∀ U g mk a, Pr U → Pr (U.calling g mk a))
    (hpre : ∀ U : State, U.heap = H → s.WarmedH U.vm → Pr U) (hn : As.length = n) (hsize : ls.size = nL) (hst : st0 = As.reverse ++ rest) (hW : (rest.map fun v => v.category).sum ≤ 8)
    (hdg : decode cc pc = .ok (.invokestatic index, 3)) (hf : cells + 1 ≤ R.cells ∧ slots + 6 ≤ R.slots) (hS : va_S A0 H0 H locs) (hA : ∀ q, Ad q → A0 q)
    (kk : ∀ (H1 : Heap) (locs1 : List Loc), P1 H1 → va_S A0 H0 H1 locs1 → (∀ q : Nat, q < H.size → ¬ Ad q → H1[q]? = H[q]?) → W p l e R s m args below meth c H1 locs1 (cells + 1) (slots + 6) Q (F0 m (pc + 3) ls (v.toList ++ rest))) : W p l e R s m args below meth c H locs cells slots Q (F0 m pc ls st0) := by
  intro T hT X
  obtain ⟨v', st₀, t, T', L, h0, X', hL, e1, e2, ⟨hv, hp, hF⟩, st⟩ := vx_runSW F hM cw ⟨fun a U g mk hq => ⟨hq.1, hbl U g mk a hq.2⟩, fun U hU hW => ⟨rfl, hpre U hU hW⟩⟩ (g := F0 m pc ls st0) rfl hn hsize hst (lv_room hW) hdg hf T hT X
  cases hv
  obtain ⟨k1, k2, k3⟩ := vx_keep h0 e1 hS (fun q _ h => hA q h) hA hL hF
  obtain ⟨t2, a1, b1⟩ := kk T'.heap (locs ++ L) (by rw [e1]; exact hp) k3 k2 T' rfl X'
  exact ⟨t2, st t2 a1, b1⟩
/-- the answer is read -/
theorem r_lald {tys : List (ClassId × FieldType)} {v : Int64} (hx : p.tables.exec = Jvm.exec) (hb : c.code = cc) (hK : va_K D vwCl tys s) (ht : tys[2]? = some (cj, .long)) (hO : va_P D vwCl (wo cj ob f) H) (hv : f 0 = v) (hdg : decode cc pc = .ok (.laload, 1))
    (kk : W p l e R s m args below meth c H locs cells slots Q (F0 m (pc + 1) ls (.long v :: rest))) : W p l e R s m args below meth c H locs cells slots Q (F0 m pc ls (.int (nI 0) :: .ref ob :: rest)) := by
  refine va_lald hx hb hK hO 0 2 rfl ht (vp_in_nI (by decide) (by decide)) hdg ?_
  rw [nI_clamp (by decide), hv]
  exact kk
theorem r_lcmp (hx : p.tables.exec = Jvm.exec) (hb : c.code = cc) {x y : Int64} (h : x = y) (hdg : decode cc pc = .ok (.lcmp, 1)) (kk : W p l e R s m args below meth c H locs cells slots Q (F0 m (pc + 1) ls (.int 0 :: rest))) : W p l e R s m args below meth c H locs cells slots Q (F0 m pc ls (.long y :: .long x :: rest)) := by
  subst h
  refine W.lcmp hx hb hdg ?_
  have e : lg_cmp x x = 0 := by
    unfold lg_cmp
    rw [if_neg (by rw [gt_iff_lt, Int64.lt_iff_toInt_lt]; omega), if_pos rfl]
  rw [e]
  exact kk
theorem rz0 {K : Nat} {v : Int32} (h : K = 0) : rz K v = v := if_pos h
theorem rb0 {K : Nat} {b : Bool} (h : K = 0) : rb K b = b := by rw [h]; rfl
theorem nK0 {K : Nat} (hK : K ≤ 3) (h : nI K = 0) : K = 0 := (nI_eq (by omega) (by decide)).mp (h.trans nI_0.symm)
/-- a NaN is like nothing -/
theorem nan_cmp {x y : UInt64} (h : isNaN64 x = true) : FP.dcmp x y = none := by
  have h1 := isNaN64_iff.mp h
  have e : (0x7fffffffffffffff : Nat) = 2 ^ 63 - 1 := by decide
  rw [e, Nat.and_two_pow_sub_one_eq_mod] at h1
  have h2 : FP.Core.decode FP.Core.b64 x.toNat = .nan := by
    unfold FP.Core.decode
    rw [if_pos (by show x.toNat / 2 ^ 52 % 2 ^ 11 = 2 ^ 11 - 1; omega), if_neg (by show ¬ x.toNat % 2 ^ 52 = 0; omega)]
  show FP.Core.order (FP.Core.decode FP.Core.b64 x.toNat) (FP.Core.decode FP.Core.b64 y.toNat) = none
  rw [h2]
  rfl
theorem alike_2 {x y z : UInt64} (h1 : alike64 x z = true) (h2 : alike64 y z = true) : x = y ∨ (isNaN64 x = true ∧ isNaN64 y = true) := by
  unfold alike64 at h1 h2
  simp only [Bool.or_eq_true, decide_eq_true_eq, Bool.and_eq_true] at h1 h2
  rcases h1 with h1 | h1
  · rcases h2 with h2 | h2
    · exact Or.inl (h1.trans h2.symm)
    · exact Or.inr ⟨by rw [h1]; exact h2.2, h2.1⟩
  · rcases h2 with h2 | h2
    · exact Or.inr ⟨h1.1, by rw [h2]; exact h1.2⟩
    · exact Or.inr ⟨h1.1, h2.1⟩
end LFIX
