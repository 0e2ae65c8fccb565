/-! PART 41: a new Sim. -/
section INITX
variable {p : Program} {l : Launch} {e : Env} {R : Room} {s : State} {m : MethodId} {args : Array Value} {below : List Frame} {meth : Method} {c : Code} {H : Heap} {locs : List Loc} {cells slots : Nat} {Q : State → Prop}
variable {y : MethodName} {bytes cc : ByteArray} {maxL nL mc ms n index pc : Nat} {ws : List Cond} {rm : Room} {Ts : List Cond} {own host : String} {b : Nat} {As rest st0 : List Value} {ls : Array Slot} {Pr : State → Prop}
/-- a new object -/
theorem g_new {D : va_G} {tys : List (ClassId × FieldType)} {A0 : Nat → Prop} {H0 : Heap} {C : String} {T : u_T} {N ci : Nat} {fs : List Value} (F : CallFix p m c cc nL s args Ts own) (hin : ∀ w ∈ u_ws C T N, w ∈ Ts) (ty : Nat → FieldType) (hty : ∀ k, k < N → parseFieldDescriptor (T k).2.2.1 = some (ty k)) (hcl : Cond.classLink own index C ∈ Ts) (hinst : Cond.instantiable C N ∈ Ts) (hini : Cond.initialized C ∈ Ts)
    (hK : va_K D vwCl tys s) (hc : vwCl[ci]? = some (C, T, N)) (hfs : ∀ j, j < N → defaultValue (ty j) = vp_V fs j) (hS : va_S A0 H0 H locs) (hcells : cells + 1 ≤ R.cells) (hslots : slots + N ≤ R.slots) (hdg : decode cc pc = .ok (.new index, 3))
    (kk : ∀ (a : Nat) (H1 : Heap), a = H.size → va_at D vwCl (a, .inr (ci, fs)) H1 → KP none_ H H1 → H1.size = H.size + 1 → va_S A0 H0 H1 locs → W p l e R s m args below meth c H1 locs (cells + 1) (slots + N) Q (F0 m (pc + 3) ls (.ref a :: rest))) : W p l e R s m args below meth c H locs cells slots Q (F0 m pc ls rest) := by
  have hKn := hK.1 ci _ hc
  have hw := F.2.2.2.2
  refine W.newcK F.1 F.2.1 F.2.2.2.1 (hw _ hcl) (hw _ hinst) (hw _ hini) rfl hdg hcells hslots hKn.2.1 rfl fun H1 kC hkC e1 z1 o1 => ?_
  have kp : KP none_ H H1 := ⟨by omega, fun q hq _ => o1 q hq⟩
  exact kk H.size H1 rfl ⟨_, hc, (u_born ty hw hin hKn hkC e1 hty).to hfs⟩ kp z1 (kp.S hS (fun q h => h.elim))
/-- a call of a nest mate's constructor -/
theorem r_callIN {P1 : Option Value → Heap → Prop} {Ad A0 : Nat → Prop} {H0 : Heap} (F : CallFix p m c cc nL s args Ts own) (hM : Met l y ws rm (va_Pc (.ref b :: As) Pr) (MQv P1 Ad) mc ms Ad) (cw : va_CN R s args own index y host bytes maxL none ws rm mc ms n ∧ y.name = "<init>" ∧ (Cond.instanceMethod y).before args s = true) (hbl : ∀ U g mk a, Pr U → Pr (U.calling g mk a))
    (hpre : ∀ U : State, U.heap = H → s.WarmedH U.vm → Pr U) (hn : As.length = n) (hsize : ls.size = nL) (hst : st0 = As.reverse ++ .ref b :: rest) (hW : (rest.map fun v => v.category).sum ≤ 8)
    (hdg : decode cc pc = .ok (.invokespecial index, 3)) (hf : cells + mc ≤ R.cells ∧ slots + ms ≤ R.slots) (hS : va_S A0 H0 H locs) (hA : ∀ q, Ad q → A0 q)
    (kk : ∀ (v : Option Value) (H1 : Heap) (locs1 : List Loc), P1 v H1 → KP Ad H H1 → va_S A0 H0 H1 locs1 → W p l e R s m args below meth c H1 locs1 (cells + mc) (slots + ms) Q (F0 m (pc + 3) ls (v.toList ++ rest))) : W p l e R s m args below meth c H locs cells slots Q (F0 m pc ls st0) := by
  intro T hT X
  obtain ⟨v', st₀, t, T', L, h0, X', hL, e1, e2, ⟨v, hv, hp, hF⟩, st⟩ := va_runIN F hM cw ⟨fun a U g mk hq => ⟨hq.1, hbl U g mk a hq.2⟩, fun U hU hW => ⟨rfl, hpre U hU hW⟩⟩ (g := F0 m pc ls st0) rfl hn hsize hst (lv_room hW) hdg hf T hT X
  cases hv
  obtain ⟨k1, k2, k3⟩ := vx_keep h0 e1 hS (fun q _ h => hA q h) hA hL hF
  obtain ⟨t2, a1, b1⟩ := kk v' T'.heap (locs ++ L) (by rw [e1]; exact hp) ⟨k1, k2⟩ k3 T' rfl X'
  exact ⟨t2, st t2 a1, b1⟩
def aI (a0 a1 a2 a3 a4 : Nat) : Nat → Nat := fun k => match k with | 0 => a0 | 1 => a1 | 2 => a2 | 3 => a3 | _ => a4
theorem sV00 {k : Nat} (h : sV 0 0 k) : k = 0 ∨ k = 1 ∨ k = 2 ∨ k = 3 ∨ k = 4 := by
  unfold sV at h
  omega
/-- what a new Sim's constructor needs -/
def BI (D : va_G) (ci cz : ClassId) (cj : ClassId × ClassId) (h0 hz : Nat) (U : State) : Prop := U.heap.size = hz ∧ va_at D vwCl (h0, .inr (1, [.null, .null, .null, .null, .int 0])) U.heap ∧ va_K D vwCl (tyL ci cz cj) U ∧ AOs U
set_option maxHeartbeats 4000000 in
set_option maxRecDepth 100000 in
theorem m_X1_init (l : Launch) {D : va_G} {ci cz : ClassId} {cj : ClassId × ClassId} (h0 hz : Nat) : Met l yX1_init wsX1_init ({ frames := 1, cells := 4, slots := 0, locals := 16 } : Room) (va_Pc [.ref h0] (BI D ci cz cj h0 hz)) (MQv (fun v H => v = none ∧ ∃ A : Nat → Nat, A 0 = h0 ∧ (∀ i j, sV 0 0 i → sV 0 0 j → A i = A j → i = j) ∧ (∀ k, 1 ≤ k → sV 0 0 k → hz ≤ A k) ∧ SS D ci cj A 0 0 (fun _ _ => 0) H) (fun a => a = h0 ∨ hz ≤ a)) 4 0 (fun a => a = h0 ∨ hz ≤ a) := by
  refine Met.ofM (cc := cX1_init) (maxL := 1) (ret := none) (by decide) rfl (Nat.le_of_ble_eq_true rfl) ?_
  intro pg en s m bl mt cd ls Fx hr hlocks hB hl
  obtain ⟨hz9, ho, hK, hO⟩ := hB
  have hl : lv_has ls 1 [(0, .ref h0)] := hl
  have Fx : CallFix pg m cd cX1_init 1 s _ wsX1_init RX1 := Fx
  have hx := Fx.1
  have hb := Fx.2.1
  have hw := Fx.2.2.2.2
  have hin : ∀ w ∈ wsX10, w ∈ wsX1_init := by decide +kernel
  have hS : va_S (fun a => a = h0 ∨ hz ≤ a) s.heap s.heap [] := va_S.rf
  have lt0 : h0 < hz := by rw [← hz9]; exact va_at.lt ho
  refine lv_aload_n hx hb dX1_init_0 rfl (lv_at hl 0 rfl) ?_
  refine W.objInit hx hb Fx.2.2.2.1 (hw (.methodLink RX1 1 objectInit) (by decide +kernel)) (hw (.instanceMethod objectInit) (by decide +kernel)) (hw (.code objectInit ⟨#[0xb1]⟩ 1 none) (by decide +kernel)) rfl (by rw [Fx.2.2.1]; exact hl.1) rfl dX1_init_1 (Nat.le_of_ble_eq_true rfl) (Nat.le_of_ble_eq_true rfl) ?_
  refine W.eq (g2 := F0 m 4 ls []) rfl ?_
  refine lv_aload_n hx hb dX1_init_4 rfl (lv_at hl 0 rfl) ?_
  refine lv_iconst (v := nI 0) hx hb dX1_init_5 (by decide) ?_
  refine g_newa Fx hK 0 rfl (by decide +kernel) hS (by omega) (by decide) (by decide) dX1_init_6 (fun a1 H ea1 h1 kp hsz hS => ?_)
  have ho : va_at D vwCl (h0, .inr (1, [.null, .null, .null, .null, .int 0])) H := kp.at ho (fun h9 => h9.elim)
  refine g_put (ty := .array .int) Fx hin tyX1 tyX1_ok nmX1 hK 1 ho (Or.inl rfl) hS rfl 0 (by decide) (by decide +kernel) rfl (by decide +kernel) rfl rfl (Nat.le_of_ble_eq_true rfl) dX1_init_8 (fun H locs ho kq hS => ?_)
  have ho : va_at D vwCl (h0, .inr (1, [.ref a1, .null, .null, .null, .int 0])) H := ho
  have l1 : h0 < a1 := by omega
  have h1 : isI D ci H a1 0 (fun _ => 0) := kq.at h1 (fun h9 => by have h9 : a1 = h0 := h9; omega)
  have z1 : hz < H.size := by have := kq.1; omega
  refine lv_aload_n hx hb dX1_init_11 rfl (lv_at hl 0 rfl) ?_
  refine lv_iconst (v := nI 0) hx hb dX1_init_12 (by decide) ?_
  refine g_newa Fx hK 0 rfl (by decide +kernel) hS (by omega) (by decide) (by decide) dX1_init_13 (fun a2 H ea2 h2 kp hsz hS => ?_)
  have l2 : a1 < a2 := by rw [ea2]; exact va_at.lt h1
  have ho : va_at D vwCl (h0, .inr (1, [.ref a1, .null, .null, .null, .int 0])) H := kp.at ho (fun h9 => h9.elim)
  have h1 : isI D ci H a1 0 (fun _ => 0) := kp.at h1 (fun h9 => h9.elim)
  refine g_put (ty := .array .int) Fx hin tyX1 tyX1_ok nmX1 hK 1 ho (Or.inl rfl) hS rfl 1 (by decide) (by decide +kernel) rfl (by decide +kernel) rfl rfl (Nat.le_of_ble_eq_true rfl) dX1_init_15 (fun H locs ho kq hS => ?_)
  have ho : va_at D vwCl (h0, .inr (1, [.ref a1, .ref a2, .null, .null, .int 0])) H := ho
  have h1 : isI D ci H a1 0 (fun _ => 0) := kq.at h1 (fun h9 => by have h9 : a1 = h0 := h9; omega)
  have h2 : isI D ci H a2 0 (fun _ => 0) := kq.at h2 (fun h9 => by have h9 : a2 = h0 := h9; omega)
  refine lv_aload_n hx hb dX1_init_18 rfl (lv_at hl 0 rfl) ?_
  refine lv_iconst (v := nI 0) hx hb dX1_init_19 (by decide) ?_
  refine g_newq (nm := "[[I") Fx hK 3 rfl (by decide) (by decide +kernel) hO.2 hS (by omega) (by decide) (by decide) dX1_init_20 (fun a3 H ea3 h3 kp hsz hS => ?_)
  have l3 : a2 < a3 := by rw [ea3]; exact va_at.lt h2
  have ho : va_at D vwCl (h0, .inr (1, [.ref a1, .ref a2, .null, .null, .int 0])) H := kp.at ho (fun h9 => h9.elim)
  have h1 : isI D ci H a1 0 (fun _ => 0) := kp.at h1 (fun h9 => h9.elim)
  have h2 : isI D ci H a2 0 (fun _ => 0) := kp.at h2 (fun h9 => h9.elim)
  refine g_put (ty := .array (.array (.array .int))) Fx hin tyX1 tyX1_ok nmX1 hK 1 ho (Or.inl rfl) hS rfl 2 (by decide) (by decide +kernel) rfl (by decide +kernel) rfl rfl (Nat.le_of_ble_eq_true rfl) dX1_init_23 (fun H locs ho kq hS => ?_)
  have ho : va_at D vwCl (h0, .inr (1, [.ref a1, .ref a2, .ref a3, .null, .int 0])) H := ho
  have h1 : isI D ci H a1 0 (fun _ => 0) := kq.at h1 (fun h9 => by have h9 : a1 = h0 := h9; omega)
  have h2 : isI D ci H a2 0 (fun _ => 0) := kq.at h2 (fun h9 => by have h9 : a2 = h0 := h9; omega)
  have h3 : isR D cj.2 H a3 0 (fun _ => none) := kq.at h3 (fun h9 => by have h9 : a3 = h0 := h9; omega)
  refine lv_aload_n hx hb dX1_init_26 rfl (lv_at hl 0 rfl) ?_
  refine lv_iconst (v := nI 0) hx hb dX1_init_27 (by decide) ?_
  refine g_newq (nm := "[I") Fx hK 2 rfl (by decide) (by decide +kernel) hO.1 hS (by omega) (by decide) (by decide) dX1_init_28 (fun a4 H ea4 h4 kp hsz hS => ?_)
  have l4 : a3 < a4 := by rw [ea4]; exact va_at.lt h3
  have ho : va_at D vwCl (h0, .inr (1, [.ref a1, .ref a2, .ref a3, .null, .int 0])) H := kp.at ho (fun h9 => h9.elim)
  have h1 : isI D ci H a1 0 (fun _ => 0) := kp.at h1 (fun h9 => h9.elim)
  have h2 : isI D ci H a2 0 (fun _ => 0) := kp.at h2 (fun h9 => h9.elim)
  have h3 : isR D cj.2 H a3 0 (fun _ => none) := kp.at h3 (fun h9 => h9.elim)
  refine g_put (ty := .array (.array .int)) Fx hin tyX1 tyX1_ok nmX1 hK 1 ho (Or.inl rfl) hS rfl 3 (by decide) (by decide +kernel) rfl (by decide +kernel) rfl rfl (Nat.le_of_ble_eq_true rfl) dX1_init_31 (fun H locs ho kq hS => ?_)
  have ho : va_at D vwCl (h0, .inr (1, [.ref a1, .ref a2, .ref a3, .ref a4, .int 0])) H := ho
  have h1 : isI D ci H a1 0 (fun _ => 0) := kq.at h1 (fun h9 => by have h9 : a1 = h0 := h9; omega)
  have h2 : isI D ci H a2 0 (fun _ => 0) := kq.at h2 (fun h9 => by have h9 : a2 = h0 := h9; omega)
  have h3 : isR D cj.2 H a3 0 (fun _ => none) := kq.at h3 (fun h9 => by have h9 : a3 = h0 := h9; omega)
  have h4 : isR D cj.1 H a4 0 (fun _ => none) := kq.at h4 (fun h9 => by have h9 : a4 = h0 := h9; omega)
  have hQ : SP D ci cj (aI h0 a1 a2 a3 a4) 0 0 (fun _ _ => 0) (fun _ _ => 0) H := by
    intro k hk
    rcases sV00 hk with rfl | rfl | rfl | rfl | rfl
    · exact ho
    · exact h1
    · exact h2
    · exact h3.cg (fun j hj => absurd hj (Nat.not_lt_zero _))
    · exact h4.cg (fun j hj => absurd hj (Nat.not_lt_zero _))
  have hz1 : hz ≤ a1 := by omega
  refine m_vret hx hb hr hlocks hS ⟨rfl, aI h0 a1 a2 a3 a4, rfl, ?_, ?_, fun _ _ => 0, ?_, hQ⟩ (Nat.le_of_ble_eq_true rfl) (Nat.le_of_ble_eq_true rfl) dX1_init_34
  · intro i j hi hj e9
    rcases sV00 hi with rfl | rfl | rfl | rfl | rfl <;> rcases sV00 hj with rfl | rfl | rfl | rfl | rfl <;> first | rfl | (exfalso; simp only [aI] at e9; omega)
  · intro k hk1 hk
    rcases sV00 hk with rfl | rfl | rfl | rfl | rfl
    · omega
    · exact hz1
    · show hz ≤ a2; omega
    · show hz ≤ a3; omega
    · show hz ≤ a4; omega
  · intro f w hf
    exact absurd hf (Nat.not_lt_zero _)
theorem BI.bl {D : va_G} {ci cz : ClassId} {cj : ClassId × ClassId} {h0 hz : Nat} (U : State) (fr : JFrame) (mk : MethodId) (a : Array Value) (h : BI D ci cz cj h0 hz U) : BI D ci cz cj h0 hz (U.calling fr mk a) :=
  ⟨h.1, h.2.1, va_K.moved (u := U) (U := U.calling fr mk a) (Vm.Alike.refl U.vm) h.2.2.1, AOs.moved (u := U) (U := U.calling fr mk a) (Vm.Alike.refl U.vm) h.2.2.2⟩
/-- the script, and the link to the Sim's constructor -/
def XB (b L : Nat) (xs : Nat → Int32) (U : State) : Prop := va_X b L xs U U.heap ∧ b < U.heap.size
def NW (U : State) : Prop := va_Nw (.methodLinkNest RL 97 yX1_init RL) U
theorem XB.bl {L : Nat} {xs : Nat → Int32} (U : State) (fr : JFrame) (mk : MethodId) (a : Array Value) (h : XB b L xs U) : XB b L xs (U.calling fr mk a) := ⟨va_X.moved (u := U) (U := U.calling fr mk a) (Vm.Alike.refl U.vm) h.1, h.2⟩
theorem XB.at {L sz : Nat} {xs : Nat → Int32} (h : XB b L xs s) (hb : b < sz) (hS : va_S (bg sz) s.heap H locs) (U : State) (hU : U.heap = H) (hW : s.WarmedH U.vm) : XB b L xs U :=
  ⟨by rw [hU]; exact va_X.moved hW.alike (h.1.kept (hS.2.1 b h.2 (Nat.not_le.mpr hb))), by rw [hU]; exact Nat.lt_of_lt_of_le h.2 hS.1⟩
theorem NW.bl (U : State) (fr : JFrame) (mk : MethodId) (a : Array Value) (h : NW U) : NW (U.calling fr mk a) := va_Nw.warmM (s := U) (U := U.calling fr mk a) (State.WarmedH.refl U) h
theorem NW.at (h : NW s) (U : State) (hW : s.WarmedH U.vm) : NW U := va_Nw.warmM hW h
end INITX
