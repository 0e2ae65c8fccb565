section
-- ===== PART A: goes FIRST, ahead of the names: the tables' words, and 'selects' of the private methods out of them =====
/-- a private method of a class that the tables say can be made, by its rows of tables_1 -/
def lw_okq (q : MethodName × Nat) : Prop := (q.1.cls ≠ "java/lang/invoke/MethodHandle" ∧ q.1.cls ≠ "java/lang/invoke/VarHandle") ∧ Cond.instantiable q.1.cls q.2 ∈ tables_1 ∧ Cond.privateMethod q.1 ∈ tables_1 ∧ Cond.instanceMethod q.1 ∈ tables_1
theorem lw_p0 : lw_okq (⟨"FerryRights", "needFerry", "(I)V"⟩, 10) := ⟨⟨by decide +kernel, by decide +kernel⟩, List.mem_of_getElem? (i := 11) (by decide +kernel), List.mem_of_getElem? (i := 56) (by decide +kernel), List.mem_of_getElem? (i := 57) (by decide +kernel)⟩
theorem lw_p1 : lw_okq (⟨"java/lang/Throwable", "fillInStackTrace", "(I)Ljava/lang/Throwable;"⟩, 6) := ⟨⟨by decide +kernel, by decide +kernel⟩, List.mem_of_getElem? (i := 98) (by decide +kernel), List.mem_of_getElem? (i := 96) (by decide +kernel), List.mem_of_getElem? (i := 97) (by decide +kernel)⟩
theorem lw_p2 : lw_okq (⟨"FerryRights", "fareOf", "(IIII)I"⟩, 10) := ⟨⟨by decide +kernel, by decide +kernel⟩, List.mem_of_getElem? (i := 11) (by decide +kernel), List.mem_of_getElem? (i := 151) (by decide +kernel), List.mem_of_getElem? (i := 152) (by decide +kernel)⟩
theorem lw_p3 : lw_okq (⟨"FerryRights", "owns", "(III)I"⟩, 10) := ⟨⟨by decide +kernel, by decide +kernel⟩, List.mem_of_getElem? (i := 11) (by decide +kernel), List.mem_of_getElem? (i := 155) (by decide +kernel), List.mem_of_getElem? (i := 156) (by decide +kernel)⟩
theorem lw_p4 : lw_okq (⟨"FerryRights", "addCoins", "(II)V"⟩, 10) := ⟨⟨by decide +kernel, by decide +kernel⟩, List.mem_of_getElem? (i := 11) (by decide +kernel), List.mem_of_getElem? (i := 162) (by decide +kernel), List.mem_of_getElem? (i := 163) (by decide +kernel)⟩
theorem lw_p5 : lw_okq (⟨"FerryRights", "needPerson", "(I)V"⟩, 10) := ⟨⟨by decide +kernel, by decide +kernel⟩, List.mem_of_getElem? (i := 11) (by decide +kernel), List.mem_of_getElem? (i := 185) (by decide +kernel), List.mem_of_getElem? (i := 186) (by decide +kernel)⟩
theorem lw_p6 : lw_okq (⟨"FerryRights", "crownOwns", "(II)I"⟩, 10) := ⟨⟨by decide +kernel, by decide +kernel⟩, List.mem_of_getElem? (i := 11) (by decide +kernel), List.mem_of_getElem? (i := 194) (by decide +kernel), List.mem_of_getElem? (i := 195) (by decide +kernel)⟩
theorem lw_p7 : lw_okq (⟨"FerryRights", "findMaster", "(I)I"⟩, 10) := ⟨⟨by decide +kernel, by decide +kernel⟩, List.mem_of_getElem? (i := 11) (by decide +kernel), List.mem_of_getElem? (i := 206) (by decide +kernel), List.mem_of_getElem? (i := 207) (by decide +kernel)⟩
theorem lw_p8 : lw_okq (⟨"FerryRights", "countSharesOfFerry", "(II)I"⟩, 10) := ⟨⟨by decide +kernel, by decide +kernel⟩, List.mem_of_getElem? (i := 11) (by decide +kernel), List.mem_of_getElem? (i := 210) (by decide +kernel), List.mem_of_getElem? (i := 211) (by decide +kernel)⟩
theorem lw_p9 : lw_okq (⟨"FerryRights", "worth", "(II)I"⟩, 10) := ⟨⟨by decide +kernel, by decide +kernel⟩, List.mem_of_getElem? (i := 11) (by decide +kernel), List.mem_of_getElem? (i := 238) (by decide +kernel), List.mem_of_getElem? (i := 239) (by decide +kernel)⟩
theorem lw_p10 : lw_okq (⟨"FerryRights", "countAllShares", "(I)I"⟩, 10) := ⟨⟨by decide +kernel, by decide +kernel⟩, List.mem_of_getElem? (i := 11) (by decide +kernel), List.mem_of_getElem? (i := 268) (by decide +kernel), List.mem_of_getElem? (i := 269) (by decide +kernel)⟩
theorem lw_p11 : lw_okq (⟨"FerryRights", "countHeirs", "(I)I"⟩, 10) := ⟨⟨by decide +kernel, by decide +kernel⟩, List.mem_of_getElem? (i := 11) (by decide +kernel), List.mem_of_getElem? (i := 285) (by decide +kernel), List.mem_of_getElem? (i := 286) (by decide +kernel)⟩
theorem lw_p12 : lw_okq (⟨"FerryRights", "countHeirsBelow", "(II)I"⟩, 10) := ⟨⟨by decide +kernel, by decide +kernel⟩, List.mem_of_getElem? (i := 11) (by decide +kernel), List.mem_of_getElem? (i := 289) (by decide +kernel), List.mem_of_getElem? (i := 290) (by decide +kernel)⟩
theorem lw_p13 : lw_okq (⟨"FerryRights", "isHeir", "(II)Z"⟩, 10) := ⟨⟨by decide +kernel, by decide +kernel⟩, List.mem_of_getElem? (i := 11) (by decide +kernel), List.mem_of_getElem? (i := 293) (by decide +kernel), List.mem_of_getElem? (i := 294) (by decide +kernel)⟩
theorem lw_p14 : lw_okq (⟨"FerryRights", "hasLivingChild", "(I)Z"⟩, 10) := ⟨⟨by decide +kernel, by decide +kernel⟩, List.mem_of_getElem? (i := 11) (by decide +kernel), List.mem_of_getElem? (i := 297) (by decide +kernel), List.mem_of_getElem? (i := 298) (by decide +kernel)⟩
theorem lw_p15 : lw_okq (⟨"FerryRights", "findHeir", "(II)I"⟩, 10) := ⟨⟨by decide +kernel, by decide +kernel⟩, List.mem_of_getElem? (i := 11) (by decide +kernel), List.mem_of_getElem? (i := 305) (by decide +kernel), List.mem_of_getElem? (i := 306) (by decide +kernel)⟩
def lw_privs_1 : List (MethodName × Nat) := [(⟨"FerryRights", "needFerry", "(I)V"⟩, 10), (⟨"java/lang/Throwable", "fillInStackTrace", "(I)Ljava/lang/Throwable;"⟩, 6), (⟨"FerryRights", "fareOf", "(IIII)I"⟩, 10), (⟨"FerryRights", "owns", "(III)I"⟩, 10), (⟨"FerryRights", "addCoins", "(II)V"⟩, 10), (⟨"FerryRights", "needPerson", "(I)V"⟩, 10), (⟨"FerryRights", "crownOwns", "(II)I"⟩, 10), (⟨"FerryRights", "findMaster", "(I)I"⟩, 10), (⟨"FerryRights", "countSharesOfFerry", "(II)I"⟩, 10), (⟨"FerryRights", "worth", "(II)I"⟩, 10), (⟨"FerryRights", "countAllShares", "(I)I"⟩, 10), (⟨"FerryRights", "countHeirs", "(I)I"⟩, 10), (⟨"FerryRights", "countHeirsBelow", "(II)I"⟩, 10), (⟨"FerryRights", "isHeir", "(II)Z"⟩, 10), (⟨"FerryRights", "hasLivingChild", "(I)Z"⟩, 10), (⟨"FerryRights", "findHeir", "(II)I"⟩, 10)]
theorem lw_r1 : ∀ q ∈ lw_privs_1, lw_okq q := List.forall_mem_cons.mpr ⟨lw_p0, List.forall_mem_cons.mpr ⟨lw_p1, List.forall_mem_cons.mpr ⟨lw_p2, List.forall_mem_cons.mpr ⟨lw_p3, List.forall_mem_cons.mpr ⟨lw_p4, List.forall_mem_cons.mpr ⟨lw_p5, List.forall_mem_cons.mpr ⟨lw_p6, List.forall_mem_cons.mpr ⟨lw_p7, List.forall_mem_cons.mpr ⟨lw_p8, List.forall_mem_cons.mpr ⟨lw_p9, List.forall_mem_cons.mpr ⟨lw_p10, List.forall_mem_cons.mpr ⟨lw_p11, List.forall_mem_cons.mpr ⟨lw_p12, List.forall_mem_cons.mpr ⟨lw_p13, List.forall_mem_cons.mpr ⟨lw_p14, List.forall_mem_cons.mpr ⟨lw_p15, fun _ h => absurd h List.not_mem_nil⟩⟩⟩⟩⟩⟩⟩⟩⟩⟩⟩⟩⟩⟩⟩⟩
theorem lw_p16 : lw_okq (⟨"FerryRights", "priceOf", "(III)I"⟩, 10) := ⟨⟨by decide +kernel, by decide +kernel⟩, List.mem_of_getElem? (i := 11) (by decide +kernel), List.mem_of_getElem? (i := 318) (by decide +kernel), List.mem_of_getElem? (i := 319) (by decide +kernel)⟩
theorem lw_p17 : lw_okq (⟨"FerryRights", "needSale", "(IIII)V"⟩, 10) := ⟨⟨by decide +kernel, by decide +kernel⟩, List.mem_of_getElem? (i := 11) (by decide +kernel), List.mem_of_getElem? (i := 326) (by decide +kernel), List.mem_of_getElem? (i := 327) (by decide +kernel)⟩
theorem lw_p18 : lw_okq (⟨"FerryRights", "mayBuy", "(IIII)Z"⟩, 10) := ⟨⟨by decide +kernel, by decide +kernel⟩, List.mem_of_getElem? (i := 11) (by decide +kernel), List.mem_of_getElem? (i := 330) (by decide +kernel), List.mem_of_getElem? (i := 331) (by decide +kernel)⟩
theorem lw_p19 : lw_okq (⟨"FerryRights", "otherOwnerHas", "(IIII)Z"⟩, 10) := ⟨⟨by decide +kernel, by decide +kernel⟩, List.mem_of_getElem? (i := 11) (by decide +kernel), List.mem_of_getElem? (i := 334) (by decide +kernel), List.mem_of_getElem? (i := 335) (by decide +kernel)⟩
theorem lw_p20 : lw_okq (⟨"FerryRights", "mixFerry", "(JI)J"⟩, 10) := ⟨⟨by decide +kernel, by decide +kernel⟩, List.mem_of_getElem? (i := 11) (by decide +kernel), List.mem_of_getElem? (i := 364) (by decide +kernel), List.mem_of_getElem? (i := 365) (by decide +kernel)⟩
theorem lw_p21 : lw_okq (⟨"FerryRights", "mixPerson", "(JI)J"⟩, 10) := ⟨⟨by decide +kernel, by decide +kernel⟩, List.mem_of_getElem? (i := 11) (by decide +kernel), List.mem_of_getElem? (i := 368) (by decide +kernel), List.mem_of_getElem? (i := 369) (by decide +kernel)⟩
theorem lw_p22 : lw_okq (⟨"FerryRights", "countChildren", "(I)I"⟩, 10) := ⟨⟨by decide +kernel, by decide +kernel⟩, List.mem_of_getElem? (i := 11) (by decide +kernel), List.mem_of_getElem? (i := 372) (by decide +kernel), List.mem_of_getElem? (i := 373) (by decide +kernel)⟩
theorem lw_p23 : lw_okq (⟨"FerryRightsLaw$Sim", "living", "(II)[I"⟩, 5) := ⟨⟨by decide +kernel, by decide +kernel⟩, List.mem_of_getElem? (i := 431) (by decide +kernel), List.mem_of_getElem? (i := 429) (by decide +kernel), List.mem_of_getElem? (i := 430) (by decide +kernel)⟩
theorem lw_p24 : lw_okq (⟨"FerryRights", "needRoomForPerson", "()V"⟩, 10) := ⟨⟨by decide +kernel, by decide +kernel⟩, List.mem_of_getElem? (i := 11) (by decide +kernel), List.mem_of_getElem? (i := 492) (by decide +kernel), List.mem_of_getElem? (i := 493) (by decide +kernel)⟩
theorem lw_p25 : lw_okq (⟨"FerryRights", "settle", "(I)I"⟩, 10) := ⟨⟨by decide +kernel, by decide +kernel⟩, List.mem_of_getElem? (i := 11) (by decide +kernel), List.mem_of_getElem? (i := 497) (by decide +kernel), List.mem_of_getElem? (i := 498) (by decide +kernel)⟩
theorem lw_p26 : lw_okq (⟨"FerryRights", "needAlive", "(I)V"⟩, 10) := ⟨⟨by decide +kernel, by decide +kernel⟩, List.mem_of_getElem? (i := 11) (by decide +kernel), List.mem_of_getElem? (i := 505) (by decide +kernel), List.mem_of_getElem? (i := 506) (by decide +kernel)⟩
theorem lw_p27 : lw_okq (⟨"FerryRights", "addShares", "(IIII)V"⟩, 10) := ⟨⟨by decide +kernel, by decide +kernel⟩, List.mem_of_getElem? (i := 11) (by decide +kernel), List.mem_of_getElem? (i := 530) (by decide +kernel), List.mem_of_getElem? (i := 531) (by decide +kernel)⟩
theorem lw_p28 : lw_okq (⟨"FerryRights", "hand", "(IIII)V"⟩, 10) := ⟨⟨by decide +kernel, by decide +kernel⟩, List.mem_of_getElem? (i := 11) (by decide +kernel), List.mem_of_getElem? (i := 569) (by decide +kernel), List.mem_of_getElem? (i := 570) (by decide +kernel)⟩
theorem lw_p29 : lw_okq (⟨"FerryRights", "bury", "(I)V"⟩, 10) := ⟨⟨by decide +kernel, by decide +kernel⟩, List.mem_of_getElem? (i := 11) (by decide +kernel), List.mem_of_getElem? (i := 573) (by decide +kernel), List.mem_of_getElem? (i := 574) (by decide +kernel)⟩
def lw_privs_2 : List (MethodName × Nat) := [(⟨"FerryRights", "priceOf", "(III)I"⟩, 10), (⟨"FerryRights", "needSale", "(IIII)V"⟩, 10), (⟨"FerryRights", "mayBuy", "(IIII)Z"⟩, 10), (⟨"FerryRights", "otherOwnerHas", "(IIII)Z"⟩, 10), (⟨"FerryRights", "mixFerry", "(JI)J"⟩, 10), (⟨"FerryRights", "mixPerson", "(JI)J"⟩, 10), (⟨"FerryRights", "countChildren", "(I)I"⟩, 10), (⟨"FerryRightsLaw$Sim", "living", "(II)[I"⟩, 5), (⟨"FerryRights", "needRoomForPerson", "()V"⟩, 10), (⟨"FerryRights", "settle", "(I)I"⟩, 10), (⟨"FerryRights", "needAlive", "(I)V"⟩, 10), (⟨"FerryRights", "addShares", "(IIII)V"⟩, 10), (⟨"FerryRights", "hand", "(IIII)V"⟩, 10), (⟨"FerryRights", "bury", "(I)V"⟩, 10)]
theorem lw_r2 : ∀ q ∈ lw_privs_2, lw_okq q := List.forall_mem_cons.mpr ⟨lw_p16, List.forall_mem_cons.mpr ⟨lw_p17, List.forall_mem_cons.mpr ⟨lw_p18, List.forall_mem_cons.mpr ⟨lw_p19, List.forall_mem_cons.mpr ⟨lw_p20, List.forall_mem_cons.mpr ⟨lw_p21, List.forall_mem_cons.mpr ⟨lw_p22, List.forall_mem_cons.mpr ⟨lw_p23, List.forall_mem_cons.mpr ⟨lw_p24, List.forall_mem_cons.mpr ⟨lw_p25, List.forall_mem_cons.mpr ⟨lw_p26, List.forall_mem_cons.mpr ⟨lw_p27, List.forall_mem_cons.mpr ⟨lw_p28, List.forall_mem_cons.mpr ⟨lw_p29, fun _ h => absurd h List.not_mem_nil⟩⟩⟩⟩⟩⟩⟩⟩⟩⟩⟩⟩⟩⟩
def lw_privs : List (MethodName × Nat) := lw_privs_1 ++ (lw_privs_2)
def lw_tbl : List Cond := k2_sels lw_privs ++ tables_1
theorem lw_privs_ok : ∀ q ∈ lw_privs, lw_okq q := by
  show ∀ q ∈ lw_privs_1 ++ (lw_privs_2), lw_okq q
  exact List.forall_mem_append.mpr ⟨lw_r1, lw_r2⟩
/-- the streams that the claim lets the run draw from -/
abbrev lw_cs : List Choice := [Jvm.Choice.named "NaN.bits"]
theorem lw_bits : nanBits ∈ lw_cs := by first | decide | exact List.mem_cons_self | simp [lw_cs, nanBits]
end
section
/-! ===== BEGIN words of one list among another's, by their places ===== -/
theorem goodIn_r {big : List Cond} (ws : List Cond) (ps : List Nat) (hp : ws = ps.filterMap (fun i => big[i]?)) (h : ws.all goodWord = true) : GoodIn big ws := by
  intro w hw
  have h1 := List.all_eq_true.mp h w hw
  rw [hp] at hw
  obtain ⟨i, -, hi⟩ := List.mem_filterMap.mp hw
  have hm : w ∈ big := by first | exact List.mem_of_getElem? hi | exact List.getElem?_mem hi
  exact ⟨hm, good_of_word h1⟩
theorem goodIn_app {big a b : List Cond} (ha : GoodIn big a) (hb : GoodIn big b) : GoodIn big (a ++ b) := fun w h => (List.mem_append.mp h).elim (ha w) (hb w)
theorem goodIn_ca {big a b : List Cond} {c : Cond} (ha : GoodIn big (c :: a)) (hb : GoodIn big b) : GoodIn big (c :: (a ++ b)) := fun w h => (List.mem_cons.mp h).elim (fun e => ha w (List.mem_cons.mpr (Or.inl e))) (fun h => (List.mem_append.mp h).elim (fun h => ha w (List.mem_cons.mpr (Or.inr h))) (hb w))
theorem goodIn_sub {big ws : List Cond} (hm : ∀ w ∈ ws, w ∈ big) (h : ws.all goodWord = true) : GoodIn big ws := fun w hw => ⟨hm w hw, good_of_word (List.all_eq_true.mp h w hw)⟩
/-! ===== END ===== -/

/-! ===== BEGIN exceptions that leave a method, and their catching by the caller (launches without stack traces) ===== -/
section VXA
/-! The laws vx_back, vx_callV, vx_callS, vx_callSW, vx_throw0, vx_throwS follow proofs of the library, with one case more: JvmDerived/Free/Laws.lean (Back.of_free), Shelf42/LK1.lean (callV, callS), Shelf/KitTraced.lean (throwNew0V, throwNewS). -/
/-- where a method has thrown q: the class by its name, the cell, what was written, the world -/
def vx_T (XC : String → State → State → Prop) (st : State) (q : Addr) (t : State) (mc ms : Nat) (free : Addr → Prop) : Prop :=
  ∃ (E : String) (ce : Cell) (L : List Loc), XC E st t ∧ t.heap[q]? = some ce ∧ ce.vm = .none ∧ st.vm.findClass E = some ce.cls ∧ st.WarmedH t.vm ∧ st.sameButNew ({ t with vm := st.vm } : State) L mc ms ∧ ∀ z ∈ L, free z.base
def vx_Q (Qc : Array Value → State → Outcome → State → Prop) (XC : String → State → State → Prop) (mc ms : Nat) (free : Addr → Prop) : Array Value → State → Outcome → State → Prop := fun a st o t =>
  (Qc a st o t ∧ ∃ L, FrameEnd st o t L mc ms ∧ ∀ q ∈ L, free q.base) ∨ ∃ q, o = .threw q ∧ vx_T XC st q t mc ms free
/-- a callee that returns or throws -/
def vx_Met (l : Launch) (y : MethodName) (ws : List Cond) (rm : Room) (Pc : Array Value → State → Prop) (Qc : Array Value → State → Outcome → State → Prop) (XC : String → State → State → Prop) (mc ms : Nat) (free : Addr → Prop) : Prop :=
  MetFree l y (headSpec ws rm) Pc (fun _ _ _ _ _ => True) (vx_Q Qc XC mc ms free)
def vx_Post (XC : String → State → State → Prop) (mc ms : Nat) (free : Addr → Prop) : Pt → Array Value → Addr → Pt → Prop := fun A a q B =>
  ∃ (g : JFrame) (mk : MethodId) (t : State) (L : List Loc) (E : String) (ce : Cell), B.U.heap = t.heap ∧ B.U.vm = t.vm ∧ XC E (A.U.calling g mk a) t ∧ t.heap[q]? = some ce ∧ ce.vm = .none ∧ A.U.vm.findClass E = some ce.cls ∧ B.locs = A.locs ++ L ∧ (∀ z ∈ L, free z.base) ∧ B.cells = A.cells + mc ∧ B.slots = A.slots + ms
def vx_Back (l : Launch) (R : Room) (p : Program) (e : Env) (below : List Frame) (s : State) (sargs : Array Value) (y : MethodName) (len W9 : Nat)
    (Pre : Pt → Array Value → Prop) (Post : Pt → Array Value → Option Value → Pt → Prop) (PostX : Pt → Array Value → Addr → Pt → Prop) : Prop :=
  ∀ (m : MethodId) (meth : Method) (c : Code) (A : Pt) (g : JFrame) (ig : Instr) (mk : MethodId) (a : Array Value),
    Stand p l e R s m sargs below meth c A.U A.locs A.cells A.slots → g.method = m → g.locals.size = c.maxLocals → decode c.code g.pc = .ok (ig, len) →
    2 * g.monitorRoom + (g.stack.map fun v => v.category).sum ≤ W9 → A.U.methodNamed? y = some mk → Pre A a →
    (∃ (v : Option Value) (B : Pt), Stand p l e R s m sargs below meth c B.U B.locs B.cells B.slots ∧ Post A a v B ∧
      Steps p.tables e below (doInvoke e (A.U.setTop g) [] mk a).1 (B.U.setTop { g with pc := g.pc + len, stack := v.toList ++ g.stack })) ∨
    (∃ (q : Addr) (B : Pt), Stand p l e R s m sargs below meth c B.U B.locs B.cells B.slots ∧ PostX A a q B ∧
      Steps p.tables e below (doInvoke e (A.U.setTop g) [] mk a).1 ((B.U.setTop g).pushFrame (.throwing q)))
section Payer
variable {l : Launch} {R : Room} {p : Program} {e : Env} {below : List Frame} {s : State} {sargs : Array Value} {y : MethodName} {len W9 : Nat}
theorem vx_back {ws : List Cond} {rm : Room} {Pc : Array Value → State → Prop} {Qc : Array Value → State → Outcome → State → Prop} {XC : String → State → State → Prop} {mc ms : Nat} {free : Addr → Prop} {bytes : ByteArray} {maxL : Nat} {ret : Option FieldType}
    (hM : vx_Met l y ws rm Pc Qc XC mc ms free) (hblind : FrameBlind Pc) (hrc : rm.cells = mc) (hrs : rm.slots = ms)
    (hframes : rm.frames + 1 ≤ R.frames) (hlocals : W9 + (maxL + 11) + rm.locals ≤ R.locals)
    (hws : ∀ w ∈ ws, ∀ a' U, s.WarmedH U.vm → w.before a' U = true) (hcode : Cond.code y bytes maxL ret ∈ ws) (hinit : ∀ a' U, s.WarmedH U.vm → (Cond.initialized y.cls).before a' U = true) :
    vx_Back l R p e below s sargs y len W9 (PreOf R mc ms Pc) (PostOf Qc mc ms free) (vx_Post XC mc ms free) := by
  intro m meth c A g ig mk a X hg hsize hdg hW hn hp
  have h1 : (headSpec ws rm).pre.before a A.U = true := atoms_intro fun w hw => hws w hw _ _ X.warmed
  have h2 : (Cond.code y bytes maxL ret).before a A.U = true := hws _ hcode _ _ X.warmed
  have h3 : (Cond.initialized y.cls).before a A.U = true := hinit _ _ X.warmed
  have h4 : A.cells + (headSpec ws rm).room.cells ≤ R.cells := by rw [show (headSpec ws rm).room.cells = mc from hrc]; exact hp.1
  have h5 : A.slots + (headSpec ws rm).room.slots ≤ R.slots := by rw [show (headSpec ws rm).room.slots = ms from hrs]; exact hp.2.1
  have hPc : Pc a (A.U.calling g mk a) := hblind _ _ _ _ hp.2.2
  obtain ⟨U, Ls, c0, s0⟩ := A
  dsimp only [Pt.U, Pt.locs, Pt.cells, Pt.slots] at h1 h2 h3 h4 h5 X hn hPc ⊢
  obtain ⟨methY, cY, hmY, hcY, -, hlY, -, -, -, -⟩ := Cond.code_spec hn h2
  obtain ⟨kY, hkY, -⟩ := className_of_methodNamed hn
  have hinitY : kY.init = .initialized := Cond.initialized_spec (findClass_of_methodNamed hn) hkY h3
  have h : At U g.method c below := by rw [hg]; exact X.here
  have hlocals9 : W9 + (maxL + 11) + (headSpec ws rm).room.locals ≤ R.locals := hlocals
  have happ : (headSpec ws rm).appliesLoose y e.platform (U.calling g mk a) = true :=
    Spec.appliesLoose_calling (g := g) h hdg hn hkY hinitY
      (X.room_calling (g := g) (R' := (headSpec ws rm).room) hsize hmY hcY hframes (by rw [hlY]; omega) h4 h5) h1
  obtain ⟨mid, hmid⟩ := h.above
  have hfr : (U.setTop g).frames = (.java g :: mid) ++ below := by rw [State.frames_setTop' g h.top, hmid]; rfl
  obtain ⟨o, s₂, hsteps, -, hend, hq⟩ := Steps.callFree hM p X.admits X.cas X.clock (acts := []) hfr happ hPc trivial
  have hq' : vx_Q Qc XC mc ms free a (U.calling g mk a) o s₂ := hq
  rw [State.frames_setTop' g h.top] at hend
  obtain ⟨g₀, hg0⟩ := Option.isSome_iff_exists.mp h.top
  obtain ⟨r, hr⟩ := State.topJava?_eq_some.mp hg0
  have hr' : (({ U with heap := s₂.heap, slotsUsed := s₂.slotsUsed } : State).setVm s₂.vm).frames = .java g₀ :: r := hr
  rcases hq' with ⟨hqc, L, hfe, hL⟩ | ⟨q, rfl, E, ce, L, hx, hce, hcv, hcl, hW₂, hsm, hL⟩
  · obtain ⟨⟨v, rfl⟩, hW₂, e2, q2, q3, q4, q5, q6⟩ := id hfe
    have e3 : s₂ = ({ (U.calling g mk a).setFrames s₂.frames with heap := s₂.heap, slotsUsed := s₂.slotsUsed } : State).setVm s₂.vm := by
      have : s₂ = ({ s₂ with vm := (U.calling g mk a).vm } : State).setVm s₂.vm := rfl
      rw [e2] at this
      exact this
    obtain ⟨c₂, i₂, len₂, hc₂, hd₂, hf₂⟩ := hend
    have hW' : U.WarmedH s₂.vm := hW₂
    have hcc : c₂ = c := by
      have h1 : s₂.code? g.method = U.code? g.method := by
        rw [State.code?_eq, State.code?_eq, hW'.alike.method?]
      exact Option.some.inj (hc₂.symm.trans (h1.trans h.code))
    subst hcc
    have hlen : len₂ = len := by rw [hdg] at hd₂; cases hd₂; rfl
    subst hlen
    have hs₂ : s₂ = (({ U with heap := s₂.heap, slotsUsed := s₂.slotsUsed } : State).setVm s₂.vm).setTop { g with pc := g.pc + len₂, stack := v.toList ++ g.stack } := by
      refine e3.trans ?_
      rw [hf₂, State.calling_eq h.top, State.setFrames_setFrames, State.setTop_of_frames _ hr', hr]
      rfl
    have hsame : U.sameButNew ({ U with heap := s₂.heap, slotsUsed := s₂.slotsUsed } : State) L mc ms := by
      refine ⟨?_, q2, q3, q4, q5, q6⟩
      obtain ⟨t, ht, -⟩ := State.frames_cons hr
      show ({ U with heap := s₂.heap, slotsUsed := s₂.slotsUsed } : State) = { U.setFrames U.frames with heap := s₂.heap, slotsUsed := s₂.slotsUsed }
      rw [State.setFrames_self ht]
    subst hg
    refine Or.inl ⟨v, ⟨(({ U with heap := s₂.heap, slotsUsed := s₂.slotsUsed } : State).setVm s₂.vm), Ls ++ L, c0 + mc, s0 + ms⟩,
      ⟨X.admits, X.cas, X.clock, X.frames, X.room, X.hears, X.method, X.code, (X.here.setHeapUsed s₂.heap s₂.slotsUsed).setVm hW'.alike, X.tail, State.WarmedH.trans X.warmed hW', X.limits, X.bytes, X.same.trans (hsame.setVm s.vm)⟩,
      ⟨g, mk, s₂, L, rfl, rfl, hqc, rfl, hL, rfl, rfl⟩, ?_⟩
    show Steps p.tables e below _ ((({ U with heap := s₂.heap, slotsUsed := s₂.slotsUsed } : State).setVm s₂.vm).setTop { g with pc := g.pc + len₂, stack := v.toList ++ g.stack })
    rw [← hs₂]
    exact hsteps
  · obtain ⟨e2, q2, q3, q4, q5, q6⟩ := id hsm
    have e3 : s₂ = ({ (U.calling g mk a).setFrames s₂.frames with heap := s₂.heap, slotsUsed := s₂.slotsUsed } : State).setVm s₂.vm := by
      have : s₂ = ({ s₂ with vm := (U.calling g mk a).vm } : State).setVm s₂.vm := rfl
      rw [e2] at this
      exact this
    have hf₂ : s₂.frames = .throwing q :: .java g :: U.frames.tail := hend
    have hW' : U.WarmedH s₂.vm := hW₂
    have hs₂ : s₂ = ((({ U with heap := s₂.heap, slotsUsed := s₂.slotsUsed } : State).setVm s₂.vm).setTop g).pushFrame (.throwing q) := by
      refine e3.trans ?_
      rw [hf₂, State.calling_eq h.top, State.setFrames_setFrames, State.pushFrame, State.frames_setTop _ hr', State.setTop_of_frames _ hr', State.setFrames_setFrames, hr]
      rfl
    have hsame : U.sameButNew ({ U with heap := s₂.heap, slotsUsed := s₂.slotsUsed } : State) L mc ms := by
      refine ⟨?_, q2, q3, q4, q5, q6⟩
      obtain ⟨t, ht, -⟩ := State.frames_cons hr
      show ({ U with heap := s₂.heap, slotsUsed := s₂.slotsUsed } : State) = { U.setFrames U.frames with heap := s₂.heap, slotsUsed := s₂.slotsUsed }
      rw [State.setFrames_self ht]
    subst hg
    refine Or.inr ⟨q, ⟨(({ U with heap := s₂.heap, slotsUsed := s₂.slotsUsed } : State).setVm s₂.vm), Ls ++ L, c0 + mc, s0 + ms⟩,
      ⟨X.admits, X.cas, X.clock, X.frames, X.room, X.hears, X.method, X.code, (X.here.setHeapUsed s₂.heap s₂.slotsUsed).setVm hW'.alike, X.tail, State.WarmedH.trans X.warmed hW', X.limits, X.bytes, X.same.trans (hsame.setVm s.vm)⟩,
      ⟨g, mk, s₂, L, E, ce, rfl, rfl, hx, hce, hcv, hcl, rfl, hL, rfl, rfl⟩, ?_⟩
    show Steps p.tables e below _ (((({ U with heap := s₂.heap, slotsUsed := s₂.slotsUsed } : State).setVm s₂.vm).setTop g).pushFrame (.throwing q))
    rw [← hs₂]
    exact hsteps
end Payer
section Calls
variable {p : Program} {l : Launch} {e : Env} {R : Room} {s : State} {m : MethodId} {args : Array Value} {below : List Frame} {meth : Method} {c : Code} {T : State} {locs : List Loc} {cells slots : Nat}
theorem vx_callV (X : Stand p l e R s m args below meth c T locs cells slots) (hexec : p.tables.exec = Jvm.exec) {own C : String} {index : Nat} {y : MethodName} {bytes : ByteArray} {maxL : Nat} {ret : Option FieldType}
    (hown : s.vm.findClass own = some m.cls) (hlink : (Cond.methodLink own index y).before args s = true) (hinst : (Cond.instanceMethod y).before args s = true) (hsel : (Cond.selects C y y).before args s = true)
    (hcode : (Cond.code y bytes maxL ret).before args s = true) (hy : y.cls ≠ "java/lang/invoke/MethodHandle" ∧ y.cls ≠ "java/lang/invoke/VarHandle")
    {W9 : Nat} {Pre : Pt → Array Value → Prop} {Post : Pt → Array Value → Option Value → Pt → Prop} {PostX : Pt → Array Value → Addr → Pt → Prop} (hK : vx_Back l R p e below s args y 3 W9 Pre Post PostX)
    {b : Addr} {cellB : Cell} (hcell : T.heap[b]? = some cellB) (hobj : cellB.vm.isStatics = false) (hcls : s.vm.findClass C = some cellB.cls)
    {g : JFrame} (hg : g.method = m) (hsize : g.locals.size = c.maxLocals) {argsL rest : List Value} (hlen : ∀ sig, parseMethodDescriptor y.desc = some sig → argsL.length = sig.parameters.length)
    (hstack : g.stack = argsL.reverse ++ .ref b :: rest) (hW : 2 * g.monitorRoom + (rest.map fun v => v.category).sum ≤ W9) (hdg : decode c.code g.pc = .ok (.invokevirtual index, 3))
    (hpre : ∀ vm₁, s.WarmedH vm₁ → Pre ⟨T.setVm vm₁, locs, cells, slots⟩ (Value.ref b :: argsL).toArray) :
    (∃ (v : Option Value) (vm₁ : Vm) (B : Pt), s.WarmedH vm₁ ∧ Stand p l e R s m args below meth c B.U B.locs B.cells B.slots ∧ Post ⟨T.setVm vm₁, locs, cells, slots⟩ (Value.ref b :: argsL).toArray v B ∧
      ∀ target, Steps p.tables e below (B.U.setTop { g with pc := g.pc + 3, stack := v.toList ++ rest }) target → Steps p.tables e below (T.setTop g) target) ∨
    (∃ (q : Addr) (vm₁ : Vm) (B : Pt), s.WarmedH vm₁ ∧ Stand p l e R s m args below meth c B.U B.locs B.cells B.slots ∧ PostX ⟨T.setVm vm₁, locs, cells, slots⟩ (Value.ref b :: argsL).toArray q B ∧
      Steps p.tables e below (T.setTop g) ((B.U.setTop { g with stack := rest }).pushFrame (.throwing q))) := by
  obtain ⟨mk, methM, hnamed, hmethM, hstM, habM⟩ := Cond.instanceMethod_spec hinst
  obtain ⟨methM', cM, hmethM', -, -, -, -, -, -, hsigM⟩ := Cond.code_spec hnamed hcode
  cases hmethM.symm.trans hmethM'
  obtain ⟨c2, r2, m2, q1, q2, q3, q4, kP, hkP, hkPi⟩ := Cond.selects_spec hsel
  cases hcls.symm.trans q1
  cases (State.methodFound?_of_named hnamed hy).symm.trans q2
  cases hnamed.symm.trans q3
  have hselP : selectMethod e.platform s.vm cellB.cls mk = .method mk := by rw [Launch.admits_selectMethod X.admits]; exact q4
  obtain ⟨vm₁, X₁, hstep₁⟩ := X.invokevirtual hexec hown hlink hnamed hmethM hstM hkP hkPi hy (a := b) (cell := cellB) hcell
    (fun z h => by rw [h] at hobj; cases hobj) hselP hmethM habM hkP hkPi (g := g) hg (argsL := argsL) (rest := rest) (hlen _ hsigM) hstack hdg
  rcases hK m meth c ⟨T.setVm vm₁, locs, cells, slots⟩ { g with stack := rest } (.invokevirtual index) mk (Value.ref b :: argsL).toArray X₁ hg hsize hdg hW (X₁.named hnamed) (hpre vm₁ X₁.warmed) with ⟨v, B, X', hpost, hsteps⟩ | ⟨q, B, X', hpost, hsteps⟩
  · exact Or.inl ⟨v, vm₁, B, X₁.warmed, X', hpost, fun target h => hstep₁ _ fun acts => by rw [doInvoke_state]; exact hsteps.trans h⟩
  · exact Or.inr ⟨q, vm₁, B, X₁.warmed, X', hpost, hstep₁ _ fun acts => by rw [doInvoke_state]; exact hsteps⟩
theorem vx_callS (X : Stand p l e R s m args below meth c T locs cells slots) (hexec : p.tables.exec = Jvm.exec) {own : String} {index : Nat} {y : MethodName} {bytes : ByteArray} {maxL : Nat} {ret : Option FieldType}
    (hown : s.vm.findClass own = some m.cls) (hlink : (Cond.methodLink own index y).before args s = true) (hstat : (Cond.static y).before args s = true) (hinit : (Cond.initialized y.cls).before args s = true)
    (hcode : (Cond.code y bytes maxL ret).before args s = true) (hy : y.cls ≠ "java/lang/invoke/MethodHandle" ∧ y.cls ≠ "java/lang/invoke/VarHandle")
    {W9 : Nat} {Pre : Pt → Array Value → Prop} {Post : Pt → Array Value → Option Value → Pt → Prop} {PostX : Pt → Array Value → Addr → Pt → Prop} (hK : vx_Back l R p e below s args y 3 W9 Pre Post PostX)
    {g : JFrame} (hg : g.method = m) (hsize : g.locals.size = c.maxLocals) {argsL rest : List Value} (hlen : ∀ sig, parseMethodDescriptor y.desc = some sig → argsL.length = sig.parameters.length)
    (hstack : g.stack = argsL.reverse ++ rest) (hW : 2 * g.monitorRoom + (rest.map fun v => v.category).sum ≤ W9) (hdg : decode c.code g.pc = .ok (.invokestatic index, 3))
    (hpre : ∀ vm₁, s.WarmedH vm₁ → Pre ⟨T.setVm vm₁, locs, cells, slots⟩ argsL.toArray) :
    (∃ (v : Option Value) (vm₁ : Vm) (B : Pt), s.WarmedH vm₁ ∧ Stand p l e R s m args below meth c B.U B.locs B.cells B.slots ∧ Post ⟨T.setVm vm₁, locs, cells, slots⟩ argsL.toArray v B ∧
      ∀ target, Steps p.tables e below (B.U.setTop { g with pc := g.pc + 3, stack := v.toList ++ rest }) target → Steps p.tables e below (T.setTop g) target) ∨
    (∃ (q : Addr) (vm₁ : Vm) (B : Pt), s.WarmedH vm₁ ∧ Stand p l e R s m args below meth c B.U B.locs B.cells B.slots ∧ PostX ⟨T.setVm vm₁, locs, cells, slots⟩ argsL.toArray q B ∧
      Steps p.tables e below (T.setTop g) ((B.U.setTop { g with stack := rest }).pushFrame (.throwing q))) := by
  obtain ⟨mk, hnamed⟩ := Cond.code_named hcode
  obtain ⟨methM, cM, hmethM, -, -, -, -, -, -, hsigM⟩ := Cond.code_spec hnamed hcode
  have hstatic : methM.isStatic = true := Cond.static_spec hnamed hmethM hstat
  obtain ⟨kP, hkP, -⟩ := className_of_methodNamed hnamed
  have hinitP : kP.init = .initialized := Cond.initialized_spec (findClass_of_methodNamed hnamed) hkP hinit
  obtain ⟨vm₁, X₁, hstep₁⟩ := X.invokestatic hexec hown hlink hnamed hmethM hstatic hkP hinitP hy (g := g) hg (argsL := argsL) (rest := rest) (hlen _ hsigM) hstack hdg
  rcases hK m meth c ⟨T.setVm vm₁, locs, cells, slots⟩ { g with stack := rest } (.invokestatic index) mk argsL.toArray X₁ hg hsize hdg hW (X₁.named hnamed) (hpre vm₁ X₁.warmed) with ⟨v, B, X', hpost, hsteps⟩ | ⟨q, B, X', hpost, hsteps⟩
  · exact Or.inl ⟨v, vm₁, B, X₁.warmed, X', hpost, fun target h => hstep₁ _ fun acts => by rw [doInvoke_state]; exact hsteps.trans h⟩
  · exact Or.inr ⟨q, vm₁, B, X₁.warmed, X', hpost, hstep₁ _ fun acts => by rw [doInvoke_state]; exact hsteps⟩
end Calls
theorem vx_cls {s : State} {T : State} {vm₁ : Vm} {E : String} {k : ClassId} (hW : s.WarmedH vm₁) (h : (T.setVm vm₁).vm.findClass E = some k) : s.vm.findClass E = some k := by
  have h1 : vm₁.findClass E = some k := h
  rw [hW.alike.findClass] at h1
  exact h1
/-- the method's frame g, with q thrown over it -/
def vx_W (p : Program) (l : Launch) (e : Env) (R : Room) (s : State) (m : MethodId) (args : Array Value) (below : List Frame) (meth : Method) (c : Code) (H : Heap) (locs : List Loc) (cells slots : Nat) (Q : State → Prop) (g : JFrame) (q : Addr) : Prop :=
  ∀ T : State, T.heap = H → Stand p l e R s m args below meth c T locs cells slots → ∃ t, Steps p.tables e below ((T.setTop g).pushFrame (.throwing q)) t ∧ Q t
def vx_Run (p : Program) (l : Launch) (e : Env) (R : Room) (s : State) (m : MethodId) (args : Array Value) (below : List Frame) (meth : Method) (c : Code) (H : Heap) (locs : List Loc) (cells slots mc ms : Nat) (g : JFrame) (rest : List Value) (Qa : State → Outcome → State → Prop) (XC : String → State → State → Prop) (free : Addr → Prop) : Prop :=
  ∀ T : State, T.heap = H → Stand p l e R s m args below meth c T locs cells slots →
    (∃ (v : Option Value) (st₀ t T' : State) (L : List Loc), st₀.heap = H ∧ Stand p l e R s m args below meth c T' (locs ++ L) (cells + mc) (slots + ms) ∧ (∀ q ∈ L, free q.base) ∧ T'.heap = t.heap ∧ T'.vm = t.vm ∧ Qa st₀ (.returned v) t ∧
      Goes p e below T g T' { g with pc := g.pc + 3, stack := v.toList ++ rest }) ∨
    (∃ (q : Addr) (st₀ t T' : State) (L : List Loc) (E : String) (ce : Cell), st₀.heap = H ∧ Stand p l e R s m args below meth c T' (locs ++ L) (cells + mc) (slots + ms) ∧ (∀ z ∈ L, free z.base) ∧ T'.heap = t.heap ∧ T'.vm = t.vm ∧ XC E st₀ t ∧ t.heap[q]? = some ce ∧ ce.vm = .none ∧ s.vm.findClass E = some ce.cls ∧
      Steps p.tables e below (T.setTop g) ((T'.setTop { g with stack := rest }).pushFrame (.throwing q)))
def vx_X {S : Type} (px : S → Prop) (B : String → S → State → Prop) (A : Nat → Prop) : String → State → State → Prop := fun E st t => ∃ u : S, px u ∧ B E u t ∧ va_F A st t
section Runs
variable {p : Program} {l : Launch} {e : Env} {R : Room} {s : State} {m : MethodId} {args : Array Value} {below : List Frame} {meth : Method} {c : Code} {H : Heap} {locs : List Loc} {cells slots : Nat}
variable {y : MethodName} {bytes cc : ByteArray} {maxL nL mc ms n index : Nat} {ret : Option FieldType} {ws : List Cond} {rm : Room} {Pc : Array Value → State → Prop} {Qc : Array Value → State → Outcome → State → Prop} {XC : String → State → State → Prop} {free : Addr → Prop} {Ts : List Cond} {own C : String} {b : Addr} {As rest : List Value} {g : JFrame}
theorem vx_callBack (cb : CallB R s args own index y bytes maxL ret ws rm mc ms n) (hM : vx_Met l y ws rm Pc Qc XC mc ms free) (hbl : FrameBlind Pc) : vx_Back l R p e below s args y 3 8 (PreOf R mc ms Pc) (PostOf Qc mc ms free) (vx_Post XC mc ms free) := by
  obtain ⟨hrc, hrs, hfr, hlo, hws, hcw, -, hini, -⟩ := cb
  exact vx_back (bytes := bytes) (maxL := maxL) (ret := ret) hM hbl hrc hrs hfr hlo hws hcw (fun a' U hW => word_at hW (Or.inl (by first | rfl | simp [Cond.onTables, Cond.keeps, Cond.steady])) hini)
theorem vx_runV (S : CallFix p m c cc nL s args Ts own) (hM : vx_Met l y ws rm Pc Qc XC mc ms free) (cw : CallW R s args own C index y bytes maxL ret ws rm mc ms n) (hp : PreV s H C b Pc As)
    (hg : g.method = m) (hn : As.length = n) (hsize : g.locals.size = nL) (hstack : g.stack = As.reverse ++ .ref b :: rest) (hW : 2 * g.monitorRoom + (rest.map fun v => v.category).sum ≤ 8) (hdg : decode cc g.pc = .ok (.invokevirtual index, 3)) (hf : cells + mc ≤ R.cells ∧ slots + ms ≤ R.slots) :
    vx_Run p l e R s m args below meth c H locs cells slots mc ms g rest (Qc (Value.ref b :: As).toArray) XC free := by
  have hK : vx_Back l R p e below s args y 3 8 (PreOf R mc ms Pc) (PostOf Qc mc ms free) (vx_Post XC mc ms free) := vx_callBack cw.1 hM hp.1
  obtain ⟨⟨-, -, -, -, -, -, hcode, -, hy, hlen, hl⟩, hin, hse⟩ := cw
  obtain ⟨hx, hb, hml, ho, -⟩ := S
  obtain ⟨-, ⟨cellB, hcB, hoB, hclB⟩, hPc⟩ := hp
  intro T hT X
  rcases vx_callV X hx (C := C) (bytes := bytes) (maxL := maxL) (ret := ret) ho hl hin hse hcode hy hK (by rw [hT]; exact hcB) hoB hclB hg (hsize.trans hml.symm) (argsL := As) (rest := rest) (fun sig h => hn.trans (hlen sig h)) hstack hW (by rw [hb]; exact hdg)
    (fun vm₁ hW₁ => ⟨hf.1, hf.2, hPc (T.setVm vm₁) hT hW₁⟩) with ⟨v, vm₁, ⟨U', l2, c2, s2⟩, hW₁, X', ⟨g', mk, t, L, e1, e2, hq, h1, hL, h2, h3⟩, st⟩ | ⟨q, vm₁, ⟨U', l2, c2, s2⟩, hW₁, X', ⟨g', mk, t, L, E, ce, e1, e2, hq, hce, hcv, hcl, h1, hL, h2, h3⟩, st⟩
  · dsimp only [Pt.U, Pt.locs, Pt.cells, Pt.slots] at X' e1 e2 h1 h2 h3 st
    subst h1; subst h2; subst h3
    exact Or.inl ⟨v, (T.setVm vm₁).calling g' mk (Value.ref b :: As).toArray, t, U', L, hT, X', hL, e1, e2, hq, st⟩
  · dsimp only [Pt.U, Pt.locs, Pt.cells, Pt.slots] at X' e1 e2 h1 h2 h3 st hcl
    subst h1; subst h2; subst h3
    exact Or.inr ⟨q, (T.setVm vm₁).calling g' mk (Value.ref b :: As).toArray, t, U', L, E, ce, hT, X', hL, e1, e2, hq, hce, hcv, vx_cls hW₁ hcl, st⟩
theorem vx_runS (S : CallFix p m c cc nL s args Ts own) (hM : vx_Met l y ws rm Pc Qc XC mc ms free) (cw : CallB R s args own index y bytes maxL ret ws rm mc ms n ∧ (Cond.static y).before args s = true) (hp : PreS s H Pc As)
    (hg : g.method = m) (hn : As.length = n) (hsize : g.locals.size = nL) (hstack : g.stack = As.reverse ++ rest) (hW : 2 * g.monitorRoom + (rest.map fun v => v.category).sum ≤ 8) (hdg : decode cc g.pc = .ok (.invokestatic index, 3)) (hf : cells + mc ≤ R.cells ∧ slots + ms ≤ R.slots) :
    vx_Run p l e R s m args below meth c H locs cells slots mc ms g rest (Qc As.toArray) XC free := by
  have hK : vx_Back l R p e below s args y 3 8 (PreOf R mc ms Pc) (PostOf Qc mc ms free) (vx_Post XC mc ms free) := vx_callBack cw.1 hM hp.1
  obtain ⟨⟨-, -, -, -, -, -, hcode, hini, hy, hlen, hl⟩, hstt⟩ := cw
  obtain ⟨hx, hb, hml, ho, -⟩ := S
  intro T hT X
  rcases vx_callS X hx (bytes := bytes) (maxL := maxL) (ret := ret) ho hl hstt hini hcode hy hK hg (hsize.trans hml.symm) (argsL := As) (rest := rest) (fun sig h => hn.trans (hlen sig h)) hstack hW (by rw [hb]; exact hdg)
    (fun vm₁ hW₁ => ⟨hf.1, hf.2, hp.2 (T.setVm vm₁) hT hW₁⟩) with ⟨v, vm₁, ⟨U', l2, c2, s2⟩, hW₁, X', ⟨g', mk, t, L, e1, e2, hq, h1, hL, h2, h3⟩, st⟩ | ⟨q, vm₁, ⟨U', l2, c2, s2⟩, hW₁, X', ⟨g', mk, t, L, E, ce, e1, e2, hq, hce, hcv, hcl, h1, hL, h2, h3⟩, st⟩
  · dsimp only [Pt.U, Pt.locs, Pt.cells, Pt.slots] at X' e1 e2 h1 h2 h3 st
    subst h1; subst h2; subst h3
    exact Or.inl ⟨v, (T.setVm vm₁).calling g' mk As.toArray, t, U', L, hT, X', hL, e1, e2, hq, st⟩
  · dsimp only [Pt.U, Pt.locs, Pt.cells, Pt.slots] at X' e1 e2 h1 h2 h3 st hcl
    subst h1; subst h2; subst h3
    exact Or.inr ⟨q, (T.setVm vm₁).calling g' mk As.toArray, t, U', L, E, ce, hT, X', hL, e1, e2, hq, hce, hcv, vx_cls hW₁ hcl, st⟩
end Runs
section Rows
variable {p : Program} {l : Launch} {e : Env} {R : Room} {s : State} {m : MethodId} {args : Array Value} {below : List Frame} {meth : Method} {c : Code} {H : Heap} {locs : List Loc} {cells slots : Nat} {Q : State → Prop}
variable {mc ms : Nat} {free : Addr → Prop} {A0 A1 : Nat → Prop} {H0 : Heap} {a : Array Value} {pc : Nat} {ls : Array Slot} {st0 rest : List Value}
theorem vx_keep {st₀ t T' : State} {L : List Loc} (h0 : st₀.heap = H) (e1 : T'.heap = t.heap) (hS : va_S A0 H0 H locs) (hA : ∀ q, q < H.size → A1 q → A0 q) (hf : ∀ q, free q → A0 q) (hL : ∀ q ∈ L, free q.base) (hF : va_F A1 st₀ t) :
    H.size ≤ T'.heap.size ∧ (∀ q : Nat, q < H.size → ¬ A1 q → T'.heap[q]? = H[q]?) ∧ va_S A0 H0 T'.heap (locs ++ L) := by
  obtain ⟨hz, hk⟩ := hF
  rw [h0] at hz hk
  exact ⟨by rw [e1]; exact hz, fun q h1 h2 => by rw [e1]; exact hk q h1 h2,
    ⟨Nat.le_trans hS.1 (by rw [e1]; exact hz), fun q h1 h2 => by rw [e1, hk q (Nat.lt_of_lt_of_le h1 hS.1) (fun z => h2 (hA q (Nat.lt_of_lt_of_le h1 hS.1) z))]; exact hS.2.1 q h1 h2, fun q hq => by
      rcases List.mem_append.mp hq with h | h
      · exact hS.2.2 q h
      · exact hf _ (hL q h)⟩⟩
theorem vx_calli {S SX : Type} {post : Int32 → S → Prop} {px : SX → Prop} {B : S → State → Prop} {BX : String → SX → State → Prop} {AX : Nat → Prop} (hr : vx_Run p l e R s m args below meth c H locs cells slots mc ms (F0 m pc ls st0) rest (va_Qi post B A1 a) (vx_X px BX AX) free) (hS : va_S A0 H0 H locs) (hA : ∀ q, q < H.size → A1 q → A0 q) (hf : ∀ q, free q → A0 q) (hAX : ∀ q, q < H.size → AX q → A0 q)
    (kx : ∀ (E : String) (ce : Cell) (q9 : Addr) (u : SX) (t : State) (H1 : Heap) (locs1 : List Loc), t.heap = H1 → s.vm.Alike t.vm → px u → BX E u t → H.size ≤ H1.size → (∀ q : Nat, q < H.size → ¬ AX q → H1[q]? = H[q]?) → va_S A0 H0 H1 locs1 → H1[q9]? = some ce → ce.vm = .none → s.vm.findClass E = some ce.cls → vx_W p l e R s m args below meth c H1 locs1 (cells + mc) (slots + ms) Q (F0 m pc ls rest) q9)
    (kk : ∀ (r : Int32) (u : S) (t : State) (H1 : Heap) (locs1 : List Loc), t.heap = H1 → s.vm.Alike t.vm → post r u → B u t → H.size ≤ H1.size → (∀ q : Nat, q < H.size → ¬ A1 q → H1[q]? = H[q]?) → va_S A0 H0 H1 locs1 → W p l e R s m args below meth c H1 locs1 (cells + mc) (slots + ms) Q (F0 m (pc + 3) ls (.int r :: rest))) : W p l e R s m args below meth c H locs cells slots Q (F0 m pc ls st0) := by
  intro T hT X
  rcases hr T hT X with ⟨v, st₀, t, T', L, h0, X', hL, e1, e2, ⟨⟨r, u, hv, hp, hb⟩, hF⟩, st⟩ | ⟨q, st₀, t, T', L, E, ce, h0, X', hL, e1, e2, ⟨u, hp, hb, hF⟩, hce, hcv, hcl, st⟩
  · cases hv
    obtain ⟨k1, k2, k3⟩ := vx_keep h0 e1 hS hA hf hL hF
    obtain ⟨t2, a1, b1⟩ := kk r u t T'.heap (locs ++ L) e1.symm (by rw [← e2]; exact X'.warmed.alike) hp hb k1 k2 k3 T' rfl X'
    exact ⟨t2, st t2 a1, b1⟩
  · obtain ⟨k1, k2, k3⟩ := vx_keep h0 e1 hS hAX hf hL hF
    obtain ⟨t2, a1, b1⟩ := kx E ce q u t T'.heap (locs ++ L) e1.symm (by rw [← e2]; exact X'.warmed.alike) hp hb k1 k2 k3 (by rw [e1]; exact hce) hcv hcl T' rfl X'
    exact ⟨t2, st.trans a1, b1⟩
theorem vx_calll {S SX : Type} {post : Int64 → S → Prop} {px : SX → Prop} {B : S → State → Prop} {BX : String → SX → State → Prop} {AX : Nat → Prop} (hr : vx_Run p l e R s m args below meth c H locs cells slots mc ms (F0 m pc ls st0) rest (va_Ql post B A1 a) (vx_X px BX AX) free) (hS : va_S A0 H0 H locs) (hA : ∀ q, q < H.size → A1 q → A0 q) (hf : ∀ q, free q → A0 q) (hAX : ∀ q, q < H.size → AX q → A0 q)
    (kx : ∀ (E : String) (ce : Cell) (q9 : Addr) (u : SX) (t : State) (H1 : Heap) (locs1 : List Loc), t.heap = H1 → s.vm.Alike t.vm → px u → BX E u t → H.size ≤ H1.size → (∀ q : Nat, q < H.size → ¬ AX q → H1[q]? = H[q]?) → va_S A0 H0 H1 locs1 → H1[q9]? = some ce → ce.vm = .none → s.vm.findClass E = some ce.cls → vx_W p l e R s m args below meth c H1 locs1 (cells + mc) (slots + ms) Q (F0 m pc ls rest) q9)
    (kk : ∀ (r : Int64) (u : S) (t : State) (H1 : Heap) (locs1 : List Loc), t.heap = H1 → s.vm.Alike t.vm → post r u → B u t → H.size ≤ H1.size → (∀ q : Nat, q < H.size → ¬ A1 q → H1[q]? = H[q]?) → va_S A0 H0 H1 locs1 → W p l e R s m args below meth c H1 locs1 (cells + mc) (slots + ms) Q (F0 m (pc + 3) ls (.long r :: rest))) : W p l e R s m args below meth c H locs cells slots Q (F0 m pc ls st0) := by
  intro T hT X
  rcases hr T hT X with ⟨v, st₀, t, T', L, h0, X', hL, e1, e2, ⟨⟨r, u, hv, hp, hb⟩, hF⟩, st⟩ | ⟨q, st₀, t, T', L, E, ce, h0, X', hL, e1, e2, ⟨u, hp, hb, hF⟩, hce, hcv, hcl, st⟩
  · cases hv
    obtain ⟨k1, k2, k3⟩ := vx_keep h0 e1 hS hA hf hL hF
    obtain ⟨t2, a1, b1⟩ := kk r u t T'.heap (locs ++ L) e1.symm (by rw [← e2]; exact X'.warmed.alike) hp hb k1 k2 k3 T' rfl X'
    exact ⟨t2, st t2 a1, b1⟩
  · obtain ⟨k1, k2, k3⟩ := vx_keep h0 e1 hS hAX hf hL hF
    obtain ⟨t2, a1, b1⟩ := kx E ce q u t T'.heap (locs ++ L) e1.symm (by rw [← e2]; exact X'.warmed.alike) hp hb k1 k2 k3 (by rw [e1]; exact hce) hcv hcl T' rfl X'
    exact ⟨t2, st.trans a1, b1⟩
theorem vx_callf {S SX : Type} {post : UInt32 → S → Prop} {px : SX → Prop} {B : S → State → Prop} {BX : String → SX → State → Prop} {AX : Nat → Prop} (hr : vx_Run p l e R s m args below meth c H locs cells slots mc ms (F0 m pc ls st0) rest (va_Qf post B A1 a) (vx_X px BX AX) free) (hS : va_S A0 H0 H locs) (hA : ∀ q, q < H.size → A1 q → A0 q) (hf : ∀ q, free q → A0 q) (hAX : ∀ q, q < H.size → AX q → A0 q)
    (kx : ∀ (E : String) (ce : Cell) (q9 : Addr) (u : SX) (t : State) (H1 : Heap) (locs1 : List Loc), t.heap = H1 → s.vm.Alike t.vm → px u → BX E u t → H.size ≤ H1.size → (∀ q : Nat, q < H.size → ¬ AX q → H1[q]? = H[q]?) → va_S A0 H0 H1 locs1 → H1[q9]? = some ce → ce.vm = .none → s.vm.findClass E = some ce.cls → vx_W p l e R s m args below meth c H1 locs1 (cells + mc) (slots + ms) Q (F0 m pc ls rest) q9)
    (kk : ∀ (r : UInt32) (u : S) (t : State) (H1 : Heap) (locs1 : List Loc), t.heap = H1 → s.vm.Alike t.vm → post r u → B u t → H.size ≤ H1.size → (∀ q : Nat, q < H.size → ¬ A1 q → H1[q]? = H[q]?) → va_S A0 H0 H1 locs1 → W p l e R s m args below meth c H1 locs1 (cells + mc) (slots + ms) Q (F0 m (pc + 3) ls (.float r :: rest))) : W p l e R s m args below meth c H locs cells slots Q (F0 m pc ls st0) := by
  intro T hT X
  rcases hr T hT X with ⟨v, st₀, t, T', L, h0, X', hL, e1, e2, ⟨⟨r, u, hv, hp, hb⟩, hF⟩, st⟩ | ⟨q, st₀, t, T', L, E, ce, h0, X', hL, e1, e2, ⟨u, hp, hb, hF⟩, hce, hcv, hcl, st⟩
  · cases hv
    obtain ⟨k1, k2, k3⟩ := vx_keep h0 e1 hS hA hf hL hF
    obtain ⟨t2, a1, b1⟩ := kk r u t T'.heap (locs ++ L) e1.symm (by rw [← e2]; exact X'.warmed.alike) hp hb k1 k2 k3 T' rfl X'
    exact ⟨t2, st t2 a1, b1⟩
  · obtain ⟨k1, k2, k3⟩ := vx_keep h0 e1 hS hAX hf hL hF
    obtain ⟨t2, a1, b1⟩ := kx E ce q u t T'.heap (locs ++ L) e1.symm (by rw [← e2]; exact X'.warmed.alike) hp hb k1 k2 k3 (by rw [e1]; exact hce) hcv hcl T' rfl X'
    exact ⟨t2, st.trans a1, b1⟩
theorem vx_calld {S SX : Type} {post : UInt64 → S → Prop} {px : SX → Prop} {B : S → State → Prop} {BX : String → SX → State → Prop} {AX : Nat → Prop} (hr : vx_Run p l e R s m args below meth c H locs cells slots mc ms (F0 m pc ls st0) rest (va_Qd post B A1 a) (vx_X px BX AX) free) (hS : va_S A0 H0 H locs) (hA : ∀ q, q < H.size → A1 q → A0 q) (hf : ∀ q, free q → A0 q) (hAX : ∀ q, q < H.size → AX q → A0 q)
    (kx : ∀ (E : String) (ce : Cell) (q9 : Addr) (u : SX) (t : State) (H1 : Heap) (locs1 : List Loc), t.heap = H1 → s.vm.Alike t.vm → px u → BX E u t → H.size ≤ H1.size → (∀ q : Nat, q < H.size → ¬ AX q → H1[q]? = H[q]?) → va_S A0 H0 H1 locs1 → H1[q9]? = some ce → ce.vm = .none → s.vm.findClass E = some ce.cls → vx_W p l e R s m args below meth c H1 locs1 (cells + mc) (slots + ms) Q (F0 m pc ls rest) q9)
    (kk : ∀ (r : UInt64) (u : S) (t : State) (H1 : Heap) (locs1 : List Loc), t.heap = H1 → s.vm.Alike t.vm → post r u → B u t → H.size ≤ H1.size → (∀ q : Nat, q < H.size → ¬ A1 q → H1[q]? = H[q]?) → va_S A0 H0 H1 locs1 → W p l e R s m args below meth c H1 locs1 (cells + mc) (slots + ms) Q (F0 m (pc + 3) ls (.double r :: rest))) : W p l e R s m args below meth c H locs cells slots Q (F0 m pc ls st0) := by
  intro T hT X
  rcases hr T hT X with ⟨v, st₀, t, T', L, h0, X', hL, e1, e2, ⟨⟨r, u, hv, hp, hb⟩, hF⟩, st⟩ | ⟨q, st₀, t, T', L, E, ce, h0, X', hL, e1, e2, ⟨u, hp, hb, hF⟩, hce, hcv, hcl, st⟩
  · cases hv
    obtain ⟨k1, k2, k3⟩ := vx_keep h0 e1 hS hA hf hL hF
    obtain ⟨t2, a1, b1⟩ := kk r u t T'.heap (locs ++ L) e1.symm (by rw [← e2]; exact X'.warmed.alike) hp hb k1 k2 k3 T' rfl X'
    exact ⟨t2, st t2 a1, b1⟩
  · obtain ⟨k1, k2, k3⟩ := vx_keep h0 e1 hS hAX hf hL hF
    obtain ⟨t2, a1, b1⟩ := kx E ce q u t T'.heap (locs ++ L) e1.symm (by rw [← e2]; exact X'.warmed.alike) hp hb k1 k2 k3 (by rw [e1]; exact hce) hcv hcl T' rfl X'
    exact ⟨t2, st.trans a1, b1⟩
theorem vx_callv {S SX : Type} {post : S → Prop} {px : SX → Prop} {B : S → State → Prop} {BX : String → SX → State → Prop} {AX : Nat → Prop} (hr : vx_Run p l e R s m args below meth c H locs cells slots mc ms (F0 m pc ls st0) rest (va_Qv post B A1 a) (vx_X px BX AX) free) (hS : va_S A0 H0 H locs) (hA : ∀ q, q < H.size → A1 q → A0 q) (hf : ∀ q, free q → A0 q) (hAX : ∀ q, q < H.size → AX q → A0 q)
    (kx : ∀ (E : String) (ce : Cell) (q9 : Addr) (u : SX) (t : State) (H1 : Heap) (locs1 : List Loc), t.heap = H1 → s.vm.Alike t.vm → px u → BX E u t → H.size ≤ H1.size → (∀ q : Nat, q < H.size → ¬ AX q → H1[q]? = H[q]?) → va_S A0 H0 H1 locs1 → H1[q9]? = some ce → ce.vm = .none → s.vm.findClass E = some ce.cls → vx_W p l e R s m args below meth c H1 locs1 (cells + mc) (slots + ms) Q (F0 m pc ls rest) q9)
    (kk : ∀ (u : S) (t : State) (H1 : Heap) (locs1 : List Loc), t.heap = H1 → s.vm.Alike t.vm → post u → B u t → H.size ≤ H1.size → (∀ q : Nat, q < H.size → ¬ A1 q → H1[q]? = H[q]?) → va_S A0 H0 H1 locs1 → W p l e R s m args below meth c H1 locs1 (cells + mc) (slots + ms) Q (F0 m (pc + 3) ls (rest))) : W p l e R s m args below meth c H locs cells slots Q (F0 m pc ls st0) := by
  intro T hT X
  rcases hr T hT X with ⟨v, st₀, t, T', L, h0, X', hL, e1, e2, ⟨⟨u, hv, hp, hb⟩, hF⟩, st⟩ | ⟨q, st₀, t, T', L, E, ce, h0, X', hL, e1, e2, ⟨u, hp, hb, hF⟩, hce, hcv, hcl, st⟩
  · cases hv
    obtain ⟨k1, k2, k3⟩ := vx_keep h0 e1 hS hA hf hL hF
    obtain ⟨t2, a1, b1⟩ := kk u t T'.heap (locs ++ L) e1.symm (by rw [← e2]; exact X'.warmed.alike) hp hb k1 k2 k3 T' rfl X'
    exact ⟨t2, st t2 a1, b1⟩
  · obtain ⟨k1, k2, k3⟩ := vx_keep h0 e1 hS hAX hf hL hF
    obtain ⟨t2, a1, b1⟩ := kx E ce q u t T'.heap (locs ++ L) e1.symm (by rw [← e2]; exact X'.warmed.alike) hp hb k1 k2 k3 (by rw [e1]; exact hce) hcv hcl T' rfl X'
    exact ⟨t2, st.trans a1, b1⟩
/-- caught by the row x of this method's table; the rows ahead don't take it -/
theorem vx_catch {own name : String} {E : String} {ce : Cell} {q : Addr} (hown : s.vm.findClass own = some m.cls) (pre : List ExceptionTableEntry) (x : ExceptionTableEntry) (suf : List ExceptionTableEntry) (hsplit : c.exceptionTable.toList = pre ++ x :: suf)
    (hpass : ∀ z ∈ pre, covers z pc = false ∨ (z.catchType ≠ 0 ∧ ∃ nm : String, (Cond.classLink own z.catchType nm).before args s = true ∧ va_Nc E nm s)) (hx : covers x pc = true) (h0 : x.catchType ≠ 0)
    (hlink : (Cond.classLink own x.catchType name).before args s = true) (hcast : (Cond.castable E name).before args s = true) (hcell : H[q]? = some ce) (hv : ce.vm = .none) (hcl : s.vm.findClass E = some ce.cls)
    (kk : W p l e R s m args below meth c H locs cells slots Q (F0 m x.handlerPc ls [.ref q])) : vx_W p l e R s m args below meth c H locs cells slots Q (F0 m pc ls rest) q := by
  intro T hT X
  have hpl : e.platform.magicAccessors = ({} : Platform).magicAccessors := by rw [X.admits.platform]
  obtain ⟨c3, c4, hc3, hc4, hasg⟩ := Cond.castable_spec hcast
  cases Option.some.inj (hc3.symm.trans hcl)
  obtain ⟨c5, hc5, hcl5⟩ := Cond.classLink_spec hown hlink e.platform hpl
  cases Option.some.inj (hc4.symm.trans hc5)
  obtain ⟨vm', X', st⟩ := X.thenCaughtThrough q (g := F0 m pc ls rest) rfl (Steps.refl _) (by rw [hT]; exact hcell) (by rw [hv]; rfl) (by obtain ⟨k9, h9, -⟩ := Vm.findClass_spec hcl; exact ⟨k9, h9⟩) pre x suf hsplit
    (fun z hz => by
      rcases hpass z hz with h | ⟨hz0, nm, hl1, hn1⟩
      · exact Or.inl h
      · obtain ⟨c6, hc6, hcl6⟩ := Cond.classLink_spec hown hl1 e.platform hpl
        obtain ⟨a8, b8, h1, h2, h3⟩ := hn1
        cases Option.some.inj (h1.symm.trans hcl)
        cases Option.some.inj (h2.symm.trans hc6)
        exact Or.inr ⟨hz0, _, hcl6, h3⟩) hx (Or.inr ⟨h0, c4, hcl5, hasg⟩)
  obtain ⟨t, a1, b1⟩ := kk (T.setVm vm') hT X'
  exact ⟨t, st.trans a1, b1⟩
end Rows
section Ends
variable {p : Program} {l : Launch} {e : Env} {R : Room} {s : State} {m : MethodId} {args : Array Value} {below : List Frame} {meth : Method} {c : Code} {H : Heap} {locs : List Loc} {cells slots : Nat} {Q : State → Prop}
variable {mc ms : Nat} {free : Addr → Prop} {A0 A1 : Nat → Prop} {H0 : Heap} {a : Array Value} {ls : Array Slot} {st0 rest : List Value}
variable {Qc : Array Value → State → Outcome → State → Prop} {XC : String → State → State → Prop}
/-- what a body that may throw owes at its end -/
def vx_MQ (below : List Frame) (Qc : Array Value → State → Outcome → State → Prop) (XC : String → State → State → Prop) (a : Array Value) (s : State) (mc ms : Nat) (free : Addr → Prop) : State → Prop := fun t =>
  ∃ o, t.status = .running ∧ Ended t below o ∧ vx_Q Qc XC mc ms free a s o t
theorem vx_ret {g : JFrame} {mc ms : Nat} (k : W p l e R s m args below meth c H locs cells slots (MQ below Qc args s mc ms free) g) : W p l e R s m args below meth c H locs cells slots (vx_MQ below Qc XC args s mc ms free) g := by
  intro T hT X
  obtain ⟨t, a1, o, b1, b2, b3, b4⟩ := k T hT X
  exact ⟨t, a1, o, b1, b2, Or.inl ⟨b3, b4⟩⟩
/-- not caught here: it goes on to the caller -/
theorem vx_widen {g : JFrame} {q : Addr} {k n : Nat} (h1 : cells ≤ k) (h2 : slots ≤ n) (kk : vx_W p l e R s m args below meth c H locs k n Q g q) : vx_W p l e R s m args below meth c H locs cells slots Q g q := fun T hT X => kk T hT (stand_widen X h1 h2)
theorem vx_out {pc : Nat} {E : String} {ce : Cell} {q : Addr} {mc ms : Nat} (hout : ∀ x ∈ c.exceptionTable.toList, covers x pc = false) (hlocks : meth.locks = false) (hcell : H[q]? = some ce) (hv : ce.vm = .none) (hcl : s.vm.findClass E = some ce.cls)
    (hx : ∀ t : State, t.heap = H → s.vm.Alike t.vm → XC E s t) (hf : ∀ z ∈ locs, free z.base) (hc : cells ≤ mc) (hs : slots ≤ ms) :
    vx_W p l e R s m args below meth c H locs cells slots (vx_MQ below Qc XC args s mc ms free) (F0 m pc ls rest) q := by
  intro T hT X
  obtain ⟨st1, hrun, hend, hW, hsm⟩ := X.leaveThrown q (g := F0 m pc ls rest) rfl rfl rfl hout hlocks
  have hcell9 : (T.setFrames (.throwing q :: below)).heap[q]? = some ce := by
    show T.heap[q]? = some ce
    rw [hT]; exact hcell
  exact ⟨_, st1, .threw q, hrun, hend, Or.inr ⟨q, rfl, E, ce, locs, hx _ hT hW.alike, hcell9, hv, hcl, hW, hsm.mono hc hs, hf⟩⟩
theorem vx_frame {U : State} {k n : Nat} (h : s.sameButNew ({ U with vm := s.vm } : State) locs k n) : s.heap.size ≤ U.heap.size ∧ ∀ q : Nat, q < s.heap.size → (∀ z ∈ locs, z.base ≠ q) → U.heap[q]? = s.heap[q]? := by
  obtain ⟨-, h2, -, -, -, h6⟩ := h
  refine ⟨h2, fun q hq hz => ?_⟩
  obtain ⟨c9, e1, e2, e3, e4⟩ := h6 q _ (Array.getElem?_eq_getElem hq)
  have hs : c9.slots = (s.heap[q]).slots := Array.ext_getElem? fun i => e4 i fun hm => hz _ hm rfl
  have h9 : c9 = s.heap[q] := by
    rw [hs] at e2
    exact e2
  have e5 : U.heap[q]? = some c9 := e1
  rw [e5, h9, Array.getElem?_eq_getElem hq]
/-- the words of a throw but the four that speak of the heap -/
def vx_no (w : Cond) : Bool := decide (w ≠ .isRef (.static Bundle.tN "UNASSIGNED_STACK" Bundle.steD)) && decide (w ≠ .isRef (.static Bundle.tN "SUPPRESSED_SENTINEL" Bundle.listD)) && decide (w ≠ .laysStatic Bundle.tN "UNASSIGNED_STACK" Bundle.steD) && decide (w ≠ .laysStatic Bundle.tN "SUPPRESSED_SENTINEL" Bundle.listD)
def vx_at0 (own : String) (ic : Nat) (X : String) (names : List String) : List Cond := (Bundle.ownAtoms0 own ic X names).filter vx_no
def vx_atS (own : String) (ic : Nat) (X : String) (names : List String) : List Cond := (Bundle.ownAtoms own ic X names).filter vx_no
/-- a word that the tables alone decide, or a good one -/
def vx_ot (w : Cond) : Bool := w.onTables || goodWord w
theorem vx_ot_at {args a' : Array Value} {s U : State} {w : Cond} (hW : s.WarmedH U.vm) (hvm : s.vm = U.vm) (hg : vx_ot w = true) (h : w.before args s = true) : w.before a' U = true := by
  simp only [vx_ot, Bool.or_eq_true] at hg
  rcases hg with hg | hg
  · exact va_tabs hg hvm h
  · exact word_at hW (good_of_word hg) h
/-- a list's words: the good ones out of the method's own list, the others by premises of their own -/
theorem vx_hat {args : Array Value} {s : State} {L B : List Cond} (h1 : ∀ w ∈ L.filter goodWord, w.before args s = true) (h2 : ∀ w ∈ L.filter (fun w => !goodWord w), w ∈ B) (h3 : ∀ w ∈ B, w.before args s = true) : ∀ w ∈ L, w.before args s = true := by
  intro w hw
  by_cases g : goodWord w = true
  · exact h1 w (List.mem_filter.mpr ⟨hw, g⟩)
  · refine h3 w (h2 w (List.mem_filter.mpr ⟨hw, ?_⟩))
    show (!goodWord w) = true
    cases hgw : goodWord w
    · rfl
    · exact absurd hgw g
theorem vx_c {args : Array Value} {s : State} {w : Cond} {B : List Cond} (h : w.before args s = true) (t : ∀ w ∈ B, w.before args s = true) : ∀ w' ∈ w :: B, w'.before args s = true := fun w' h' => (List.mem_cons.mp h').elim (fun e => by rw [e]; exact h) (t w')
theorem vx_n {args : Array Value} {s : State} : ∀ w ∈ ([] : List Cond), w.before args s = true := fun _ h => nomatch h
theorem vx_own {args : Array Value} {s : State} {L : List Cond} (h1 : ∀ w ∈ L.filter vx_no, w.before args s = true)
    (hU : (Cond.isRef (.static Bundle.tN "UNASSIGNED_STACK" Bundle.steD)).before args s = true) (hN : (Cond.isRef (.static Bundle.tN "SUPPRESSED_SENTINEL" Bundle.listD)).before args s = true)
    (lU : (Cond.laysStatic Bundle.tN "UNASSIGNED_STACK" Bundle.steD).before args s = true) (lN : (Cond.laysStatic Bundle.tN "SUPPRESSED_SENTINEL" Bundle.listD).before args s = true) : ∀ w ∈ L, w.before args s = true := by
  intro w hw
  by_cases e1 : w = .isRef (.static Bundle.tN "UNASSIGNED_STACK" Bundle.steD)
  · rw [e1]; exact hU
  · by_cases e2 : w = .isRef (.static Bundle.tN "SUPPRESSED_SENTINEL" Bundle.listD)
    · rw [e2]; exact hN
    · by_cases e3 : w = .laysStatic Bundle.tN "UNASSIGNED_STACK" Bundle.steD
      · rw [e3]; exact lU
      · by_cases e4 : w = .laysStatic Bundle.tN "SUPPRESSED_SENTINEL" Bundle.listD
        · rw [e4]; exact lN
        · exact h1 w (List.mem_filter.mpr ⟨hw, by unfold vx_no; rw [decide_eq_true e1, decide_eq_true e2, decide_eq_true e3, decide_eq_true e4]; rfl⟩)
/-- where a static field lies, its class's statics cell in H -/
def vx_L (C n d : String) (A : Nat → Prop) (U : State) (H : Heap) : Prop := ∃ (c : ClassId) (k : Class) (i : Nat) (f : Field) (a : Nat) (cell : Cell), U.vm.findClass C = some c ∧ U.fieldFound? C n d = some (c, k, i, f) ∧ f.isStatic = true ∧ k.statics = some a ∧ H[a]? = some cell ∧ cell.vm.isStatics = true ∧ cell.cls = c ∧ f.slot < cell.slots.size ∧ k.staticTypes[f.slot]? = some f.type ∧ ¬ A a
theorem vx_L.moved {C n d : String} {A : Nat → Prop} {u U : State} {H : Heap} (hvm : u.vm.Alike U.vm) (h : vx_L C n d A u H) : vx_L C n d A U H := by
  obtain ⟨c, k, i, f, a, cell, h1, h2, h3, h4, h5, h6, h7, h8, h9, h10⟩ := h
  obtain ⟨k', hi', he⟩ := State.fieldFound?_setVm hvm h2
  exact ⟨c, k', i, f, a, cell, by rw [hvm.findClass]; exact h1, hi', h3, by rw [he]; exact h4, h5, h6, h7, h8, by rw [he]; exact h9, h10⟩
theorem vx_L.kept {C n d : String} {A : Nat → Prop} {U : State} {H H1 : Heap} (h : vx_L C n d A U H) (hq : ∀ a : Nat, a < H.size → ¬ A a → H1[a]? = H[a]?) : vx_L C n d A U H1 := by
  obtain ⟨c, k, i, f, a, cell, h1, h2, h3, h4, h5, h6, h7, h8, h9, h10⟩ := h
  exact ⟨c, k, i, f, a, cell, h1, h2, h3, h4, by rw [hq a (Array.getElem?_eq_some_iff.mp h5).1 h10]; exact h5, h6, h7, h8, h9, h10⟩
theorem vx_L.narrow {C n d : String} {A B : Nat → Prop} {U : State} {H : Heap} (h : vx_L C n d A U H) (hAB : ∀ q, B q → A q) : vx_L C n d B U H := by
  obtain ⟨c, k, i, f, a, cell, h1, h2, h3, h4, h5, h6, h7, h8, h9, h10⟩ := h
  exact ⟨c, k, i, f, a, cell, h1, h2, h3, h4, h5, h6, h7, h8, h9, fun z => h10 (hAB _ z)⟩
theorem vx_L.word {C n d : String} {A : Nat → Prop} {s : State} {args : Array Value} (h : vx_L C n d A s s.heap) : (Cond.laysStatic C n d).before args s = true := by
  obtain ⟨c, k, i, f, a, cell, h1, h2, h3, h4, h5, h6, h7, h8, h9, -⟩ := h
  show (Cond.laysStatic C n d).holds args s none s [] = true
  exact Cond.laysStatic_of h1 h2 h3 h4 h5 h6 h7 h8 h9
/-- .. and what it holds: null or some reference -/
def vx_Zq (C n d : String) (A : Nat → Prop) (U : State) (H : Heap) : Prop := va_Zq C n d A U H ∧ vx_L C n d A U H
theorem vx_Zq.moved {C n d : String} {A : Nat → Prop} {u U : State} {H : Heap} (hvm : u.vm.Alike U.vm) (h : vx_Zq C n d A u H) : vx_Zq C n d A U H := ⟨va_Zq.moved hvm h.1, vx_L.moved hvm h.2⟩
theorem vx_Zq.kept {C n d : String} {A : Nat → Prop} {U : State} {H H1 : Heap} (h : vx_Zq C n d A U H) (hq : ∀ a : Nat, a < H.size → ¬ A a → H1[a]? = H[a]?) : vx_Zq C n d A U H1 := ⟨va_Zq.kept h.1 hq, vx_L.kept h.2 hq⟩
theorem vx_Zq.narrow {C n d : String} {A B : Nat → Prop} {U : State} {H : Heap} (h : vx_Zq C n d A U H) (hAB : ∀ q, B q → A q) : vx_Zq C n d B U H := ⟨va_Zq.narrow h.1 hAB, vx_L.narrow h.2 hAB⟩
theorem vx_Zqof {args : Array Value} {s : State} {C n d : String} {A : Nat → Prop} (hl : (Cond.laysStatic C n d).before args s = true) (hini : (Cond.initialized C).before args s = true) (h : (Cond.isRef (.static C n d)).before args s = true) (hA : ∀ a : Nat, a < s.heap.size → ¬ A a) : vx_Zq C n d A s s.heap := by
  refine ⟨va_Zqof hl hini h hA, ?_⟩
  obtain ⟨c, k, i, f, a, cell, h1, h2, h3, h4, h5, h6, h7, h8, h9⟩ := Cond.laysStatic_spec hl
  exact ⟨c, k, i, f, a, cell, h1, h2, h3, h4, h5, h6, h7, h8, h9, hA a (Array.getElem?_eq_some_iff.mp h5).1⟩
theorem vx_isRef {C n d : String} {v : Value} {A : Nat → Prop} {s : State} {args : Array Value} (h : va_Z C n d v A s s.heap) (hv : v.isRef = true) : (Cond.isRef (.static C n d)).before args s = true := by
  obtain ⟨cf, kf, fi, f, a, cell, h1, h2, h3, h4, h5, h6, h7, -⟩ := h
  have he : (Term.static C n d).eval args s none [] s = some v := by
    simp [Term.eval, State.fieldNamed?, h1, h2, h4, h5, h6, h7]
  simp only [Cond.before, Cond.holds, Cond.value, he]
  cases v <;> simp_all [Value.isRef]
theorem vx_isRefq {C n d : String} {A : Nat → Prop} {s : State} {args : Array Value} (h : va_Zq C n d A s s.heap) : (Cond.isRef (.static C n d)).before args s = true := by
  rcases h with h | ⟨t, h⟩
  · exact vx_isRef h rfl
  · exact vx_isRef h rfl
/-- the same frame, seen from here: as if the method were called anew in this heap -/
theorem vx_rebase {T : State} (X : Stand p l e R s m args below meth c T locs cells slots) {R' : Room} (hf : R'.frames ≤ R.frames) (hl : R'.locals ≤ R.locals) (hc : cells + R'.cells ≤ R.cells) (hs : slots + R'.slots ≤ R.slots) :
    Stand p l e R' ((T.setVm s.vm).setFrames (.invoking m args :: below)) m args below meth c T [] 0 0 := by
  have htop : (T.setVm s.vm).topJava?.isSome := X.here.top
  have hF : ((T.setVm s.vm).setFrames (.invoking m args :: below)).frames = .invoking m args :: below := State.frames_setFrames _ (State.cur_lt_of_top htop)
  obtain ⟨g₀, hg0⟩ := Option.isSome_iff_exists.mp htop
  obtain ⟨r, hr⟩ := State.topJava?_eq_some.mp hg0
  have hl9 : e.platform.stackLimits (T.setVm s.vm).me = e.platform.stackLimits s.me := X.limits
  have hb9 : (T.setVm s.vm).me.stackBytes = s.me.stackBytes := X.bytes
  refine ⟨X.admits, X.cas, X.clock, hF, ?_, X.hears, X.method, X.code, X.here, X.tail, X.warmed, ?_, ?_, ?_⟩
  · have h := X.room
    have hU : ((T.setVm s.vm).setFrames (.invoking m args :: below)).localsInUse = s.localsInUse := by
      rw [State.localsInUse_invoking hF (meth := meth) (c := c) X.method X.code, State.localsInUse_invoking X.frames X.method X.code]
    simp only [State.hasRoom, Bool.and_eq_true, decide_eq_true_eq] at h ⊢
    obtain ⟨⟨⟨⟨h1, h2, h3, h4, h5, h6⟩, h7⟩, h8⟩, h9⟩ := h
    rw [X.frames, List.length_cons] at h2 h3
    have q1 := X.heapSize
    have q2 := X.used
    simp only [hF, hU, List.length_cons, State.stackLimits_setFrames, State.stackBytes_setFrames, hl9, hb9]
    refine ⟨⟨⟨⟨by omega, by omega, by omega, by omega, by omega, h6⟩, ?_⟩, ?_⟩, X.book⟩
    · show T.heap.size + R'.cells ≤ e.platform.maxCells
      omega
    · show T.slotsUsed + R'.slots ≤ e.platform.maxSlots
      omega
  · rw [State.stackLimits_setFrames]; rfl
  · rw [State.stackBytes_setFrames]; rfl
  · refine ⟨?_, Nat.le_refl _, Nat.le_refl _, ?_, ?_, fun a c9 h9 => ⟨c9, h9, rfl, rfl, fun _ _ => rfl⟩⟩
    · obtain ⟨t, ht, -⟩ := State.frames_cons hr
      show T.setVm s.vm = { ((T.setVm s.vm).setFrames (.invoking m args :: below)).setFrames (T.setVm s.vm).frames with heap := T.heap, slotsUsed := T.slotsUsed }
      rw [State.setFrames_setFrames, State.setFrames_self ht]
      rfl
    · show T.slotsUsed = T.slotsUsed + ((T.heap.toList.drop T.heap.size).map (·.slots.size)).sum
      rw [List.drop_eq_nil_of_le (Nat.le_of_eq Array.length_toList)]
      rfl
    · show ((T.heap.toList.drop T.heap.size).map (·.slots.size)).sum ≤ 0
      rw [List.drop_eq_nil_of_le (Nat.le_of_eq Array.length_toList)]
      exact Nat.le_refl _
/-- 'throw new E()': new; dup; invokespecial; athrow -/
theorem vx_throw0 {cc : ByteArray} {pc : Nat} (hexec : p.tables.exec = Jvm.exec) (hb : c.code = cc) (hl : l.stackTraces = false) {own cls : String} {names : List String} {ik ic mc ms : Nat} {A : Nat → Prop}
    (hown : s.vm.findClass own = some m.cls) (hcls : Bundle.fit cls = true) (hnames : ∀ n ∈ names, Bundle.fit n = true)
    (hk : (Cond.classLink own ik cls).before args s = true) (hini : (Cond.initialized cls).before args s = true) (hat : ∀ w ∈ vx_at0 own ic cls names, w.before args s = true)
    (hgood : ∀ w ∈ Cond.classLink own ik cls :: Cond.initialized cls :: vx_at0 own ic cls names, vx_ot w = true)
    (hU : vx_Zq Bundle.tN "UNASSIGNED_STACK" Bundle.steD A s s.heap) (hN : vx_Zq Bundle.tN "SUPPRESSED_SENTINEL" Bundle.listD A s s.heap) (hS : va_S A s.heap H locs) (hsize : ls.size = c.maxLocals)
    (d0 : decode cc pc = .ok (.new ik, 3)) (d3 : decode cc (pc + 3) = .ok (.dup, 1)) (d4 : decode cc (pc + 4) = .ok (.invokespecial ic, 3)) (d7 : decode cc (pc + 7) = .ok (.athrow, 1))
    (hout : ∀ x ∈ c.exceptionTable.toList, covers x (pc + 7) = false)
    (hRframes : names.length + 3 < R.frames) (hRlocals : (rest.map fun v => v.category).sum + (13 * (names.length + 1) + 42) ≤ R.locals) (hRcells : cells + 1 ≤ R.cells) (hRslots : slots + 6 ≤ R.slots) (hlocks : meth.locks = false)
    (hx : ∀ t : State, s.vm.Alike t.vm → H.size ≤ t.heap.size → (∀ q : Nat, q < H.size → t.heap[q]? = H[q]?) → XC cls s t)
    (hf : ∀ z ∈ locs, free z.base) (hc : cells + 1 ≤ mc) (hs : slots + 6 ≤ ms) :
    W p l e R s m args below meth c H locs cells slots (vx_MQ below Qc XC args s mc ms free) (F0 m pc ls rest) := by
  intro T hT X
  have htr : e.platform.stackTraces = false := (show e.platform.stackTraces = l.stackTraces by rw [X.admits.platform]).trans hl
  have Y := vx_rebase X (R' := { frames := R.frames, locals := R.locals, cells := 1, slots := 6 }) (Nat.le_refl _) (Nat.le_refl _) hRcells hRslots
  obtain ⟨s', hA⟩ : ∃ z, z = (T.setVm s.vm).setFrames (.invoking m args :: below) := ⟨_, rfl⟩
  rw [← hA] at Y
  have hvm : s'.vm = s.vm := by rw [hA]; rfl
  have hhp : s'.heap = H := by rw [hA]; exact hT
  have hW0 : s.WarmedH s'.vm := by rw [hvm]; exact State.WarmedH.refl s
  have hat' : ∀ w ∈ vx_at0 own ic cls names, w.before args s' = true := fun w hw => vx_ot_at hW0 hvm.symm (hgood w (List.mem_cons_of_mem _ (List.mem_cons_of_mem _ hw))) (hat w hw)
  have hk' : (Cond.classLink own ik cls).before args s' = true := vx_ot_at hW0 hvm.symm (hgood _ List.mem_cons_self) hk
  have hini' : (Cond.initialized cls).before args s' = true := vx_ot_at hW0 hvm.symm (hgood _ (List.mem_cons_of_mem _ List.mem_cons_self)) hini
  have hU' : vx_Zq Bundle.tN "UNASSIGNED_STACK" Bundle.steD A s' s'.heap := by rw [hhp]; exact vx_Zq.moved hW0.alike (hU.kept hS.2.1)
  have hN' : vx_Zq Bundle.tN "SUPPRESSED_SENTINEL" Bundle.listD A s' s'.heap := by rw [hhp]; exact vx_Zq.moved hW0.alike (hN.kept hS.2.1)
  have h : ∀ w ∈ Bundle.ownAtoms0 own ic cls names, w.before args s' = true := vx_own hat' (vx_isRefq hU'.1) (vx_isRefq hN'.1) hU'.2.word hN'.2.word
  have hown' : s'.vm.findClass own = some m.cls := by rw [hvm]; exact hown
  have hins : (Cond.instantiable cls 6).before args s' = true := h _ (by simp [Bundle.ownAtoms0])
  obtain ⟨vm₁, cX, kX, hfX, hkX, -, -, X₁, st1⟩ := Y.newCold hexec (own := own) (C := cls) (index := ik) (n := 6) hown' hk' hins hini'
    (g := F0 m pc ls rest) rfl (by rw [hb]; exact d0) (Nat.le_refl _) (Nat.le_refl _)
  generalize hT1 : (T.setVm vm₁).pushCell { cls := cX, slots := kX.instanceTypes.map defaultValue, vm := .none } = T1 at X₁ st1
  have hcat : (Value.ref T.heap.size).category = 1 := rfl
  have hcellA : T1.heap[T.heap.size]? = some (freshCell cX kX) := by rw [← hT1]; exact State.heap_pushCell_size _ _
  have d3' : decode c.code (pc + 3) = .ok (.dup, 1) := by rw [hb]; exact d3
  obtain ⟨U, hsteps, hrun, hend, hW, hsame, ce, hce, hO⟩ := X₁.ctorThrow0 hexec htr (own := own) (cls := cls) (names := names) (ic := ic) hown' hcls hnames h (fun x hx => nomatch hx) hfX hkX hcellA (by rw [hhp, hT]; exact Nat.le_refl _)
    (g := { method := m, pc := pc + 4, locals := ls, stack := .ref T.heap.size :: .ref T.heap.size :: rest, locked := none }) rfl hsize rfl rfl (rest := rest) rfl
    (by rw [hb]; exact d4) (by rw [hb]; exact d7) hout hRframes (by simp only [List.map_cons, List.sum_cons, hcat]; omega) hlocks
  obtain ⟨f1, f2⟩ := vx_frame hsame
  rw [hhp] at f1 f2
  have hWs : s.WarmedH U.vm := State.WarmedH.trans hW0 hW
  have hcl : s.vm.findClass cls = some ce.cls := by
    have h9 := hO.cls
    rw [hvm] at h9
    exact h9
  have hall : s.sameButNew ({ U with vm := s.vm } : State) locs mc ms := by
    subst hA
    obtain ⟨e1, e2⟩ := hsame
    rw [State.setFrames_setFrames] at e1
    have h2 : (T.setVm s.vm).sameButNew ({ U with vm := s.vm } : State) [] (0 + 1) (0 + 6) := ⟨e1, e2⟩
    have h3 := X.same.trans h2
    rw [List.append_nil] at h3
    exact h3.mono hc hs
  refine ⟨U, ?_, .threw T.heap.size, hrun, hend, Or.inr ⟨T.heap.size, rfl, cls, ce, locs, hx U hWs.alike f1 (fun q hq => f2 q hq (fun z hz => nomatch hz)), hce, hO.vm, hcl, hWs, hall, hf⟩⟩
  refine st1 _ ?_
  show Steps p.tables e below (T1.setTop { method := m, pc := pc + 3, locals := ls, stack := .ref T.heap.size :: rest, locked := none }) _
  jvm_step X₁.here [X₁.here.top, hexec, d3', Value.category]
  exact hsteps
/-- 'throw new E("text")': new; dup; ldc; invokespecial; athrow -/
theorem vx_throwS {cc : ByteArray} {pc : Nat} (hexec : p.tables.exec = Jvm.exec) (hb : c.code = cc) (hl : l.stackTraces = false) {own cls text : String} {names : List String} {ik is ic mc ms sa : Nat} {A : Nat → Prop}
    (hown : s.vm.findClass own = some m.cls) (hcls : Bundle.fit cls = true) (hnames : ∀ n ∈ names, Bundle.fit n = true)
    (hk : (Cond.classLink own ik cls).before args s = true) (hini : (Cond.initialized cls).before args s = true) (hstr : vk_R own is text sa s) (hat : ∀ w ∈ vx_atS own ic cls names, w.before args s = true)
    (hgood : ∀ w ∈ Cond.classLink own ik cls :: Cond.initialized cls :: vx_atS own ic cls names, vx_ot w = true)
    (hU : vx_Zq Bundle.tN "UNASSIGNED_STACK" Bundle.steD A s s.heap) (hN : vx_Zq Bundle.tN "SUPPRESSED_SENTINEL" Bundle.listD A s s.heap) (hS : va_S A s.heap H locs) (hsize : ls.size = c.maxLocals)
    (d0 : decode cc pc = .ok (.new ik, 3)) (d3 : decode cc (pc + 3) = .ok (.dup, 1)) (d4 : decode cc (pc + 4) = .ok (.ldc is, 2)) (d6 : decode cc (pc + 6) = .ok (.invokespecial ic, 3)) (d9 : decode cc (pc + 9) = .ok (.athrow, 1))
    (hout : ∀ x ∈ c.exceptionTable.toList, covers x (pc + 9) = false)
    (hRframes : names.length + 3 < R.frames) (hRlocals : (rest.map fun v => v.category).sum + (13 * (names.length + 1) + 43) ≤ R.locals) (hRcells : cells + 1 ≤ R.cells) (hRslots : slots + 6 ≤ R.slots) (hlocks : meth.locks = false)
    (hx : ∀ t : State, s.vm.Alike t.vm → H.size ≤ t.heap.size → (∀ q : Nat, q < H.size → t.heap[q]? = H[q]?) → XC cls s t)
    (hf : ∀ z ∈ locs, free z.base) (hc : cells + 1 ≤ mc) (hs : slots + 6 ≤ ms) :
    W p l e R s m args below meth c H locs cells slots (vx_MQ below Qc XC args s mc ms free) (F0 m pc ls rest) := by
  intro T hT X
  have htr : e.platform.stackTraces = false := (show e.platform.stackTraces = l.stackTraces by rw [X.admits.platform]).trans hl
  have Y := vx_rebase X (R' := { frames := R.frames, locals := R.locals, cells := 1, slots := 6 }) (Nat.le_refl _) (Nat.le_refl _) hRcells hRslots
  obtain ⟨s', hA⟩ : ∃ z, z = (T.setVm s.vm).setFrames (.invoking m args :: below) := ⟨_, rfl⟩
  rw [← hA] at Y
  have hvm : s'.vm = s.vm := by rw [hA]; rfl
  have hhp : s'.heap = H := by rw [hA]; exact hT
  have hW0 : s.WarmedH s'.vm := by rw [hvm]; exact State.WarmedH.refl s
  have hat' : ∀ w ∈ vx_atS own ic cls names, w.before args s' = true := fun w hw => vx_ot_at hW0 hvm.symm (hgood w (List.mem_cons_of_mem _ (List.mem_cons_of_mem _ hw))) (hat w hw)
  have hk' : (Cond.classLink own ik cls).before args s' = true := vx_ot_at hW0 hvm.symm (hgood _ List.mem_cons_self) hk
  have hini' : (Cond.initialized cls).before args s' = true := vx_ot_at hW0 hvm.symm (hgood _ (List.mem_cons_of_mem _ List.mem_cons_self)) hini
  have hU' : vx_Zq Bundle.tN "UNASSIGNED_STACK" Bundle.steD A s' s'.heap := by rw [hhp]; exact vx_Zq.moved hW0.alike (hU.kept hS.2.1)
  have hN' : vx_Zq Bundle.tN "SUPPRESSED_SENTINEL" Bundle.listD A s' s'.heap := by rw [hhp]; exact vx_Zq.moved hW0.alike (hN.kept hS.2.1)
  have h : ∀ w ∈ Bundle.ownAtoms own ic cls names, w.before args s' = true := vx_own hat' (vx_isRefq hU'.1) (vx_isRefq hN'.1) hU'.2.word hN'.2.word
  have hown' : s'.vm.findClass own = some m.cls := by rw [hvm]; exact hown
  have hins : (Cond.instantiable cls 6).before args s' = true := h _ (by simp [Bundle.ownAtoms])
  obtain ⟨vm₁, cX, kX, hfX, hkX, -, -, X₁, st1⟩ := Y.newCold hexec (own := own) (C := cls) (index := ik) (n := 6) hown' hk' hins hini'
    (g := F0 m pc ls rest) rfl (by rw [hb]; exact d0) (Nat.le_refl _) (Nat.le_refl _)
  generalize hT1 : (T.setVm vm₁).pushCell { cls := cX, slots := kX.instanceTypes.map defaultValue, vm := .none } = T1 at X₁ st1
  have hcat : (Value.ref T.heap.size).category = 1 := rfl
  have hcellA : T1.heap[T.heap.size]? = some (freshCell cX kX) := by rw [← hT1]; exact State.heap_pushCell_size _ _
  have d3' : decode c.code (pc + 3) = .ok (.dup, 1) := by rw [hb]; exact d3
  have d4' : decode c.code (pc + 4) = .ok (.ldc is, 2) := by rw [hb]; exact d4
  have hstr' : vk_R own is text sa s' := vk_R.warm hW0 hstr
  obtain ⟨U, hsteps, hrun, hend, hW, hsame, ce, hce, hO⟩ := X₁.ctorThrowS hexec htr (own := own) (cls := cls) (names := names) (ic := ic) hown' hcls hnames h (fun x hx => nomatch hx) hfX hkX hcellA (by rw [hhp, hT]; exact Nat.le_refl _) (msg := .ref sa) rfl
    (g := { method := m, pc := pc + 6, locals := ls, stack := .ref sa :: .ref T.heap.size :: .ref T.heap.size :: rest, locked := none }) rfl hsize rfl rfl (rest := rest) rfl
    (by rw [hb]; exact d6) (by rw [hb]; exact d9) hout hRframes (by simp only [List.map_cons, List.sum_cons, hcat]; omega) hlocks
  obtain ⟨f1, f2⟩ := vx_frame hsame
  rw [hhp] at f1 f2
  have hWs : s.WarmedH U.vm := State.WarmedH.trans hW0 hW
  have hcl : s.vm.findClass cls = some ce.cls := by
    have h9 := hO.cls
    rw [hvm] at h9
    exact h9
  have hall : s.sameButNew ({ U with vm := s.vm } : State) locs mc ms := by
    subst hA
    obtain ⟨e1, e2⟩ := hsame
    rw [State.setFrames_setFrames] at e1
    have h2 : (T.setVm s.vm).sameButNew ({ U with vm := s.vm } : State) [] (0 + 1) (0 + 6) := ⟨e1, e2⟩
    have h3 := X.same.trans h2
    rw [List.append_nil] at h3
    exact h3.mono hc hs
  refine ⟨U, ?_, .threw T.heap.size, hrun, hend, Or.inr ⟨T.heap.size, rfl, cls, ce, locs, hx U hWs.alike f1 (fun q hq => f2 q hq (fun z hz => nomatch hz)), hce, hO.vm, hcl, hWs, hall, hf⟩⟩
  refine st1 _ ?_
  show Steps p.tables e below (T1.setTop { method := m, pc := pc + 3, locals := ls, stack := .ref T.heap.size :: rest, locked := none }) _
  jvm_step X₁.here [X₁.here.top, hexec, d3', Value.category]
  exact X₁.ldcString hexec (own := own) (text := text) (index := is) (a := sa) hown' hstr'.1 hstr'.2
    (g := { method := m, pc := pc + 4, locals := ls, stack := .ref T.heap.size :: .ref T.heap.size :: rest, locked := none }) rfl d4' _ hsteps
/-- 'throw new E("text")', the text by a wide index -/
theorem vx_throwSW {cc : ByteArray} {pc : Nat} (hexec : p.tables.exec = Jvm.exec) (hb : c.code = cc) (hl : l.stackTraces = false) {own cls text : String} {names : List String} {ik is ic mc ms sa : Nat} {A : Nat → Prop}
    (hown : s.vm.findClass own = some m.cls) (hcls : Bundle.fit cls = true) (hnames : ∀ n ∈ names, Bundle.fit n = true)
    (hk : (Cond.classLink own ik cls).before args s = true) (hini : (Cond.initialized cls).before args s = true) (hstr : vk_R own is text sa s) (hat : ∀ w ∈ vx_atS own ic cls names, w.before args s = true)
    (hgood : ∀ w ∈ Cond.classLink own ik cls :: Cond.initialized cls :: vx_atS own ic cls names, vx_ot w = true)
    (hU : vx_Zq Bundle.tN "UNASSIGNED_STACK" Bundle.steD A s s.heap) (hN : vx_Zq Bundle.tN "SUPPRESSED_SENTINEL" Bundle.listD A s s.heap) (hS : va_S A s.heap H locs) (hsize : ls.size = c.maxLocals)
    (d0 : decode cc pc = .ok (.new ik, 3)) (d3 : decode cc (pc + 3) = .ok (.dup, 1)) (d4 : decode cc (pc + 4) = .ok (.ldc_w is, 3)) (d7 : decode cc (pc + 7) = .ok (.invokespecial ic, 3)) (d10 : decode cc (pc + 10) = .ok (.athrow, 1))
    (hout : ∀ x ∈ c.exceptionTable.toList, covers x (pc + 10) = false)
    (hRframes : names.length + 3 < R.frames) (hRlocals : (rest.map fun v => v.category).sum + (13 * (names.length + 1) + 43) ≤ R.locals) (hRcells : cells + 1 ≤ R.cells) (hRslots : slots + 6 ≤ R.slots) (hlocks : meth.locks = false)
    (hx : ∀ t : State, s.vm.Alike t.vm → H.size ≤ t.heap.size → (∀ q : Nat, q < H.size → t.heap[q]? = H[q]?) → XC cls s t)
    (hf : ∀ z ∈ locs, free z.base) (hc : cells + 1 ≤ mc) (hs : slots + 6 ≤ ms) :
    W p l e R s m args below meth c H locs cells slots (vx_MQ below Qc XC args s mc ms free) (F0 m pc ls rest) := by
  intro T hT X
  have htr : e.platform.stackTraces = false := (show e.platform.stackTraces = l.stackTraces by rw [X.admits.platform]).trans hl
  have Y := vx_rebase X (R' := { frames := R.frames, locals := R.locals, cells := 1, slots := 6 }) (Nat.le_refl _) (Nat.le_refl _) hRcells hRslots
  obtain ⟨s', hA⟩ : ∃ z, z = (T.setVm s.vm).setFrames (.invoking m args :: below) := ⟨_, rfl⟩
  rw [← hA] at Y
  have hvm : s'.vm = s.vm := by rw [hA]; rfl
  have hhp : s'.heap = H := by rw [hA]; exact hT
  have hW0 : s.WarmedH s'.vm := by rw [hvm]; exact State.WarmedH.refl s
  have hat' : ∀ w ∈ vx_atS own ic cls names, w.before args s' = true := fun w hw => vx_ot_at hW0 hvm.symm (hgood w (List.mem_cons_of_mem _ (List.mem_cons_of_mem _ hw))) (hat w hw)
  have hk' : (Cond.classLink own ik cls).before args s' = true := vx_ot_at hW0 hvm.symm (hgood _ List.mem_cons_self) hk
  have hini' : (Cond.initialized cls).before args s' = true := vx_ot_at hW0 hvm.symm (hgood _ (List.mem_cons_of_mem _ List.mem_cons_self)) hini
  have hU' : vx_Zq Bundle.tN "UNASSIGNED_STACK" Bundle.steD A s' s'.heap := by rw [hhp]; exact vx_Zq.moved hW0.alike (hU.kept hS.2.1)
  have hN' : vx_Zq Bundle.tN "SUPPRESSED_SENTINEL" Bundle.listD A s' s'.heap := by rw [hhp]; exact vx_Zq.moved hW0.alike (hN.kept hS.2.1)
  have h : ∀ w ∈ Bundle.ownAtoms own ic cls names, w.before args s' = true := vx_own hat' (vx_isRefq hU'.1) (vx_isRefq hN'.1) hU'.2.word hN'.2.word
  have hown' : s'.vm.findClass own = some m.cls := by rw [hvm]; exact hown
  have hins : (Cond.instantiable cls 6).before args s' = true := h _ (by simp [Bundle.ownAtoms])
  obtain ⟨vm₁, cX, kX, hfX, hkX, -, -, X₁, st1⟩ := Y.newCold hexec (own := own) (C := cls) (index := ik) (n := 6) hown' hk' hins hini'
    (g := F0 m pc ls rest) rfl (by rw [hb]; exact d0) (Nat.le_refl _) (Nat.le_refl _)
  generalize hT1 : (T.setVm vm₁).pushCell { cls := cX, slots := kX.instanceTypes.map defaultValue, vm := .none } = T1 at X₁ st1
  have hcat : (Value.ref T.heap.size).category = 1 := rfl
  have hcellA : T1.heap[T.heap.size]? = some (freshCell cX kX) := by rw [← hT1]; exact State.heap_pushCell_size _ _
  have d3' : decode c.code (pc + 3) = .ok (.dup, 1) := by rw [hb]; exact d3
  have d4' : decode c.code (pc + 4) = .ok (.ldc_w is, 3) := by rw [hb]; exact d4
  have hstr' : vk_R own is text sa s' := vk_R.warm hW0 hstr
  obtain ⟨U, hsteps, hrun, hend, hW, hsame, ce, hce, hO⟩ := X₁.ctorThrowS hexec htr (own := own) (cls := cls) (names := names) (ic := ic) hown' hcls hnames h (fun x hx => nomatch hx) hfX hkX hcellA (by rw [hhp, hT]; exact Nat.le_refl _) (msg := .ref sa) rfl
    (g := { method := m, pc := pc + 7, locals := ls, stack := .ref sa :: .ref T.heap.size :: .ref T.heap.size :: rest, locked := none }) rfl hsize rfl rfl (rest := rest) rfl
    (by rw [hb]; exact d7) (by rw [hb]; exact d10) hout hRframes (by simp only [List.map_cons, List.sum_cons, hcat]; omega) hlocks
  obtain ⟨f1, f2⟩ := vx_frame hsame
  rw [hhp] at f1 f2
  have hWs : s.WarmedH U.vm := State.WarmedH.trans hW0 hW
  have hcl : s.vm.findClass cls = some ce.cls := by
    have h9 := hO.cls
    rw [hvm] at h9
    exact h9
  have hall : s.sameButNew ({ U with vm := s.vm } : State) locs mc ms := by
    subst hA
    obtain ⟨e1, e2⟩ := hsame
    rw [State.setFrames_setFrames] at e1
    have h2 : (T.setVm s.vm).sameButNew ({ U with vm := s.vm } : State) [] (0 + 1) (0 + 6) := ⟨e1, e2⟩
    have h3 := X.same.trans h2
    rw [List.append_nil] at h3
    exact h3.mono hc hs
  refine ⟨U, ?_, .threw T.heap.size, hrun, hend, Or.inr ⟨T.heap.size, rfl, cls, ce, locs, hx U hWs.alike f1 (fun q hq => f2 q hq (fun z hz => nomatch hz)), hce, hO.vm, hcl, hWs, hall, hf⟩⟩
  refine st1 _ ?_
  show Steps p.tables e below (T1.setTop { method := m, pc := pc + 3, locals := ls, stack := .ref T.heap.size :: rest, locked := none }) _
  jvm_step X₁.here [X₁.here.top, hexec, d3', Value.category]
  exact X₁.ldcStringW hexec (own := own) (text := text) (index := is) (a := sa) hown' hstr'.1 hstr'.2
    (g := { method := m, pc := pc + 4, locals := ls, stack := .ref T.heap.size :: .ref T.heap.size :: rest, locked := none }) rfl d4' _ hsteps
end Ends
section Bodies
variable {l : Launch}
theorem vx_ofW {y : MethodName} {ws ws' : List Cond} {rm : Room} {Pc : Array Value → State → Prop} {Qc : Array Value → State → Outcome → State → Prop} {XC : String → State → State → Prop} {mc ms : Nat} {free : Addr → Prop} {cc : ByteArray} {maxL : Nat} {ret : Option FieldType}
    (hy : plainName y.cls = true) (hw : ws = Cond.code y cc maxL ret :: ws')
    (body : ∀ p e s m args below meth c s₁, BodyLoose p l y (headSpec ws rm) cc maxL ret e s m args below meth c s₁ → c.maxLocals = maxL → (∀ x ∈ c.exceptionTable.toList, False) → Pc args s →
      W p l e (headSpec ws rm).room s m args below meth c s.heap [] 0 0 (vx_MQ below Qc XC args s mc ms free) (entryFrame m args maxL)) : vx_Met l y ws rm Pc Qc XC mc ms free := by
  refine MetFree.of_bodyS (code := cc) (maxLocals := maxL) (ret := ret) hy ?_ ?_
  · intro args s m h hn
    obtain ⟨meth, c, h1, h2, h3, h4, h5, h6, -, -⟩ := Cond.code_spec hn (atoms_spec (ws := ws) h _ (by rw [hw]; exact List.mem_cons_self))
    exact ⟨meth, c, h1, h2, h3, h4, h5, h6⟩
  · intro p e s m args below meth c s₁ B hml hP _
    have hh0 : s₁.heap = s.heap := by rw [B.state]; rfl
    have ht : ∀ x ∈ c.exceptionTable.toList, False := by
      obtain ⟨meth9, c9, h1, h2, -, -, -, -, h7, -⟩ := Cond.code_spec B.named (atoms_spec (ws := ws) B.pre _ (by rw [hw]; exact List.mem_cons_self))
      cases Option.some.inj (h1.symm.trans B.method)
      cases Option.some.inj (h2.symm.trans (Stand.of_body B).code)
      intro x hx
      rw [Array.isEmpty_iff.mp h7] at hx
      cases hx
    obtain ⟨t, a1, o, b1, b2, b3⟩ := body p e s m args below meth c s₁ B hml ht hP s₁ hh0 (Stand.of_body B)
    exact ⟨t, o, a1, b1, b2, b3⟩
/-- the table of a body with handlers -/
theorem vx_table {p : Program} {x y : MethodName} {S : Spec} {cc bytes : ByteArray} {maxL maxL' : Nat} {ret ret' : Option FieldType} {e : Env} {s s₁ : State} {m : MethodId} {args : Array Value} {below : List Frame} {meth : Method} {c : Code} {hh : List (Nat × Nat × Nat × Nat)}
    (B : BodyLoose p l y S cc maxL ret e s m args below meth c s₁) (h : (Cond.codeWith y bytes maxL' ret' hh).before args s = true) : c.exceptionTable.toList = tableOf hh := by
  obtain ⟨m9, meth9, c9, hn9, h1, h2, -, -, h6, -⟩ := Cond.codeWith_spec h
  cases Option.some.inj (hn9.symm.trans B.named)
  cases Option.some.inj (h1.symm.trans B.method)
  cases Option.some.inj (h2.symm.trans (Stand.of_body B).code)
  rw [← h6, table_eq]
end Bodies
end VXA
/-! ===== END ===== -/
/-! ===== BEGIN a static call of a method with an exception table ===== -/
section VXS
variable {p : Program} {l : Launch} {e : Env} {R : Room} {s : State} {m : MethodId} {args : Array Value} {below : List Frame} {meth : Method} {c : Code} {T : State} {H : Heap} {locs : List Loc} {cells slots : Nat}
abbrev vx_CSW (R : Room) (s : State) (args : Array Value) (own : String) (index : Nat) (y : MethodName) (bytes : ByteArray) (maxL : Nat) (ret : Option FieldType) (hh : List (Nat × Nat × Nat × Nat)) (ws : List Cond) (rm : Room) (mc ms n : Nat) : Prop :=
  (rm.cells = mc ∧ rm.slots = ms ∧ rm.frames + 1 ≤ R.frames ∧ 8 + (maxL + 11) + rm.locals ≤ R.locals ∧ (∀ w ∈ ws, ∀ (a' : Array Value) (U : State), s.WarmedH U.vm → w.before a' U = true) ∧ Cond.codeWith y bytes maxL ret hh ∈ ws) ∧
  (Cond.codeWith y bytes maxL ret hh).before args s = true ∧ (Cond.initialized y.cls).before args s = true ∧ (y.cls ≠ "java/lang/invoke/MethodHandle" ∧ y.cls ≠ "java/lang/invoke/VarHandle") ∧
  (∀ sig, parseMethodDescriptor y.desc = some sig → n = sig.parameters.length) ∧ (Cond.methodLink own index y).before args s = true ∧ (Cond.static y).before args s = true
theorem vx_cwSW {own : String} {index maxL mc ms : Nat} {y : MethodName} {bytes : ByteArray} {ret : Option FieldType} {hh : List (Nat × Nat × Nat × Nat)} {Ts ws ws' : List Cond} {rm : Room} (n : Nat) (ht : ∀ w ∈ Ts, w.before args s = true) (hT : GoodIn Ts (va_wsS own index y ws)) (hw : ws = Cond.codeWith y bytes maxL ret hh :: ws') (hrc : rm.cells = mc) (hrs : rm.slots = ms)
    (hd : y.cls ≠ "java/lang/invoke/MethodHandle" ∧ y.cls ≠ "java/lang/invoke/VarHandle" ∧ (parseMethodDescriptor y.desc).map (fun d => d.parameters.length) = some n) (hR : rm.frames + 1 ≤ R.frames ∧ 8 + (maxL + 11) + rm.locals ≤ R.locals) :
    vx_CSW R s args own index y bytes maxL ret hh ws rm mc ms n := by
  have ok : ∀ w ∈ va_wsS own index y ws, w.before args s = true := fun w h => ht w (hT w h).1
  have hG : GoodIn Ts ws := fun w h => hT w (by unfold va_wsS; exact List.mem_append_right _ h)
  have hc : Cond.codeWith y bytes maxL ret hh ∈ ws := by rw [hw]; exact List.mem_cons_self
  refine ⟨⟨hrc, hrs, hR.1, hR.2, pay_in ht hG, hc⟩, ht _ (hG _ hc).1, ok _ (by simp [va_wsS]), ⟨hd.1, hd.2.1⟩, fun sig h => ?_, ok _ (by simp [va_wsS]), ok _ (by simp [va_wsS])⟩
  have h2 := hd.2.2
  rw [h] at h2
  exact (Option.some.inj h2).symm
theorem vx_callSW (X : Stand p l e R s m args below meth c T locs cells slots) (hexec : p.tables.exec = Jvm.exec) {own : String} {index : Nat} {y : MethodName} {bytes : ByteArray} {maxL : Nat} {ret : Option FieldType} {hh : List (Nat × Nat × Nat × Nat)}
    (hown : s.vm.findClass own = some m.cls) (hlink : (Cond.methodLink own index y).before args s = true) (hstat : (Cond.static y).before args s = true) (hinit : (Cond.initialized y.cls).before args s = true)
    (hcode : (Cond.codeWith y bytes maxL ret hh).before args s = true) (hy : y.cls ≠ "java/lang/invoke/MethodHandle" ∧ y.cls ≠ "java/lang/invoke/VarHandle")
    {W9 : Nat} {Pre : Pt → Array Value → Prop} {Post : Pt → Array Value → Option Value → Pt → Prop} (hK : Back l R p e below s args y 3 W9 Pre Post)
    {g : JFrame} (hg : g.method = m) (hsize : g.locals.size = c.maxLocals) {argsL rest : List Value} (hlen : ∀ sig, parseMethodDescriptor y.desc = some sig → argsL.length = sig.parameters.length)
    (hstack : g.stack = argsL.reverse ++ rest) (hW : 2 * g.monitorRoom + (rest.map fun v => v.category).sum ≤ W9) (hdg : decode c.code g.pc = .ok (.invokestatic index, 3))
    (hpre : ∀ vm₁, s.WarmedH vm₁ → Pre ⟨T.setVm vm₁, locs, cells, slots⟩ argsL.toArray) :
    ∃ (v : Option Value) (vm₁ : Vm) (B : Pt), s.WarmedH vm₁ ∧ Stand p l e R s m args below meth c B.U B.locs B.cells B.slots ∧ Post ⟨T.setVm vm₁, locs, cells, slots⟩ argsL.toArray v B ∧
      ∀ target, Steps p.tables e below (B.U.setTop { g with pc := g.pc + 3, stack := v.toList ++ rest }) target → Steps p.tables e below (T.setTop g) target := by
  obtain ⟨mk, methM, cM, hnamed, hmethM, -, -, -, -, -, -, hsigM⟩ := Cond.codeWith_spec hcode
  have hstatic : methM.isStatic = true := Cond.static_spec hnamed hmethM hstat
  obtain ⟨kP, hkP, -⟩ := className_of_methodNamed hnamed
  have hinitP : kP.init = .initialized := Cond.initialized_spec (findClass_of_methodNamed hnamed) hkP hinit
  obtain ⟨vm₁, X₁, hstep₁⟩ := X.invokestatic hexec hown hlink hnamed hmethM hstatic hkP hinitP hy (g := g) hg (argsL := argsL) (rest := rest) (hlen _ hsigM) hstack hdg
  obtain ⟨v, B, X', hpost, hsteps⟩ := hK m meth c ⟨T.setVm vm₁, locs, cells, slots⟩ { g with stack := rest } (.invokestatic index) mk argsL.toArray X₁ hg hsize hdg hW (X₁.named hnamed) (hpre vm₁ X₁.warmed)
  exact ⟨v, vm₁, B, X₁.warmed, X', hpost, fun target h => hstep₁ _ fun acts => by rw [doInvoke_state]; exact hsteps.trans h⟩
theorem vx_runSW {y : MethodName} {bytes cc : ByteArray} {maxL nL mc ms n index : Nat} {ret : Option FieldType} {hh : List (Nat × Nat × Nat × Nat)} {ws : List Cond} {rm : Room} {Pc : Array Value → State → Prop} {Qc : Array Value → State → Outcome → State → Prop} {free : Addr → Prop} {Ts : List Cond} {own : String} {As rest : List Value} {g : JFrame}
    (S : CallFix p m c cc nL s args Ts own) (hM : Met l y ws rm Pc Qc mc ms free) (cw : vx_CSW R s args own index y bytes maxL ret hh ws rm mc ms n) (hp : PreS s H Pc As)
    (hg : g.method = m) (hn : As.length = n) (hsize : g.locals.size = nL) (hstack : g.stack = As.reverse ++ rest) (hW : 2 * g.monitorRoom + (rest.map fun v => v.category).sum ≤ 8) (hdg : decode cc g.pc = .ok (.invokestatic index, 3)) (hf : cells + mc ≤ R.cells ∧ slots + ms ≤ R.slots) :
    va_Run p l e R s m args below meth c H locs cells slots mc ms g rest (Qc As.toArray) (free) := by
  obtain ⟨⟨hrc, hrs, hfr, hlo, hws, hcw⟩, hcode, hini, hy, hlen, hl, hstt⟩ := cw
  have hK : Back l R p e below s args y 3 8 (PreOf R mc ms Pc) (PostOf Qc mc ms free) := va_backW (hh := hh) (bytes := bytes) (maxL := maxL) (ret := ret) hM hp.1 hrc hrs hfr hlo hws hcw (fun a' U hW => word_at hW (Or.inl (by first | rfl | simp [Cond.onTables, Cond.keeps, Cond.steady])) hini)
  obtain ⟨hx, hb, hml, ho, -⟩ := S
  intro T hT X
  obtain ⟨v, vm₁, ⟨U', l2, c2, s2⟩, hW₁, X', ⟨g', mk, t, L, e1, e2, hq, h1, hL, h2, h3⟩, st⟩ := vx_callSW X hx (hh := hh) (bytes := bytes) (maxL := maxL) (ret := ret) ho hl hstt hini hcode hy hK hg (hsize.trans hml.symm) (argsL := As) (rest := rest) (fun sig h => hn.trans (hlen sig h)) hstack hW (by rw [hb]; exact hdg)
    (fun vm₁ hW₁ => ⟨hf.1, hf.2, hp.2 (T.setVm vm₁) hT hW₁⟩)
  dsimp only [Pt.U, Pt.locs, Pt.cells, Pt.slots] at X' e1 e2 h1 h2 h3 st
  subst h1; subst h2; subst h3
  exact ⟨v, (T.setVm vm₁).calling g' mk As.toArray, t, U', L, hT, X', hL, e1, e2, hq, st⟩
/-- not caught here, past rows that name other classes: it goes on to the caller -/
theorem vx_outP {p : Program} {l : Launch} {e : Env} {R : Room} {s : State} {m : MethodId} {args : Array Value} {below : List Frame} {meth : Method} {c : Code} {H : Heap} {locs : List Loc} {cells slots : Nat} {free : Addr → Prop} {ls : Array Slot} {rest : List Value} {Qc : Array Value → State → Outcome → State → Prop} {XC : String → State → State → Prop}
    {pc : Nat} {own E : String} {ce : Cell} {q : Addr} {mc ms : Nat} (hown : s.vm.findClass own = some m.cls) (hlocks : meth.locks = false)
    (hpass : ∀ z ∈ c.exceptionTable.toList, covers z pc = false ∨ (z.catchType ≠ 0 ∧ ∃ nm : String, (Cond.classLink own z.catchType nm).before args s = true ∧ va_Nc E nm s)) (hcell : H[q]? = some ce) (hv : ce.vm = .none) (hcl : s.vm.findClass E = some ce.cls)
    (hx : ∀ t : State, t.heap = H → s.vm.Alike t.vm → XC E s t) (hf : ∀ z ∈ locs, free z.base) (hc : cells ≤ mc) (hs : slots ≤ ms) :
    vx_W p l e R s m args below meth c H locs cells slots (vx_MQ below Qc XC args s mc ms free) (F0 m pc ls rest) q := by
  intro T hT X
  have hpl : e.platform.magicAccessors = ({} : Platform).magicAccessors := by rw [X.admits.platform]
  obtain ⟨vm', hW', X', st⟩ := X.outThrough hlocks q (g := F0 m pc ls rest) rfl rfl rfl (cell := ce) (by rw [hT]; exact hcell) (by rw [hv]; rfl)
    (by obtain ⟨k9, h9, -⟩ := Vm.findClass_spec hcl; exact ⟨k9, h9⟩) (fun z hz => by
      rcases hpass z hz with h | ⟨hz0, nm, hl1, hn1⟩
      · exact Or.inl h
      · obtain ⟨c6, hc6, hcl6⟩ := Cond.classLink_spec hown hl1 e.platform hpl
        obtain ⟨a8, b8, h1, h2, h3⟩ := hn1
        cases Option.some.inj (h1.symm.trans hcl)
        cases Option.some.inj (h2.symm.trans hc6)
        exact Or.inr ⟨hz0, _, hcl6, h3⟩)
  obtain ⟨g₀, hfr⟩ := X'.frames_eq
  have hcell9 : ((T.setVm vm').setFrames (.throwing q :: below)).heap[q]? = some ce := by
    show T.heap[q]? = some ce
    rw [hT]; exact hcell
  have hend : Ended ((T.setVm vm').setFrames (.throwing q :: below)) below (.threw q) := State.frames_setFrames _ (State.cur_lt_of_frames hfr)
  refine ⟨(T.setVm vm').setFrames (.throwing q :: below), ?_, .threw q, X'.here.running, hend, Or.inr ⟨q, rfl, E, ce, locs, hx _ hT (X'.ends _).1.alike, hcell9, hv, hcl, (X'.ends _).1, (X'.ends _).2.mono hc hs, hf⟩⟩
  rw [X.pushThrowing_eq]
  exact st
/-- a thing of a world lies in the heap -/
theorem vx_lt {D : va_G} {cl : List vw_C} {ws : va_W} {H1 : Heap} (h : va_P D cl ws H1) {k : Nat} {q : Nat × va_E} (hk : ws[k]? = some q) : q.1 < H1.size := (h k q hk).lt
end VXS
/-! ===== END ===== -/
/-! ===== BEGIN methods with a table of their own: called by a name, returning or throwing ===== -/
section VXH
/-! vx_backW, vx_callVX, vx_callSX, vx_callVW, vx_runVW, vx_runVX, vx_runSX, vx_ofWH follow the same proofs as their sisters above (Free/Laws.lean, Shelf42/LK1.lean); vx_outP calls Shelf42/NT130.lean (outThrough). -/
section
variable {l : Launch} {R : Room} {p : Program} {e : Env} {below : List Frame} {s : State} {sargs : Array Value} {y : MethodName} {len W9 : Nat}
theorem vx_backW {ws : List Cond} {rm : Room} {Pc : Array Value → State → Prop} {Qc : Array Value → State → Outcome → State → Prop} {XC : String → State → State → Prop} {mc ms : Nat} {free : Addr → Prop} {bytes : ByteArray} {maxL : Nat} {ret : Option FieldType} {hh : List (Nat × Nat × Nat × Nat)}
    (hM : vx_Met l y ws rm Pc Qc XC mc ms free) (hblind : FrameBlind Pc) (hrc : rm.cells = mc) (hrs : rm.slots = ms)
    (hframes : rm.frames + 1 ≤ R.frames) (hlocals : W9 + (maxL + 11) + rm.locals ≤ R.locals)
    (hws : ∀ w ∈ ws, ∀ a' U, s.WarmedH U.vm → w.before a' U = true) (hcode : Cond.codeWith y bytes maxL ret hh ∈ ws) (hinit : ∀ a' U, s.WarmedH U.vm → (Cond.initialized y.cls).before a' U = true) :
    vx_Back l R p e below s sargs y len W9 (PreOf R mc ms Pc) (PostOf Qc mc ms free) (vx_Post XC mc ms free) := by
  intro m meth c A g ig mk a X hg hsize hdg hW hn hp
  have h1 : (headSpec ws rm).pre.before a A.U = true := atoms_intro fun w hw => hws w hw _ _ X.warmed
  have h2 : (Cond.codeWith y bytes maxL ret hh).before a A.U = true := hws _ hcode _ _ X.warmed
  have h3 : (Cond.initialized y.cls).before a A.U = true := hinit _ _ X.warmed
  have h4 : A.cells + (headSpec ws rm).room.cells ≤ R.cells := by rw [show (headSpec ws rm).room.cells = mc from hrc]; exact hp.1
  have h5 : A.slots + (headSpec ws rm).room.slots ≤ R.slots := by rw [show (headSpec ws rm).room.slots = ms from hrs]; exact hp.2.1
  have hPc : Pc a (A.U.calling g mk a) := hblind _ _ _ _ hp.2.2
  obtain ⟨U, Ls, c0, s0⟩ := A
  dsimp only [Pt.U, Pt.locs, Pt.cells, Pt.slots] at h1 h2 h3 h4 h5 X hn hPc ⊢
  obtain ⟨m9, methY, cY, hn9, hmY, hcY, -, hlY, -⟩ := Cond.codeWith_spec h2
  cases Option.some.inj (hn9.symm.trans hn)
  obtain ⟨kY, hkY, -⟩ := className_of_methodNamed hn
  have hinitY : kY.init = .initialized := Cond.initialized_spec (findClass_of_methodNamed hn) hkY h3
  have h : At U g.method c below := by rw [hg]; exact X.here
  have hlocals9 : W9 + (maxL + 11) + (headSpec ws rm).room.locals ≤ R.locals := hlocals
  have happ : (headSpec ws rm).appliesLoose y e.platform (U.calling g mk a) = true :=
    Spec.appliesLoose_calling (g := g) h hdg hn hkY hinitY
      (X.room_calling (g := g) (R' := (headSpec ws rm).room) hsize hmY hcY hframes (by rw [hlY]; omega) h4 h5) h1
  obtain ⟨mid, hmid⟩ := h.above
  have hfr : (U.setTop g).frames = (.java g :: mid) ++ below := by rw [State.frames_setTop' g h.top, hmid]; rfl
  obtain ⟨o, s₂, hsteps, -, hend, hq⟩ := Steps.callFree hM p X.admits X.cas X.clock (acts := []) hfr happ hPc trivial
  have hq' : vx_Q Qc XC mc ms free a (U.calling g mk a) o s₂ := hq
  rw [State.frames_setTop' g h.top] at hend
  obtain ⟨g₀, hg0⟩ := Option.isSome_iff_exists.mp h.top
  obtain ⟨r, hr⟩ := State.topJava?_eq_some.mp hg0
  have hr' : (({ U with heap := s₂.heap, slotsUsed := s₂.slotsUsed } : State).setVm s₂.vm).frames = .java g₀ :: r := hr
  rcases hq' with ⟨hqc, L, hfe, hL⟩ | ⟨q, rfl, E, ce, L, hx, hce, hcv, hcl, hW₂, hsm, hL⟩
  · obtain ⟨⟨v, rfl⟩, hW₂, e2, q2, q3, q4, q5, q6⟩ := id hfe
    have e3 : s₂ = ({ (U.calling g mk a).setFrames s₂.frames with heap := s₂.heap, slotsUsed := s₂.slotsUsed } : State).setVm s₂.vm := by
      have : s₂ = ({ s₂ with vm := (U.calling g mk a).vm } : State).setVm s₂.vm := rfl
      rw [e2] at this
      exact this
    obtain ⟨c₂, i₂, len₂, hc₂, hd₂, hf₂⟩ := hend
    have hW' : U.WarmedH s₂.vm := hW₂
    have hcc : c₂ = c := by
      have h1 : s₂.code? g.method = U.code? g.method := by
        rw [State.code?_eq, State.code?_eq, hW'.alike.method?]
      exact Option.some.inj (hc₂.symm.trans (h1.trans h.code))
    subst hcc
    have hlen : len₂ = len := by rw [hdg] at hd₂; cases hd₂; rfl
    subst hlen
    have hs₂ : s₂ = (({ U with heap := s₂.heap, slotsUsed := s₂.slotsUsed } : State).setVm s₂.vm).setTop { g with pc := g.pc + len₂, stack := v.toList ++ g.stack } := by
      refine e3.trans ?_
      rw [hf₂, State.calling_eq h.top, State.setFrames_setFrames, State.setTop_of_frames _ hr', hr]
      rfl
    have hsame : U.sameButNew ({ U with heap := s₂.heap, slotsUsed := s₂.slotsUsed } : State) L mc ms := by
      refine ⟨?_, q2, q3, q4, q5, q6⟩
      obtain ⟨t, ht, -⟩ := State.frames_cons hr
      show ({ U with heap := s₂.heap, slotsUsed := s₂.slotsUsed } : State) = { U.setFrames U.frames with heap := s₂.heap, slotsUsed := s₂.slotsUsed }
      rw [State.setFrames_self ht]
    subst hg
    refine Or.inl ⟨v, ⟨(({ U with heap := s₂.heap, slotsUsed := s₂.slotsUsed } : State).setVm s₂.vm), Ls ++ L, c0 + mc, s0 + ms⟩,
      ⟨X.admits, X.cas, X.clock, X.frames, X.room, X.hears, X.method, X.code, (X.here.setHeapUsed s₂.heap s₂.slotsUsed).setVm hW'.alike, X.tail, State.WarmedH.trans X.warmed hW', X.limits, X.bytes, X.same.trans (hsame.setVm s.vm)⟩,
      ⟨g, mk, s₂, L, rfl, rfl, hqc, rfl, hL, rfl, rfl⟩, ?_⟩
    show Steps p.tables e below _ ((({ U with heap := s₂.heap, slotsUsed := s₂.slotsUsed } : State).setVm s₂.vm).setTop { g with pc := g.pc + len₂, stack := v.toList ++ g.stack })
    rw [← hs₂]
    exact hsteps
  · obtain ⟨e2, q2, q3, q4, q5, q6⟩ := id hsm
    have e3 : s₂ = ({ (U.calling g mk a).setFrames s₂.frames with heap := s₂.heap, slotsUsed := s₂.slotsUsed } : State).setVm s₂.vm := by
      have : s₂ = ({ s₂ with vm := (U.calling g mk a).vm } : State).setVm s₂.vm := rfl
      rw [e2] at this
      exact this
    have hf₂ : s₂.frames = .throwing q :: .java g :: U.frames.tail := hend
    have hW' : U.WarmedH s₂.vm := hW₂
    have hs₂ : s₂ = ((({ U with heap := s₂.heap, slotsUsed := s₂.slotsUsed } : State).setVm s₂.vm).setTop g).pushFrame (.throwing q) := by
      refine e3.trans ?_
      rw [hf₂, State.calling_eq h.top, State.setFrames_setFrames, State.pushFrame, State.frames_setTop _ hr', State.setTop_of_frames _ hr', State.setFrames_setFrames, hr]
      rfl
    have hsame : U.sameButNew ({ U with heap := s₂.heap, slotsUsed := s₂.slotsUsed } : State) L mc ms := by
      refine ⟨?_, q2, q3, q4, q5, q6⟩
      obtain ⟨t, ht, -⟩ := State.frames_cons hr
      show ({ U with heap := s₂.heap, slotsUsed := s₂.slotsUsed } : State) = { U.setFrames U.frames with heap := s₂.heap, slotsUsed := s₂.slotsUsed }
      rw [State.setFrames_self ht]
    subst hg
    refine Or.inr ⟨q, ⟨(({ U with heap := s₂.heap, slotsUsed := s₂.slotsUsed } : State).setVm s₂.vm), Ls ++ L, c0 + mc, s0 + ms⟩,
      ⟨X.admits, X.cas, X.clock, X.frames, X.room, X.hears, X.method, X.code, (X.here.setHeapUsed s₂.heap s₂.slotsUsed).setVm hW'.alike, X.tail, State.WarmedH.trans X.warmed hW', X.limits, X.bytes, X.same.trans (hsame.setVm s.vm)⟩,
      ⟨g, mk, s₂, L, E, ce, rfl, rfl, hx, hce, hcv, hcl, rfl, hL, rfl, rfl⟩, ?_⟩
    show Steps p.tables e below _ (((({ U with heap := s₂.heap, slotsUsed := s₂.slotsUsed } : State).setVm s₂.vm).setTop g).pushFrame (.throwing q))
    rw [← hs₂]
    exact hsteps
end
variable {p : Program} {l : Launch} {e : Env} {R : Room} {s : State} {m : MethodId} {args : Array Value} {below : List Frame} {meth : Method} {c : Code} {T : State} {H : Heap} {locs : List Loc} {cells slots : Nat}
theorem vx_callVX (X : Stand p l e R s m args below meth c T locs cells slots) (hexec : p.tables.exec = Jvm.exec) {own C : String} {index : Nat} {y : MethodName} {bytes : ByteArray} {maxL : Nat} {ret : Option FieldType} {hh : List (Nat × Nat × Nat × Nat)}
    (hown : s.vm.findClass own = some m.cls) (hlink : (Cond.methodLink own index y).before args s = true) (hinst : (Cond.instanceMethod y).before args s = true) (hsel : (Cond.selects C y y).before args s = true)
    (hcode : (Cond.codeWith y bytes maxL ret hh).before args s = true) (hy : y.cls ≠ "java/lang/invoke/MethodHandle" ∧ y.cls ≠ "java/lang/invoke/VarHandle")
    {W9 : Nat} {Pre : Pt → Array Value → Prop} {Post : Pt → Array Value → Option Value → Pt → Prop} {PostX : Pt → Array Value → Addr → Pt → Prop} (hK : vx_Back l R p e below s args y 3 W9 Pre Post PostX)
    {b : Addr} {cellB : Cell} (hcell : T.heap[b]? = some cellB) (hobj : cellB.vm.isStatics = false) (hcls : s.vm.findClass C = some cellB.cls)
    {g : JFrame} (hg : g.method = m) (hsize : g.locals.size = c.maxLocals) {argsL rest : List Value} (hlen : ∀ sig, parseMethodDescriptor y.desc = some sig → argsL.length = sig.parameters.length)
    (hstack : g.stack = argsL.reverse ++ .ref b :: rest) (hW : 2 * g.monitorRoom + (rest.map fun v => v.category).sum ≤ W9) (hdg : decode c.code g.pc = .ok (.invokevirtual index, 3))
    (hpre : ∀ vm₁, s.WarmedH vm₁ → Pre ⟨T.setVm vm₁, locs, cells, slots⟩ (Value.ref b :: argsL).toArray) :
    (∃ (v : Option Value) (vm₁ : Vm) (B : Pt), s.WarmedH vm₁ ∧ Stand p l e R s m args below meth c B.U B.locs B.cells B.slots ∧ Post ⟨T.setVm vm₁, locs, cells, slots⟩ (Value.ref b :: argsL).toArray v B ∧
      ∀ target, Steps p.tables e below (B.U.setTop { g with pc := g.pc + 3, stack := v.toList ++ rest }) target → Steps p.tables e below (T.setTop g) target) ∨
    (∃ (q : Addr) (vm₁ : Vm) (B : Pt), s.WarmedH vm₁ ∧ Stand p l e R s m args below meth c B.U B.locs B.cells B.slots ∧ PostX ⟨T.setVm vm₁, locs, cells, slots⟩ (Value.ref b :: argsL).toArray q B ∧
      Steps p.tables e below (T.setTop g) ((B.U.setTop { g with stack := rest }).pushFrame (.throwing q))) := by
  obtain ⟨mk, methM, hnamed, hmethM, hstM, habM⟩ := Cond.instanceMethod_spec hinst
  obtain ⟨m8, methM', cM, hn8, hmethM', -, -, -, -, -, -, hsigM⟩ := Cond.codeWith_spec hcode
  cases Option.some.inj (hn8.symm.trans hnamed)
  cases hmethM.symm.trans hmethM'
  obtain ⟨c2, r2, m2, q1, q2, q3, q4, kP, hkP, hkPi⟩ := Cond.selects_spec hsel
  cases hcls.symm.trans q1
  cases (State.methodFound?_of_named hnamed hy).symm.trans q2
  cases hnamed.symm.trans q3
  have hselP : selectMethod e.platform s.vm cellB.cls mk = .method mk := by rw [Launch.admits_selectMethod X.admits]; exact q4
  obtain ⟨vm₁, X₁, hstep₁⟩ := X.invokevirtual hexec hown hlink hnamed hmethM hstM hkP hkPi hy (a := b) (cell := cellB) hcell
    (fun z h => by rw [h] at hobj; cases hobj) hselP hmethM habM hkP hkPi (g := g) hg (argsL := argsL) (rest := rest) (hlen _ hsigM) hstack hdg
  rcases hK m meth c ⟨T.setVm vm₁, locs, cells, slots⟩ { g with stack := rest } (.invokevirtual index) mk (Value.ref b :: argsL).toArray X₁ hg hsize hdg hW (X₁.named hnamed) (hpre vm₁ X₁.warmed) with ⟨v, B, X', hpost, hsteps⟩ | ⟨q, B, X', hpost, hsteps⟩
  · exact Or.inl ⟨v, vm₁, B, X₁.warmed, X', hpost, fun target h => hstep₁ _ fun acts => by rw [doInvoke_state]; exact hsteps.trans h⟩
  · exact Or.inr ⟨q, vm₁, B, X₁.warmed, X', hpost, hstep₁ _ fun acts => by rw [doInvoke_state]; exact hsteps⟩
theorem vx_callSX (X : Stand p l e R s m args below meth c T locs cells slots) (hexec : p.tables.exec = Jvm.exec) {own : String} {index : Nat} {y : MethodName} {bytes : ByteArray} {maxL : Nat} {ret : Option FieldType} {hh : List (Nat × Nat × Nat × Nat)}
    (hown : s.vm.findClass own = some m.cls) (hlink : (Cond.methodLink own index y).before args s = true) (hstat : (Cond.static y).before args s = true) (hinit : (Cond.initialized y.cls).before args s = true)
    (hcode : (Cond.codeWith y bytes maxL ret hh).before args s = true) (hy : y.cls ≠ "java/lang/invoke/MethodHandle" ∧ y.cls ≠ "java/lang/invoke/VarHandle")
    {W9 : Nat} {Pre : Pt → Array Value → Prop} {Post : Pt → Array Value → Option Value → Pt → Prop} {PostX : Pt → Array Value → Addr → Pt → Prop} (hK : vx_Back l R p e below s args y 3 W9 Pre Post PostX)
    {g : JFrame} (hg : g.method = m) (hsize : g.locals.size = c.maxLocals) {argsL rest : List Value} (hlen : ∀ sig, parseMethodDescriptor y.desc = some sig → argsL.length = sig.parameters.length)
    (hstack : g.stack = argsL.reverse ++ rest) (hW : 2 * g.monitorRoom + (rest.map fun v => v.category).sum ≤ W9) (hdg : decode c.code g.pc = .ok (.invokestatic index, 3))
    (hpre : ∀ vm₁, s.WarmedH vm₁ → Pre ⟨T.setVm vm₁, locs, cells, slots⟩ argsL.toArray) :
    (∃ (v : Option Value) (vm₁ : Vm) (B : Pt), s.WarmedH vm₁ ∧ Stand p l e R s m args below meth c B.U B.locs B.cells B.slots ∧ Post ⟨T.setVm vm₁, locs, cells, slots⟩ argsL.toArray v B ∧
      ∀ target, Steps p.tables e below (B.U.setTop { g with pc := g.pc + 3, stack := v.toList ++ rest }) target → Steps p.tables e below (T.setTop g) target) ∨
    (∃ (q : Addr) (vm₁ : Vm) (B : Pt), s.WarmedH vm₁ ∧ Stand p l e R s m args below meth c B.U B.locs B.cells B.slots ∧ PostX ⟨T.setVm vm₁, locs, cells, slots⟩ argsL.toArray q B ∧
      Steps p.tables e below (T.setTop g) ((B.U.setTop { g with stack := rest }).pushFrame (.throwing q))) := by
  obtain ⟨mk, methM, cM, hnamed, hmethM, -, -, -, -, -, -, hsigM⟩ := Cond.codeWith_spec hcode
  have hstatic : methM.isStatic = true := Cond.static_spec hnamed hmethM hstat
  obtain ⟨kP, hkP, -⟩ := className_of_methodNamed hnamed
  have hinitP : kP.init = .initialized := Cond.initialized_spec (findClass_of_methodNamed hnamed) hkP hinit
  obtain ⟨vm₁, X₁, hstep₁⟩ := X.invokestatic hexec hown hlink hnamed hmethM hstatic hkP hinitP hy (g := g) hg (argsL := argsL) (rest := rest) (hlen _ hsigM) hstack hdg
  rcases hK m meth c ⟨T.setVm vm₁, locs, cells, slots⟩ { g with stack := rest } (.invokestatic index) mk argsL.toArray X₁ hg hsize hdg hW (X₁.named hnamed) (hpre vm₁ X₁.warmed) with ⟨v, B, X', hpost, hsteps⟩ | ⟨q, B, X', hpost, hsteps⟩
  · exact Or.inl ⟨v, vm₁, B, X₁.warmed, X', hpost, fun target h => hstep₁ _ fun acts => by rw [doInvoke_state]; exact hsteps.trans h⟩
  · exact Or.inr ⟨q, vm₁, B, X₁.warmed, X', hpost, hstep₁ _ fun acts => by rw [doInvoke_state]; exact hsteps⟩
theorem vx_callVW (X : Stand p l e R s m args below meth c T locs cells slots) (hexec : p.tables.exec = Jvm.exec) {own C : String} {index : Nat} {y : MethodName} {bytes : ByteArray} {maxL : Nat} {ret : Option FieldType} {hh : List (Nat × Nat × Nat × Nat)}
    (hown : s.vm.findClass own = some m.cls) (hlink : (Cond.methodLink own index y).before args s = true) (hinst : (Cond.instanceMethod y).before args s = true) (hsel : (Cond.selects C y y).before args s = true)
    (hcode : (Cond.codeWith y bytes maxL ret hh).before args s = true) (hy : y.cls ≠ "java/lang/invoke/MethodHandle" ∧ y.cls ≠ "java/lang/invoke/VarHandle")
    {W9 : Nat} {Pre : Pt → Array Value → Prop} {Post : Pt → Array Value → Option Value → Pt → Prop} (hK : Back l R p e below s args y 3 W9 Pre Post)
    {b : Addr} {cellB : Cell} (hcell : T.heap[b]? = some cellB) (hobj : cellB.vm.isStatics = false) (hcls : s.vm.findClass C = some cellB.cls)
    {g : JFrame} (hg : g.method = m) (hsize : g.locals.size = c.maxLocals) {argsL rest : List Value} (hlen : ∀ sig, parseMethodDescriptor y.desc = some sig → argsL.length = sig.parameters.length)
    (hstack : g.stack = argsL.reverse ++ .ref b :: rest) (hW : 2 * g.monitorRoom + (rest.map fun v => v.category).sum ≤ W9) (hdg : decode c.code g.pc = .ok (.invokevirtual index, 3))
    (hpre : ∀ vm₁, s.WarmedH vm₁ → Pre ⟨T.setVm vm₁, locs, cells, slots⟩ (Value.ref b :: argsL).toArray) :
    ∃ (v : Option Value) (vm₁ : Vm) (B : Pt), s.WarmedH vm₁ ∧ Stand p l e R s m args below meth c B.U B.locs B.cells B.slots ∧ Post ⟨T.setVm vm₁, locs, cells, slots⟩ (Value.ref b :: argsL).toArray v B ∧
      ∀ target, Steps p.tables e below (B.U.setTop { g with pc := g.pc + 3, stack := v.toList ++ rest }) target → Steps p.tables e below (T.setTop g) target := by
  obtain ⟨mk, methM, hnamed, hmethM, hstM, habM⟩ := Cond.instanceMethod_spec hinst
  obtain ⟨m8, methM', cM, hn8, hmethM', -, -, -, -, -, -, hsigM⟩ := Cond.codeWith_spec hcode
  cases Option.some.inj (hn8.symm.trans hnamed)
  cases hmethM.symm.trans hmethM'
  obtain ⟨c2, r2, m2, q1, q2, q3, q4, kP, hkP, hkPi⟩ := Cond.selects_spec hsel
  cases hcls.symm.trans q1
  cases (State.methodFound?_of_named hnamed hy).symm.trans q2
  cases hnamed.symm.trans q3
  have hselP : selectMethod e.platform s.vm cellB.cls mk = .method mk := by rw [Launch.admits_selectMethod X.admits]; exact q4
  obtain ⟨vm₁, X₁, hstep₁⟩ := X.invokevirtual hexec hown hlink hnamed hmethM hstM hkP hkPi hy (a := b) (cell := cellB) hcell
    (fun z h => by rw [h] at hobj; cases hobj) hselP hmethM habM hkP hkPi (g := g) hg (argsL := argsL) (rest := rest) (hlen _ hsigM) hstack hdg
  obtain ⟨v, B, X', hpost, hsteps⟩ := hK m meth c ⟨T.setVm vm₁, locs, cells, slots⟩ { g with stack := rest } (.invokevirtual index) mk (Value.ref b :: argsL).toArray X₁ hg hsize hdg hW (X₁.named hnamed) (hpre vm₁ X₁.warmed)
  exact ⟨v, vm₁, B, X₁.warmed, X', hpost, fun target h => hstep₁ _ fun acts => by rw [doInvoke_state]; exact hsteps.trans h⟩
abbrev vx_CVW (R : Room) (s : State) (args : Array Value) (own C : String) (index : Nat) (y : MethodName) (bytes : ByteArray) (maxL : Nat) (ret : Option FieldType) (hh : List (Nat × Nat × Nat × Nat)) (ws : List Cond) (rm : Room) (mc ms n : Nat) : Prop :=
  (rm.cells = mc ∧ rm.slots = ms ∧ rm.frames + 1 ≤ R.frames ∧ 8 + (maxL + 11) + rm.locals ≤ R.locals ∧ (∀ w ∈ ws, ∀ (a' : Array Value) (U : State), s.WarmedH U.vm → w.before a' U = true) ∧ Cond.codeWith y bytes maxL ret hh ∈ ws) ∧
  (Cond.codeWith y bytes maxL ret hh).before args s = true ∧ (Cond.initialized y.cls).before args s = true ∧ (y.cls ≠ "java/lang/invoke/MethodHandle" ∧ y.cls ≠ "java/lang/invoke/VarHandle") ∧
  (∀ sig, parseMethodDescriptor y.desc = some sig → n = sig.parameters.length) ∧ (Cond.methodLink own index y).before args s = true ∧ (Cond.instanceMethod y).before args s = true ∧ (Cond.selects C y y).before args s = true
theorem vx_cwVW {own C : String} {index maxL mc ms : Nat} {y : MethodName} {bytes : ByteArray} {ret : Option FieldType} {hh : List (Nat × Nat × Nat × Nat)} {Ts ws ws' : List Cond} {rm : Room} (n : Nat) (ht : ∀ w ∈ Ts, w.before args s = true) (hT : GoodIn Ts (wsV own index C y ws)) (hw : ws = Cond.codeWith y bytes maxL ret hh :: ws') (hrc : rm.cells = mc) (hrs : rm.slots = ms)
    (hd : y.cls = C ∧ y.cls ≠ "java/lang/invoke/MethodHandle" ∧ y.cls ≠ "java/lang/invoke/VarHandle" ∧ (parseMethodDescriptor y.desc).map (fun d => d.parameters.length) = some n) (hR : rm.frames + 1 ≤ R.frames ∧ 8 + (maxL + 11) + rm.locals ≤ R.locals) :
    vx_CVW R s args own C index y bytes maxL ret hh ws rm mc ms n := by
  obtain ⟨hC, hd⟩ := hd
  subst hC
  have ok : ∀ w ∈ wsV own index y.cls y ws, w.before args s = true := fun w h => ht w (hT w h).1
  have hG : GoodIn Ts ws := fun w h => hT w (by unfold wsV; exact List.mem_append_right _ h)
  have hc : Cond.codeWith y bytes maxL ret hh ∈ ws := by rw [hw]; exact List.mem_cons_self
  refine ⟨⟨hrc, hrs, hR.1, hR.2, pay_in ht hG, hc⟩, ht _ (hG _ hc).1, ok _ (by simp [wsV]), ⟨hd.1, hd.2.1⟩, fun sig h => ?_, ok _ (by simp [wsV]), ok _ (by simp [wsV]), ok _ (by simp [wsV])⟩
  have h2 := hd.2.2
  rw [h] at h2
  exact (Option.some.inj h2).symm
theorem vx_runVW {y : MethodName} {bytes cc : ByteArray} {maxL nL mc ms n index : Nat} {ret : Option FieldType} {hh : List (Nat × Nat × Nat × Nat)} {ws : List Cond} {rm : Room} {Pc : Array Value → State → Prop} {Qc : Array Value → State → Outcome → State → Prop} {free : Addr → Prop} {Ts : List Cond} {own C : String} {b : Addr} {As rest : List Value} {g : JFrame}
    (S : CallFix p m c cc nL s args Ts own) (hM : Met l y ws rm Pc Qc mc ms free) (cw : vx_CVW R s args own C index y bytes maxL ret hh ws rm mc ms n) (hp : PreV s H C b Pc As)
    (hg : g.method = m) (hn : As.length = n) (hsize : g.locals.size = nL) (hstack : g.stack = As.reverse ++ .ref b :: rest) (hW : 2 * g.monitorRoom + (rest.map fun v => v.category).sum ≤ 8) (hdg : decode cc g.pc = .ok (.invokevirtual index, 3)) (hf : cells + mc ≤ R.cells ∧ slots + ms ≤ R.slots) :
    va_Run p l e R s m args below meth c H locs cells slots mc ms g rest (Qc (Value.ref b :: As).toArray) free := by
  obtain ⟨⟨hrc, hrs, hfr, hlo, hws, hcw⟩, hcode, hini, hy, hlen, hl, hin, hse⟩ := cw
  have hK : Back l R p e below s args y 3 8 (PreOf R mc ms Pc) (PostOf Qc mc ms free) := va_backW (hh := hh) (bytes := bytes) (maxL := maxL) (ret := ret) hM hp.1 hrc hrs hfr hlo hws hcw (fun a' U hW => word_at hW (Or.inl (by first | rfl | simp [Cond.onTables, Cond.keeps, Cond.steady])) hini)
  obtain ⟨hx, hb, hml, ho, -⟩ := S
  obtain ⟨-, ⟨cellB, hcB, hoB, hclB⟩, hPc⟩ := hp
  intro T hT X
  obtain ⟨v, vm₁, ⟨U', l2, c2, s2⟩, hW₁, X', ⟨g', mk, t, L, e1, e2, hq, h1, hL, h2, h3⟩, st⟩ := vx_callVW X hx (C := C) (hh := hh) (bytes := bytes) (maxL := maxL) (ret := ret) ho hl hin hse hcode hy hK (by rw [hT]; exact hcB) hoB hclB hg (hsize.trans hml.symm) (argsL := As) (rest := rest) (fun sig h => hn.trans (hlen sig h)) hstack hW (by rw [hb]; exact hdg)
    (fun vm₁ hW₁ => ⟨hf.1, hf.2, hPc (T.setVm vm₁) hT hW₁⟩)
  dsimp only [Pt.U, Pt.locs, Pt.cells, Pt.slots] at X' e1 e2 h1 h2 h3 st
  subst h1; subst h2; subst h3
  exact ⟨v, (T.setVm vm₁).calling g' mk (Value.ref b :: As).toArray, t, U', L, hT, X', hL, e1, e2, hq, st⟩
section
variable {y : MethodName} {bytes cc : ByteArray} {maxL nL mc ms n index : Nat} {ret : Option FieldType} {ws : List Cond} {rm : Room} {Pc : Array Value → State → Prop} {Qc : Array Value → State → Outcome → State → Prop} {XC : String → State → State → Prop} {free : Addr → Prop} {Ts : List Cond} {own C : String} {b : Addr} {As rest : List Value} {g : JFrame}
theorem vx_runVX {hh : List (Nat × Nat × Nat × Nat)} (S : CallFix p m c cc nL s args Ts own) (hM : vx_Met l y ws rm Pc Qc XC mc ms free) (cw : vx_CVW R s args own C index y bytes maxL ret hh ws rm mc ms n) (hp : PreV s H C b Pc As)
    (hg : g.method = m) (hn : As.length = n) (hsize : g.locals.size = nL) (hstack : g.stack = As.reverse ++ .ref b :: rest) (hW : 2 * g.monitorRoom + (rest.map fun v => v.category).sum ≤ 8) (hdg : decode cc g.pc = .ok (.invokevirtual index, 3)) (hf : cells + mc ≤ R.cells ∧ slots + ms ≤ R.slots) :
    vx_Run p l e R s m args below meth c H locs cells slots mc ms g rest (Qc (Value.ref b :: As).toArray) XC free := by
  obtain ⟨⟨hrc, hrs, hfr, hlo, hws, hcw⟩, hcode, hini, hy, hlen, hl, hin, hse⟩ := cw
  have hK : vx_Back l R p e below s args y 3 8 (PreOf R mc ms Pc) (PostOf Qc mc ms free) (vx_Post XC mc ms free) := vx_backW (hh := hh) (bytes := bytes) (maxL := maxL) (ret := ret) hM hp.1 hrc hrs hfr hlo hws hcw (fun a' U hW => word_at hW (Or.inl (by first | rfl | simp [Cond.onTables, Cond.keeps, Cond.steady])) hini)
  obtain ⟨hx, hb, hml, ho, -⟩ := S
  obtain ⟨-, ⟨cellB, hcB, hoB, hclB⟩, hPc⟩ := hp
  intro T hT X
  rcases vx_callVX X hx (C := C) (hh := hh) (bytes := bytes) (maxL := maxL) (ret := ret) ho hl hin hse hcode hy hK (by rw [hT]; exact hcB) hoB hclB hg (hsize.trans hml.symm) (argsL := As) (rest := rest) (fun sig h => hn.trans (hlen sig h)) hstack hW (by rw [hb]; exact hdg)
    (fun vm₁ hW₁ => ⟨hf.1, hf.2, hPc (T.setVm vm₁) hT hW₁⟩) with ⟨v, vm₁, ⟨U', l2, c2, s2⟩, hW₁, X', ⟨g', mk, t, L, e1, e2, hq, h1, hL, h2, h3⟩, st⟩ | ⟨q, vm₁, ⟨U', l2, c2, s2⟩, hW₁, X', ⟨g', mk, t, L, E, ce, e1, e2, hq, hce, hcv, hcl, h1, hL, h2, h3⟩, st⟩
  · dsimp only [Pt.U, Pt.locs, Pt.cells, Pt.slots] at X' e1 e2 h1 h2 h3 st
    subst h1; subst h2; subst h3
    exact Or.inl ⟨v, (T.setVm vm₁).calling g' mk (Value.ref b :: As).toArray, t, U', L, hT, X', hL, e1, e2, hq, st⟩
  · dsimp only [Pt.U, Pt.locs, Pt.cells, Pt.slots] at X' e1 e2 h1 h2 h3 st hcl
    subst h1; subst h2; subst h3
    exact Or.inr ⟨q, (T.setVm vm₁).calling g' mk (Value.ref b :: As).toArray, t, U', L, E, ce, hT, X', hL, e1, e2, hq, hce, hcv, vx_cls hW₁ hcl, st⟩
theorem vx_runSX {hh : List (Nat × Nat × Nat × Nat)} (S : CallFix p m c cc nL s args Ts own) (hM : vx_Met l y ws rm Pc Qc XC mc ms free) (cw : vx_CSW R s args own index y bytes maxL ret hh ws rm mc ms n) (hp : PreS s H Pc As)
    (hg : g.method = m) (hn : As.length = n) (hsize : g.locals.size = nL) (hstack : g.stack = As.reverse ++ rest) (hW : 2 * g.monitorRoom + (rest.map fun v => v.category).sum ≤ 8) (hdg : decode cc g.pc = .ok (.invokestatic index, 3)) (hf : cells + mc ≤ R.cells ∧ slots + ms ≤ R.slots) :
    vx_Run p l e R s m args below meth c H locs cells slots mc ms g rest (Qc As.toArray) XC free := by
  obtain ⟨⟨hrc, hrs, hfr, hlo, hws, hcw⟩, hcode, hini, hy, hlen, hl, hstt⟩ := cw
  have hK : vx_Back l R p e below s args y 3 8 (PreOf R mc ms Pc) (PostOf Qc mc ms free) (vx_Post XC mc ms free) := vx_backW (hh := hh) (bytes := bytes) (maxL := maxL) (ret := ret) hM hp.1 hrc hrs hfr hlo hws hcw (fun a' U hW => word_at hW (Or.inl (by first | rfl | simp [Cond.onTables, Cond.keeps, Cond.steady])) hini)
  obtain ⟨hx, hb, hml, ho, -⟩ := S
  intro T hT X
  rcases vx_callSX X hx (hh := hh) (bytes := bytes) (maxL := maxL) (ret := ret) ho hl hstt hini hcode hy hK hg (hsize.trans hml.symm) (argsL := As) (rest := rest) (fun sig h => hn.trans (hlen sig h)) hstack hW (by rw [hb]; exact hdg)
    (fun vm₁ hW₁ => ⟨hf.1, hf.2, hp.2 (T.setVm vm₁) hT hW₁⟩) with ⟨v, vm₁, ⟨U', l2, c2, s2⟩, hW₁, X', ⟨g', mk, t, L, e1, e2, hq, h1, hL, h2, h3⟩, st⟩ | ⟨q, vm₁, ⟨U', l2, c2, s2⟩, hW₁, X', ⟨g', mk, t, L, E, ce, e1, e2, hq, hce, hcv, hcl, h1, hL, h2, h3⟩, st⟩
  · dsimp only [Pt.U, Pt.locs, Pt.cells, Pt.slots] at X' e1 e2 h1 h2 h3 st
    subst h1; subst h2; subst h3
    exact Or.inl ⟨v, (T.setVm vm₁).calling g' mk As.toArray, t, U', L, hT, X', hL, e1, e2, hq, st⟩
  · dsimp only [Pt.U, Pt.locs, Pt.cells, Pt.slots] at X' e1 e2 h1 h2 h3 st hcl
    subst h1; subst h2; subst h3
    exact Or.inr ⟨q, (T.setVm vm₁).calling g' mk As.toArray, t, U', L, E, ce, hT, X', hL, e1, e2, hq, hce, hcv, vx_cls hW₁ hcl, st⟩
end
end VXH
theorem vx_ofWH {l : Launch} {y : MethodName} {ws ws' : List Cond} {rm : Room} {Pc : Array Value → State → Prop} {Qc : Array Value → State → Outcome → State → Prop} {XC : String → State → State → Prop} {mc ms : Nat} {free : Addr → Prop} {cc : ByteArray} {maxL : Nat} {ret : Option FieldType} {hh : List (Nat × Nat × Nat × Nat)}
    (hy : plainName y.cls = true) (hw : ws = Cond.codeWith y cc maxL ret hh :: ws')
    (body : ∀ p e s m args below meth c s₁, BodyLoose p l y (headSpec ws rm) cc maxL ret e s m args below meth c s₁ → c.maxLocals = maxL → Pc args s →
      W p l e (headSpec ws rm).room s m args below meth c s.heap [] 0 0 (vx_MQ below Qc XC args s mc ms free) (entryFrame m args maxL)) : vx_Met l y ws rm Pc Qc XC mc ms free := by
  refine MetFree.of_bodyS (code := cc) (maxLocals := maxL) (ret := ret) hy ?_ ?_
  · intro args s m h hn
    obtain ⟨m9, meth, c, hn9, h1, h2, h3, h4, -, h5, h6, -⟩ := Cond.codeWith_spec (atoms_spec (ws := ws) h _ (by rw [hw]; exact List.mem_cons_self))
    cases hn.symm.trans hn9
    exact ⟨meth, c, h1, h2, h3, h4, h5, h6⟩
  · intro p e s m args below meth c s₁ B hml hP _
    have hh0 : s₁.heap = s.heap := by rw [B.state]; rfl
    obtain ⟨t, a1, o, b1, b2, b3⟩ := body p e s m args below meth c s₁ B hml hP s₁ hh0 (Stand.of_body B)
    exact ⟨t, o, a1, b1, b2, b3⟩
/-! ===== END ===== -/
end
section
/-! ===== BEGIN printed: names, fields, word lists, decode rows ===== -/
def RX0 : String := "FerryRights"
def TX0 : u_T := fun k => match k with
  | 0 => ("FerryRights", "ferryCount", "I", false)
  | 1 => ("FerryRights", "tolls", "[I", true)
  | 2 => ("FerryRights", "passengersCarried", "[I", true)
  | 3 => ("FerryRights", "sharesOwned", "[I", true)
  | 4 => ("FerryRights", "personCount", "I", false)
  | 5 => ("FerryRights", "alive", "[Z", true)
  | 6 => ("FerryRights", "purses", "[I", true)
  | 7 => ("FerryRights", "fares", "[I", true)
  | 8 => ("FerryRights", "parents", "[I", true)
  | _ => ("FerryRights", "crownPurse", "I", false)
def tyX0 : Nat → FieldType := fun k => match k with
  | 0 => .int
  | 1 => .array .int
  | 2 => .array .int
  | 3 => .array .int
  | 4 => .int
  | 5 => .array .boolean
  | 6 => .array .int
  | 7 => .array .int
  | 8 => .array .int
  | _ => .int
abbrev wsX00 : List Cond := u_ws RX0 TX0 10
theorem nmX0 : ∀ a, a < 10 → ∀ b, b < 10 → a ≠ b → (TX0 a).2.1 ≠ (TX0 b).2.1 := by decide +kernel
theorem tyX0_ok : ∀ k, k < 10 → parseFieldDescriptor (TX0 k).2.2.1 = some (tyX0 k) := by decide +kernel
abbrev cX0_init : ByteArray := prog_1_method_1_code
def yX0_init : MethodName := ⟨RX0, "<init>", "()V"⟩
abbrev cX0_addFerry : ByteArray := prog_1_method_2_code
def yX0_addFerry : MethodName := ⟨RX0, "addFerry", "(I)I"⟩
abbrev cX0_addPerson : ByteArray := prog_1_method_3_code
def yX0_addPerson : MethodName := ⟨RX0, "addPerson", "()I"⟩
abbrev cX0_addChild : ByteArray := prog_1_method_4_code
def yX0_addChild : MethodName := ⟨RX0, "addChild", "(I)I"⟩
abbrev cX0_pay : ByteArray := prog_1_method_5_code
def yX0_pay : MethodName := ⟨RX0, "pay", "(II)I"⟩
abbrev cX0_grant : ByteArray := prog_1_method_6_code
def yX0_grant : MethodName := ⟨RX0, "grant", "(IIII)I"⟩
abbrev cX0_give : ByteArray := prog_1_method_7_code
def yX0_give : MethodName := ⟨RX0, "give", "(IIIII)I"⟩
abbrev cX0_buy : ByteArray := prog_1_method_8_code
def yX0_buy : MethodName := ⟨RX0, "buy", "(IIII)I"⟩
abbrev cX0_setToll : ByteArray := prog_1_method_9_code
def yX0_setToll : MethodName := ⟨RX0, "setToll", "(III)I"⟩
abbrev cX0_carry : ByteArray := prog_1_method_10_code
def yX0_carry : MethodName := ⟨RX0, "carry", "(III)I"⟩
abbrev cX0_die : ByteArray := prog_1_method_11_code
def yX0_die : MethodName := ⟨RX0, "die", "(I)I"⟩
abbrev cX0_ferries : ByteArray := prog_1_method_12_code
def yX0_ferries : MethodName := ⟨RX0, "ferries", "()I"⟩
abbrev cX0_toll : ByteArray := prog_1_method_13_code
def yX0_toll : MethodName := ⟨RX0, "toll", "(I)I"⟩
abbrev cX0_carried : ByteArray := prog_1_method_14_code
def yX0_carried : MethodName := ⟨RX0, "carried", "(I)I"⟩
abbrev cX0_shares : ByteArray := prog_1_method_15_code
def yX0_shares : MethodName := ⟨RX0, "shares", "(III)I"⟩
abbrev cX0_crownShares : ByteArray := prog_1_method_16_code
def yX0_crownShares : MethodName := ⟨RX0, "crownShares", "(II)I"⟩
abbrev cX0_owners : ByteArray := prog_1_method_17_code
def yX0_owners : MethodName := ⟨RX0, "owners", "(II)I"⟩
abbrev cX0_holder : ByteArray := prog_1_method_18_code
def yX0_holder : MethodName := ⟨RX0, "holder", "(II)I"⟩
abbrev cX0_master : ByteArray := prog_1_method_19_code
def yX0_master : MethodName := ⟨RX0, "master", "(I)I"⟩
abbrev cX0_hasMaster : ByteArray := prog_1_method_20_code
def yX0_hasMaster : MethodName := ⟨RX0, "hasMaster", "(I)Z"⟩
abbrev cX0_shareValue : ByteArray := prog_1_method_21_code
def yX0_shareValue : MethodName := ⟨RX0, "shareValue", "(II)I"⟩
abbrev cX0_people : ByteArray := prog_1_method_23_code
def yX0_people : MethodName := ⟨RX0, "people", "()I"⟩
abbrev cX0_living : ByteArray := prog_1_method_24_code
def yX0_living : MethodName := ⟨RX0, "living", "()I"⟩
abbrev cX0_isAlive : ByteArray := prog_1_method_25_code
def yX0_isAlive : MethodName := ⟨RX0, "isAlive", "(I)Z"⟩
abbrev cX0_coins : ByteArray := prog_1_method_26_code
def yX0_coins : MethodName := ⟨RX0, "coins", "(I)I"⟩
abbrev cX0_earned : ByteArray := prog_1_method_27_code
def yX0_earned : MethodName := ⟨RX0, "earned", "(I)I"⟩
abbrev cX0_allShares : ByteArray := prog_1_method_28_code
def yX0_allShares : MethodName := ⟨RX0, "allShares", "(I)I"⟩
abbrev cX0_hasParent : ByteArray := prog_1_method_29_code
def yX0_hasParent : MethodName := ⟨RX0, "hasParent", "(I)Z"⟩
abbrev cX0_parent : ByteArray := prog_1_method_30_code
def yX0_parent : MethodName := ⟨RX0, "parent", "(I)I"⟩
abbrev cX0_children : ByteArray := prog_1_method_31_code
def yX0_children : MethodName := ⟨RX0, "children", "(I)I"⟩
abbrev cX0_heirs : ByteArray := prog_1_method_32_code
def yX0_heirs : MethodName := ⟨RX0, "heirs", "(I)I"⟩
abbrev cX0_heir : ByteArray := prog_1_method_33_code
def yX0_heir : MethodName := ⟨RX0, "heir", "(II)I"⟩
abbrev cX0_crownCoins : ByteArray := prog_1_method_34_code
def yX0_crownCoins : MethodName := ⟨RX0, "crownCoins", "()I"⟩
abbrev cX0_price : ByteArray := prog_1_method_35_code
def yX0_price : MethodName := ⟨RX0, "price", "(III)I"⟩
abbrev cX0_canBuy : ByteArray := prog_1_method_36_code
def yX0_canBuy : MethodName := ⟨RX0, "canBuy", "(IIII)Z"⟩
abbrev cX0_inheritance : ByteArray := prog_1_method_37_code
def yX0_inheritance : MethodName := ⟨RX0, "inheritance", "(IIII)I"⟩
abbrev cX0_fare : ByteArray := prog_1_method_38_code
def yX0_fare : MethodName := ⟨RX0, "fare", "(IIII)I"⟩
abbrev cX0_richest : ByteArray := prog_1_method_39_code
def yX0_richest : MethodName := ⟨RX0, "richest", "()I"⟩
abbrev cX0_meanCoins : ByteArray := prog_1_method_40_code
def yX0_meanCoins : MethodName := ⟨RX0, "meanCoins", "()D"⟩
abbrev cX0_digest : ByteArray := prog_1_method_41_code
def yX0_digest : MethodName := ⟨RX0, "digest", "()J"⟩
abbrev cX0_needFerry : ByteArray := prog_1_method_42_code
def yX0_needFerry : MethodName := ⟨RX0, "needFerry", "(I)V"⟩
abbrev cX0_needWatch : ByteArray := prog_1_method_43_code
def yX0_needWatch : MethodName := ⟨RX0, "needWatch", "(I)V"⟩
abbrev cX0_needHour : ByteArray := prog_1_method_44_code
def yX0_needHour : MethodName := ⟨RX0, "needHour", "(I)V"⟩
abbrev cX0_needPerson : ByteArray := prog_1_method_45_code
def yX0_needPerson : MethodName := ⟨RX0, "needPerson", "(I)V"⟩
abbrev cX0_needSale : ByteArray := prog_1_method_46_code
def yX0_needSale : MethodName := ⟨RX0, "needSale", "(IIII)V"⟩
abbrev cX0_needToll : ByteArray := prog_1_method_47_code
def yX0_needToll : MethodName := ⟨RX0, "needToll", "(I)V"⟩
abbrev cX0_needShares : ByteArray := prog_1_method_48_code
def yX0_needShares : MethodName := ⟨RX0, "needShares", "(I)V"⟩
abbrev cX0_needPassengers : ByteArray := prog_1_method_49_code
def yX0_needPassengers : MethodName := ⟨RX0, "needPassengers", "(I)V"⟩
abbrev cX0_needAlive : ByteArray := prog_1_method_50_code
def yX0_needAlive : MethodName := ⟨RX0, "needAlive", "(I)V"⟩
abbrev cX0_needRoomForPerson : ByteArray := prog_1_method_51_code
def yX0_needRoomForPerson : MethodName := ⟨RX0, "needRoomForPerson", "()V"⟩
abbrev cX0_settle : ByteArray := prog_1_method_52_code
def yX0_settle : MethodName := ⟨RX0, "settle", "(I)I"⟩
abbrev cX0_addCoins : ByteArray := prog_1_method_53_code
def yX0_addCoins : MethodName := ⟨RX0, "addCoins", "(II)V"⟩
abbrev cX0_countChildren : ByteArray := prog_1_method_54_code
def yX0_countChildren : MethodName := ⟨RX0, "countChildren", "(I)I"⟩
abbrev cX0_slot : ByteArray := prog_1_method_55_code
def yX0_slot : MethodName := ⟨RX0, "slot", "(III)I"⟩
abbrev cX0_owns : ByteArray := prog_1_method_56_code
def yX0_owns : MethodName := ⟨RX0, "owns", "(III)I"⟩
abbrev cX0_addShares : ByteArray := prog_1_method_57_code
def yX0_addShares : MethodName := ⟨RX0, "addShares", "(IIII)V"⟩
abbrev cX0_crownOwns : ByteArray := prog_1_method_58_code
def yX0_crownOwns : MethodName := ⟨RX0, "crownOwns", "(II)I"⟩
abbrev cX0_countSharesOfFerry : ByteArray := prog_1_method_59_code
def yX0_countSharesOfFerry : MethodName := ⟨RX0, "countSharesOfFerry", "(II)I"⟩
abbrev cX0_countAllShares : ByteArray := prog_1_method_60_code
def yX0_countAllShares : MethodName := ⟨RX0, "countAllShares", "(I)I"⟩
abbrev cX0_findMaster : ByteArray := prog_1_method_61_code
def yX0_findMaster : MethodName := ⟨RX0, "findMaster", "(I)I"⟩
abbrev cX0_worth : ByteArray := prog_1_method_62_code
def yX0_worth : MethodName := ⟨RX0, "worth", "(II)I"⟩
abbrev cX0_priceOf : ByteArray := prog_1_method_63_code
def yX0_priceOf : MethodName := ⟨RX0, "priceOf", "(III)I"⟩
abbrev cX0_mayBuy : ByteArray := prog_1_method_64_code
def yX0_mayBuy : MethodName := ⟨RX0, "mayBuy", "(IIII)Z"⟩
abbrev cX0_otherOwnerHas : ByteArray := prog_1_method_65_code
def yX0_otherOwnerHas : MethodName := ⟨RX0, "otherOwnerHas", "(IIII)Z"⟩
abbrev cX0_fareOf : ByteArray := prog_1_method_66_code
def yX0_fareOf : MethodName := ⟨RX0, "fareOf", "(IIII)I"⟩
abbrev cX0_hasLivingChild : ByteArray := prog_1_method_67_code
def yX0_hasLivingChild : MethodName := ⟨RX0, "hasLivingChild", "(I)Z"⟩
abbrev cX0_isHeir : ByteArray := prog_1_method_68_code
def yX0_isHeir : MethodName := ⟨RX0, "isHeir", "(II)Z"⟩
abbrev cX0_countHeirs : ByteArray := prog_1_method_69_code
def yX0_countHeirs : MethodName := ⟨RX0, "countHeirs", "(I)I"⟩
abbrev cX0_countHeirsBelow : ByteArray := prog_1_method_70_code
def yX0_countHeirsBelow : MethodName := ⟨RX0, "countHeirsBelow", "(II)I"⟩
abbrev cX0_findHeir : ByteArray := prog_1_method_71_code
def yX0_findHeir : MethodName := ⟨RX0, "findHeir", "(II)I"⟩
abbrev cX0_partOf : ByteArray := prog_1_method_72_code
def yX0_partOf : MethodName := ⟨RX0, "partOf", "(III)I"⟩
abbrev cX0_hand : ByteArray := prog_1_method_73_code
def yX0_hand : MethodName := ⟨RX0, "hand", "(IIII)V"⟩
abbrev cX0_bury : ByteArray := prog_1_method_74_code
def yX0_bury : MethodName := ⟨RX0, "bury", "(I)V"⟩
abbrev cX0_mix : ByteArray := prog_1_method_75_code
def yX0_mix : MethodName := ⟨RX0, "mix", "(JJ)J"⟩
abbrev cX0_mixFerry : ByteArray := prog_1_method_76_code
def yX0_mixFerry : MethodName := ⟨RX0, "mixFerry", "(JI)J"⟩
abbrev cX0_mixPerson : ByteArray := prog_1_method_77_code
def yX0_mixPerson : MethodName := ⟨RX0, "mixPerson", "(JI)J"⟩
def RX1 : String := "FerryRightsLaw$Sim"
def TX1 : u_T := fun k => match k with
  | 0 => ("FerryRightsLaw$Sim", "tolls", "[I", false)
  | 1 => ("FerryRightsLaw$Sim", "carried", "[I", false)
  | 2 => ("FerryRightsLaw$Sim", "shares", "[[[I", false)
  | 3 => ("FerryRightsLaw$Sim", "people", "[[I", false)
  | _ => ("FerryRightsLaw$Sim", "crownCoins", "I", false)
def tyX1 : Nat → FieldType := fun k => match k with
  | 0 => .array .int
  | 1 => .array .int
  | 2 => .array (.array (.array .int))
  | 3 => .array (.array .int)
  | _ => .int
abbrev wsX10 : List Cond := u_ws RX1 TX1 5
theorem nmX1 : ∀ a, a < 5 → ∀ b, b < 5 → a ≠ b → (TX1 a).2.1 ≠ (TX1 b).2.1 := by decide +kernel
theorem tyX1_ok : ∀ k, k < 5 → parseFieldDescriptor (TX1 k).2.2.1 = some (tyX1 k) := by decide +kernel
abbrev cX1_init : ByteArray := prog_3_method_1_code
def yX1_init : MethodName := ⟨RX1, "<init>", "()V"⟩
abbrev cX1_more : ByteArray := prog_3_method_2_code
def yX1_more : MethodName := ⟨RX1, "more", "([II)[I"⟩
abbrev cX1_addFerry : ByteArray := prog_3_method_3_code
def yX1_addFerry : MethodName := ⟨RX1, "addFerry", "(I)V"⟩
abbrev cX1_addPerson : ByteArray := prog_3_method_4_code
def yX1_addPerson : MethodName := ⟨RX1, "addPerson", "(I)V"⟩
abbrev cX1_has : ByteArray := prog_3_method_5_code
def yX1_has : MethodName := ⟨RX1, "has", "(III)I"⟩
abbrev cX1_hand : ByteArray := prog_3_method_6_code
def yX1_hand : MethodName := ⟨RX1, "hand", "(IIIII)V"⟩
abbrev cX1_value : ByteArray := prog_3_method_7_code
def yX1_value : MethodName := ⟨RX1, "value", "(II)I"⟩
abbrev cX1_get : ByteArray := prog_3_method_8_code
def yX1_get : MethodName := ⟨RX1, "get", "(II)V"⟩
abbrev cX1_canBuy : ByteArray := prog_3_method_9_code
def yX1_canBuy : MethodName := ⟨RX1, "canBuy", "(IIII)Z"⟩
abbrev cX1_of : ByteArray := prog_3_method_10_code
def yX1_of : MethodName := ⟨RX1, "of", "(II)I"⟩
abbrev cX1_master : ByteArray := prog_3_method_11_code
def yX1_master : MethodName := ⟨RX1, "master", "(I)I"⟩
abbrev cX1_living : ByteArray := prog_3_method_12_code
def yX1_living : MethodName := ⟨RX1, "living", "(II)[I"⟩
abbrev cX1_heirs : ByteArray := prog_3_method_13_code
def yX1_heirs : MethodName := ⟨RX1, "heirs", "(I)[I"⟩
abbrev cX1_parts : ByteArray := prog_3_method_14_code
def yX1_parts : MethodName := ⟨RX1, "parts", "(II)[I"⟩
abbrev cX1_die : ByteArray := prog_3_method_15_code
def yX1_die : MethodName := ⟨RX1, "die", "(I)V"⟩
abbrev cX1_carry : ByteArray := prog_3_method_16_code
def yX1_carry : MethodName := ⟨RX1, "carry", "(III)I"⟩
abbrev cX1_isSame : ByteArray := prog_3_method_17_code
def yX1_isSame : MethodName := ⟨RX1, "isSame", "(LFerryRights;)Z"⟩
def RX2 : String := "FerryRightsModel"
def TX2 : u_T := fun k => match k with
  | _ => ("", "", "", false)
def tyX2 : Nat → FieldType := fun k => match k with
  | _ => .int
abbrev wsX20 : List Cond := u_ws RX2 TX2 0
theorem nmX2 : ∀ a, a < 0 → ∀ b, b < 0 → a ≠ b → (TX2 a).2.1 ≠ (TX2 b).2.1 := by decide +kernel
theorem tyX2_ok : ∀ k, k < 0 → parseFieldDescriptor (TX2 k).2.2.1 = some (tyX2 k) := by decide +kernel
def RJ9 : String := "java/lang/Math"
def TJ9 : u_T := fun k => match k with
  | _ => ("", "", "", false)
def tyJ9 : Nat → FieldType := fun k => match k with
  | _ => .int
abbrev wsJ90 : List Cond := u_ws RJ9 TJ9 0
theorem nmJ9 : ∀ a, a < 0 → ∀ b, b < 0 → a ≠ b → (TJ9 a).2.1 ≠ (TJ9 b).2.1 := by decide +kernel
theorem tyJ9_ok : ∀ k, k < 0 → parseFieldDescriptor (TJ9 k).2.2.1 = some (tyJ9 k) := by decide +kernel
abbrev cJ9_max_7cf53 : ByteArray := prog_9_method_65_code
def yJ9_max_7cf53 : MethodName := ⟨RJ9, "max", "(II)I"⟩
abbrev cJ9_min_7cf53 : ByteArray := prog_9_method_69_code
def yJ9_min_7cf53 : MethodName := ⟨RJ9, "min", "(II)I"⟩
def RJ0 : String := "java/lang/String"
def TJ0 : u_T := fun k => match k with
  | _ => ("", "", "", false)
def tyJ0 : Nat → FieldType := fun k => match k with
  | _ => .int
abbrev wsJ00 : List Cond := u_ws RJ0 TJ0 0
theorem nmJ0 : ∀ a, a < 0 → ∀ b, b < 0 → a ≠ b → (TJ0 a).2.1 ≠ (TJ0 b).2.1 := by decide +kernel
theorem tyJ0_ok : ∀ k, k < 0 → parseFieldDescriptor (TJ0 k).2.2.1 = some (tyJ0 k) := by decide +kernel
def RL : String := "FerryRightsLaw"
abbrev cL_below : ByteArray := method_2_code
def yL_below : MethodName := ⟨RL, "below", "(II)I"⟩
abbrev cL_cell : ByteArray := method_3_code
def yL_cell : MethodName := ⟨RL, "cell", "([II)I"⟩
abbrev cL_act : ByteArray := method_4_code
def yL_act : MethodName := ⟨RL, "act", "(LFerryRights;LFerryRightsLaw$Sim;I)Z"⟩
abbrev cL_build : ByteArray := method_5_code
def yL_build : MethodName := ⟨RL, "build", "(LFerryRights;[I)LFerryRightsLaw$Sim;"⟩
abbrev cL_law : ByteArray := code
def yL_law : MethodName := ⟨RL, "law", "([I)Z"⟩
def wsX0_init : List Cond := .code yX0_init cX0_init 1 none :: ([.methodLink RX0 3 objectInit, .instanceMethod objectInit, .code objectInit ⟨#[0xb1]⟩ 1 none, .fieldLink RX0 9 "FerryRights" "ferryCount" "I", .arrayClass .int, .fieldLink RX0 13 "FerryRights" "tolls" "[I", .fieldLink RX0 17 "FerryRights" "passengersCarried" "[I", .fieldLink RX0 20 "FerryRights" "sharesOwned" "[I", .fieldLink RX0 23 "FerryRights" "personCount" "I", .arrayClass .boolean, .fieldLink RX0 26 "FerryRights" "alive" "[Z", .fieldLink RX0 30 "FerryRights" "purses" "[I", .fieldLink RX0 33 "FerryRights" "fares" "[I", .fieldLink RX0 36 "FerryRights" "parents" "[I", .fieldLink RX0 39 "FerryRights" "crownPurse" "I"] ++ wsX00)
def wsX0_needToll : List Cond := .code yX0_needToll cX0_needToll 1 none :: ([.classLink RX0 66 "java/lang/IllegalArgumentException", .initialized "java/lang/IllegalArgumentException"] ++ (vx_atS RX0 70 "java/lang/IllegalArgumentException" ["java/lang/RuntimeException", "java/lang/Exception"]).filter goodWord)
def wsX0_addFerry : List Cond := .code yX0_addFerry cX0_addFerry 3 (some .int) :: ([.classLink RX0 46 "java/lang/IllegalStateException", .initialized "java/lang/IllegalStateException", .fieldLink RX0 9 "FerryRights" "ferryCount" "I", .fieldLink RX0 13 "FerryRights" "tolls" "[I", .methodLink RX0 42 yX0_needToll, .static yX0_needToll, .initialized RX0, .code yX0_needToll cX0_needToll 1 none, .classLink RX0 66 "java/lang/IllegalArgumentException", .initialized "java/lang/IllegalArgumentException"] ++ wsX00 ++ (vx_atS RX0 50 "java/lang/IllegalStateException" ["java/lang/RuntimeException", "java/lang/Exception"]).filter goodWord ++ (vx_atS RX0 70 "java/lang/IllegalArgumentException" ["java/lang/RuntimeException", "java/lang/Exception"]).filter goodWord)
def wsX0_needRoomForPerson : List Cond := .code yX0_needRoomForPerson cX0_needRoomForPerson 1 none :: ([.classLink RX0 46 "java/lang/IllegalStateException", .initialized "java/lang/IllegalStateException", .fieldLink RX0 23 "FerryRights" "personCount" "I"] ++ wsX00 ++ (vx_atS RX0 50 "java/lang/IllegalStateException" ["java/lang/RuntimeException", "java/lang/Exception"]).filter goodWord)
def wsX0_settle : List Cond := .code yX0_settle cX0_settle 3 (some .int) :: ([.fieldLink RX0 23 "FerryRights" "personCount" "I", .fieldLink RX0 26 "FerryRights" "alive" "[Z", .fieldLink RX0 36 "FerryRights" "parents" "[I"] ++ wsX00)
def wsX0_addPerson : List Cond := .code yX0_addPerson cX0_addPerson 1 (some .int) :: ([.methodLink RX0 53 yX0_needRoomForPerson, .instanceMethod yX0_needRoomForPerson, .selects RX0 yX0_needRoomForPerson yX0_needRoomForPerson, .initialized RX0, .code yX0_needRoomForPerson cX0_needRoomForPerson 1 none, .classLink RX0 46 "java/lang/IllegalStateException", .initialized "java/lang/IllegalStateException", .fieldLink RX0 23 "FerryRights" "personCount" "I", .methodLink RX0 56 yX0_settle, .instanceMethod yX0_settle, .selects RX0 yX0_settle yX0_settle, .code yX0_settle cX0_settle 3 (some .int), .fieldLink RX0 26 "FerryRights" "alive" "[Z", .fieldLink RX0 36 "FerryRights" "parents" "[I"] ++ wsX00 ++ (vx_atS RX0 50 "java/lang/IllegalStateException" ["java/lang/RuntimeException", "java/lang/Exception"]).filter goodWord)
def wsX0_needPerson : List Cond := .code yX0_needPerson cX0_needPerson 2 none :: ([.classLink RX0 160 "java/lang/IndexOutOfBoundsException", .initialized "java/lang/IndexOutOfBoundsException", .fieldLink RX0 23 "FerryRights" "personCount" "I"] ++ wsX00 ++ (vx_atS RX0 164 "java/lang/IndexOutOfBoundsException" ["java/lang/RuntimeException", "java/lang/Exception"]).filter goodWord)
def wsX0_needAlive : List Cond := .code yX0_needAlive cX0_needAlive 2 none :: ([.classLink RX0 46 "java/lang/IllegalStateException", .initialized "java/lang/IllegalStateException", .fieldLink RX0 26 "FerryRights" "alive" "[Z"] ++ wsX00 ++ (vx_atS RX0 50 "java/lang/IllegalStateException" ["java/lang/RuntimeException", "java/lang/Exception"]).filter goodWord)
def wsX0_addChild : List Cond := .code yX0_addChild cX0_addChild 2 (some .int) :: ([.methodLink RX0 60 yX0_needPerson, .instanceMethod yX0_needPerson, .selects RX0 yX0_needPerson yX0_needPerson, .initialized RX0, .code yX0_needPerson cX0_needPerson 2 none, .classLink RX0 160 "java/lang/IndexOutOfBoundsException", .initialized "java/lang/IndexOutOfBoundsException", .fieldLink RX0 23 "FerryRights" "personCount" "I", .methodLink RX0 63 yX0_needAlive, .instanceMethod yX0_needAlive, .selects RX0 yX0_needAlive yX0_needAlive, .code yX0_needAlive cX0_needAlive 2 none, .classLink RX0 46 "java/lang/IllegalStateException", .initialized "java/lang/IllegalStateException", .fieldLink RX0 26 "FerryRights" "alive" "[Z", .methodLink RX0 53 yX0_needRoomForPerson, .instanceMethod yX0_needRoomForPerson, .selects RX0 yX0_needRoomForPerson yX0_needRoomForPerson, .code yX0_needRoomForPerson cX0_needRoomForPerson 1 none, .methodLink RX0 56 yX0_settle, .instanceMethod yX0_settle, .selects RX0 yX0_settle yX0_settle, .code yX0_settle cX0_settle 3 (some .int), .fieldLink RX0 36 "FerryRights" "parents" "[I"] ++ wsX00 ++ (vx_atS RX0 164 "java/lang/IndexOutOfBoundsException" ["java/lang/RuntimeException", "java/lang/Exception"]).filter goodWord ++ (vx_atS RX0 50 "java/lang/IllegalStateException" ["java/lang/RuntimeException", "java/lang/Exception"]).filter goodWord)
def wsX0_addCoins : List Cond := .code yX0_addCoins cX0_addCoins 3 none :: ([.fieldLink RX0 30 "FerryRights" "purses" "[I", .methodLink RX0 208 Lib.Math.min.name, .static Lib.Math.min.name, .initialized "java/lang/Math", .code Lib.Math.min.name Lib.Math.min.code 2 (some .int)] ++ wsX00)
def wsX0_pay_r1 : List Cond := [Cond.classLink RX0 66 "java/lang/IllegalArgumentException", Cond.initialized "java/lang/IllegalArgumentException", Cond.fieldLink RX0 30 "FerryRights" "purses" "[I", Cond.methodLink RX0 60 yX0_needPerson, Cond.instanceMethod yX0_needPerson, Cond.selects RX0 yX0_needPerson yX0_needPerson, Cond.initialized RX0, Cond.code yX0_needPerson cX0_needPerson 2 none, Cond.classLink RX0 160 "java/lang/IndexOutOfBoundsException", Cond.initialized "java/lang/IndexOutOfBoundsException", Cond.fieldLink RX0 23 "FerryRights" "personCount" "I", Cond.methodLink RX0 63 yX0_needAlive, Cond.instanceMethod yX0_needAlive, Cond.selects RX0 yX0_needAlive yX0_needAlive, Cond.code yX0_needAlive cX0_needAlive 2 none, Cond.classLink RX0 46 "java/lang/IllegalStateException", Cond.initialized "java/lang/IllegalStateException", Cond.fieldLink RX0 26 "FerryRights" "alive" "[Z", Cond.methodLink RX0 71 yX0_addCoins, Cond.instanceMethod yX0_addCoins, Cond.selects RX0 yX0_addCoins yX0_addCoins, Cond.code yX0_addCoins cX0_addCoins 3 none, Cond.methodLink RX0 208 Lib.Math.min.name, Cond.static Lib.Math.min.name]
def wsX0_pay_r2 : List Cond := [Cond.initialized "java/lang/Math", Cond.code Lib.Math.min.name Lib.Math.min.code 2 (some .int)]
def wsX0_pay : List Cond := .code yX0_pay cX0_pay 3 (some .int) :: ((wsX0_pay_r1 ++ wsX0_pay_r2) ++ wsX00 ++ (vx_atS RX0 70 "java/lang/IllegalArgumentException" ["java/lang/RuntimeException", "java/lang/Exception"]).filter goodWord ++ (vx_atS RX0 164 "java/lang/IndexOutOfBoundsException" ["java/lang/RuntimeException", "java/lang/Exception"]).filter goodWord ++ (vx_atS RX0 50 "java/lang/IllegalStateException" ["java/lang/RuntimeException", "java/lang/Exception"]).filter goodWord)
def wsX0_needFerry : List Cond := .code yX0_needFerry cX0_needFerry 2 none :: ([.classLink RX0 160 "java/lang/IndexOutOfBoundsException", .initialized "java/lang/IndexOutOfBoundsException", .fieldLink RX0 9 "FerryRights" "ferryCount" "I"] ++ wsX00 ++ (vx_atS RX0 164 "java/lang/IndexOutOfBoundsException" ["java/lang/RuntimeException", "java/lang/Exception"]).filter goodWord)
def wsX0_needWatch : List Cond := .code yX0_needWatch cX0_needWatch 1 none :: ([.classLink RX0 160 "java/lang/IndexOutOfBoundsException", .initialized "java/lang/IndexOutOfBoundsException"] ++ (vx_atS RX0 164 "java/lang/IndexOutOfBoundsException" ["java/lang/RuntimeException", "java/lang/Exception"]).filter goodWord)
def wsX0_needShares : List Cond := .code yX0_needShares cX0_needShares 1 none :: ([.classLink RX0 66 "java/lang/IllegalArgumentException", .initialized "java/lang/IllegalArgumentException"] ++ (vx_atS RX0 70 "java/lang/IllegalArgumentException" ["java/lang/RuntimeException", "java/lang/Exception"]).filter goodWord)
def wsX0_slot : List Cond := .code yX0_slot cX0_slot 3 (some .int) :: ([])
def wsX0_owns : List Cond := .code yX0_owns cX0_owns 4 (some .int) :: ([.fieldLink RX0 20 "FerryRights" "sharesOwned" "[I", .methodLink RX0 213 yX0_slot, .static yX0_slot, .initialized RX0, .code yX0_slot cX0_slot 3 (some .int)] ++ wsX00)
def wsX0_crownOwns : List Cond := .code yX0_crownOwns cX0_crownOwns 5 (some .int) :: ([.fieldLink RX0 23 "FerryRights" "personCount" "I", .methodLink RX0 96 yX0_owns, .instanceMethod yX0_owns, .selects RX0 yX0_owns yX0_owns, .initialized RX0, .code yX0_owns cX0_owns 4 (some .int), .fieldLink RX0 20 "FerryRights" "sharesOwned" "[I", .methodLink RX0 213 yX0_slot, .static yX0_slot, .code yX0_slot cX0_slot 3 (some .int)] ++ wsX00)
def wsX0_addShares : List Cond := .code yX0_addShares cX0_addShares 5 none :: ([.fieldLink RX0 20 "FerryRights" "sharesOwned" "[I", .methodLink RX0 213 yX0_slot, .static yX0_slot, .initialized RX0, .code yX0_slot cX0_slot 3 (some .int)] ++ wsX00)
def wsX0_grant_r1 : List Cond := [Cond.classLink RX0 46 "java/lang/IllegalStateException", Cond.initialized "java/lang/IllegalStateException", Cond.methodLink RX0 75 yX0_needFerry, Cond.instanceMethod yX0_needFerry, Cond.selects RX0 yX0_needFerry yX0_needFerry, Cond.initialized RX0, Cond.code yX0_needFerry cX0_needFerry 2 none, Cond.classLink RX0 160 "java/lang/IndexOutOfBoundsException", Cond.initialized "java/lang/IndexOutOfBoundsException", Cond.fieldLink RX0 9 "FerryRights" "ferryCount" "I", Cond.methodLink RX0 78 yX0_needWatch, Cond.static yX0_needWatch, Cond.code yX0_needWatch cX0_needWatch 1 none, Cond.methodLink RX0 60 yX0_needPerson, Cond.instanceMethod yX0_needPerson, Cond.selects RX0 yX0_needPerson yX0_needPerson, Cond.code yX0_needPerson cX0_needPerson 2 none, Cond.fieldLink RX0 23 "FerryRights" "personCount" "I", Cond.methodLink RX0 81 yX0_needShares, Cond.static yX0_needShares, Cond.code yX0_needShares cX0_needShares 1 none, Cond.classLink RX0 66 "java/lang/IllegalArgumentException", Cond.initialized "java/lang/IllegalArgumentException", Cond.methodLink RX0 63 yX0_needAlive]
def wsX0_grant_r2 : List Cond := [Cond.instanceMethod yX0_needAlive, Cond.selects RX0 yX0_needAlive yX0_needAlive, Cond.code yX0_needAlive cX0_needAlive 2 none, Cond.fieldLink RX0 26 "FerryRights" "alive" "[Z", Cond.methodLink RX0 84 yX0_crownOwns, Cond.instanceMethod yX0_crownOwns, Cond.selects RX0 yX0_crownOwns yX0_crownOwns, Cond.code yX0_crownOwns cX0_crownOwns 5 (some .int), Cond.methodLink RX0 96 yX0_owns, Cond.instanceMethod yX0_owns, Cond.selects RX0 yX0_owns yX0_owns, Cond.code yX0_owns cX0_owns 4 (some .int), Cond.fieldLink RX0 20 "FerryRights" "sharesOwned" "[I", Cond.methodLink RX0 213 yX0_slot, Cond.static yX0_slot, Cond.code yX0_slot cX0_slot 3 (some .int), Cond.methodLink RX0 90 yX0_addShares, Cond.instanceMethod yX0_addShares, Cond.selects RX0 yX0_addShares yX0_addShares, Cond.code yX0_addShares cX0_addShares 5 none]
def wsX0_grant : List Cond := .code yX0_grant cX0_grant 5 (some .int) :: ((wsX0_grant_r1 ++ wsX0_grant_r2) ++ wsX00 ++ (vx_atS RX0 50 "java/lang/IllegalStateException" ["java/lang/RuntimeException", "java/lang/Exception"]).filter goodWord ++ (vx_atS RX0 164 "java/lang/IndexOutOfBoundsException" ["java/lang/RuntimeException", "java/lang/Exception"]).filter goodWord ++ (vx_atS RX0 70 "java/lang/IllegalArgumentException" ["java/lang/RuntimeException", "java/lang/Exception"]).filter goodWord)
def wsX0_give_r1 : List Cond := [Cond.classLink RX0 66 "java/lang/IllegalArgumentException", Cond.initialized "java/lang/IllegalArgumentException", Cond.classLink RX0 46 "java/lang/IllegalStateException", Cond.initialized "java/lang/IllegalStateException", Cond.methodLink RX0 60 yX0_needPerson, Cond.instanceMethod yX0_needPerson, Cond.selects RX0 yX0_needPerson yX0_needPerson, Cond.initialized RX0, Cond.code yX0_needPerson cX0_needPerson 2 none, Cond.classLink RX0 160 "java/lang/IndexOutOfBoundsException", Cond.initialized "java/lang/IndexOutOfBoundsException", Cond.fieldLink RX0 23 "FerryRights" "personCount" "I", Cond.methodLink RX0 75 yX0_needFerry, Cond.instanceMethod yX0_needFerry, Cond.selects RX0 yX0_needFerry yX0_needFerry, Cond.code yX0_needFerry cX0_needFerry 2 none, Cond.fieldLink RX0 9 "FerryRights" "ferryCount" "I", Cond.methodLink RX0 78 yX0_needWatch, Cond.static yX0_needWatch, Cond.code yX0_needWatch cX0_needWatch 1 none, Cond.methodLink RX0 81 yX0_needShares, Cond.static yX0_needShares, Cond.code yX0_needShares cX0_needShares 1 none, Cond.methodLink RX0 63 yX0_needAlive]
def wsX0_give_r2 : List Cond := [Cond.instanceMethod yX0_needAlive, Cond.selects RX0 yX0_needAlive yX0_needAlive, Cond.code yX0_needAlive cX0_needAlive 2 none, Cond.fieldLink RX0 26 "FerryRights" "alive" "[Z", Cond.methodLink RX0 96 yX0_owns, Cond.instanceMethod yX0_owns, Cond.selects RX0 yX0_owns yX0_owns, Cond.code yX0_owns cX0_owns 4 (some .int), Cond.fieldLink RX0 20 "FerryRights" "sharesOwned" "[I", Cond.methodLink RX0 213 yX0_slot, Cond.static yX0_slot, Cond.code yX0_slot cX0_slot 3 (some .int), Cond.methodLink RX0 90 yX0_addShares, Cond.instanceMethod yX0_addShares, Cond.selects RX0 yX0_addShares yX0_addShares, Cond.code yX0_addShares cX0_addShares 5 none]
def wsX0_give : List Cond := .code yX0_give cX0_give 6 (some .int) :: ((wsX0_give_r1 ++ wsX0_give_r2) ++ wsX00 ++ (vx_atS RX0 70 "java/lang/IllegalArgumentException" ["java/lang/RuntimeException", "java/lang/Exception"]).filter goodWord ++ (vx_atS RX0 50 "java/lang/IllegalStateException" ["java/lang/RuntimeException", "java/lang/Exception"]).filter goodWord ++ (vx_atS RX0 164 "java/lang/IndexOutOfBoundsException" ["java/lang/RuntimeException", "java/lang/Exception"]).filter goodWord)
def wsX0_needSale : List Cond := .code yX0_needSale cX0_needSale 5 none :: ([.methodLink RX0 60 yX0_needPerson, .instanceMethod yX0_needPerson, .selects RX0 yX0_needPerson yX0_needPerson, .initialized RX0, .code yX0_needPerson cX0_needPerson 2 none, .classLink RX0 160 "java/lang/IndexOutOfBoundsException", .initialized "java/lang/IndexOutOfBoundsException", .fieldLink RX0 23 "FerryRights" "personCount" "I", .methodLink RX0 75 yX0_needFerry, .instanceMethod yX0_needFerry, .selects RX0 yX0_needFerry yX0_needFerry, .code yX0_needFerry cX0_needFerry 2 none, .fieldLink RX0 9 "FerryRights" "ferryCount" "I", .methodLink RX0 78 yX0_needWatch, .static yX0_needWatch, .code yX0_needWatch cX0_needWatch 1 none] ++ wsX00 ++ (vx_atS RX0 164 "java/lang/IndexOutOfBoundsException" ["java/lang/RuntimeException", "java/lang/Exception"]).filter goodWord)
def wsX0_worth : List Cond := .code yX0_worth cX0_worth 3 (some .int) :: ([.fieldLink RX0 13 "FerryRights" "tolls" "[I", .fieldLink RX0 219 "FerryRights" "TRAFFIC" "[I"] ++ wsX00)
def wsX0_priceOf : List Cond := .code yX0_priceOf cX0_priceOf 4 (some .int) :: ([.methodLink RX0 96 yX0_owns, .instanceMethod yX0_owns, .selects RX0 yX0_owns yX0_owns, .initialized RX0, .code yX0_owns cX0_owns 4 (some .int), .fieldLink RX0 20 "FerryRights" "sharesOwned" "[I", .methodLink RX0 213 yX0_slot, .static yX0_slot, .code yX0_slot cX0_slot 3 (some .int), .methodLink RX0 146 yX0_worth, .instanceMethod yX0_worth, .selects RX0 yX0_worth yX0_worth, .code yX0_worth cX0_worth 3 (some .int), .fieldLink RX0 13 "FerryRights" "tolls" "[I", .fieldLink RX0 219 "FerryRights" "TRAFFIC" "[I"] ++ wsX00)
def wsX0_otherOwnerHas : List Cond := .code yX0_otherOwnerHas cX0_otherOwnerHas 6 (some .boolean) :: ([.fieldLink RX0 23 "FerryRights" "personCount" "I", .fieldLink RX0 30 "FerryRights" "purses" "[I", .methodLink RX0 96 yX0_owns, .instanceMethod yX0_owns, .selects RX0 yX0_owns yX0_owns, .initialized RX0, .code yX0_owns cX0_owns 4 (some .int), .fieldLink RX0 20 "FerryRights" "sharesOwned" "[I", .methodLink RX0 213 yX0_slot, .static yX0_slot, .code yX0_slot cX0_slot 3 (some .int)] ++ wsX00)
def wsX0_mayBuy_r1 : List Cond := [Cond.fieldLink RX0 26 "FerryRights" "alive" "[Z", Cond.fieldLink RX0 30 "FerryRights" "purses" "[I", Cond.methodLink RX0 111 yX0_priceOf, Cond.instanceMethod yX0_priceOf, Cond.selects RX0 yX0_priceOf yX0_priceOf, Cond.initialized RX0, Cond.code yX0_priceOf cX0_priceOf 4 (some .int), Cond.methodLink RX0 96 yX0_owns, Cond.instanceMethod yX0_owns, Cond.selects RX0 yX0_owns yX0_owns, Cond.code yX0_owns cX0_owns 4 (some .int), Cond.fieldLink RX0 20 "FerryRights" "sharesOwned" "[I", Cond.methodLink RX0 213 yX0_slot, Cond.static yX0_slot, Cond.code yX0_slot cX0_slot 3 (some .int), Cond.methodLink RX0 146 yX0_worth, Cond.instanceMethod yX0_worth, Cond.selects RX0 yX0_worth yX0_worth, Cond.code yX0_worth cX0_worth 3 (some .int), Cond.fieldLink RX0 13 "FerryRights" "tolls" "[I", Cond.fieldLink RX0 219 "FerryRights" "TRAFFIC" "[I", Cond.methodLink RX0 222 yX0_otherOwnerHas, Cond.instanceMethod yX0_otherOwnerHas, Cond.selects RX0 yX0_otherOwnerHas yX0_otherOwnerHas]
def wsX0_mayBuy_r2 : List Cond := [Cond.code yX0_otherOwnerHas cX0_otherOwnerHas 6 (some .boolean), Cond.fieldLink RX0 23 "FerryRights" "personCount" "I"]
def wsX0_mayBuy : List Cond := .code yX0_mayBuy cX0_mayBuy 6 (some .boolean) :: ((wsX0_mayBuy_r1 ++ wsX0_mayBuy_r2) ++ wsX00)
def wsX0_buy_r1 : List Cond := [Cond.classLink RX0 46 "java/lang/IllegalStateException", Cond.initialized "java/lang/IllegalStateException", Cond.fieldLink RX0 30 "FerryRights" "purses" "[I", Cond.methodLink RX0 102 yX0_needSale, Cond.instanceMethod yX0_needSale, Cond.selects RX0 yX0_needSale yX0_needSale, Cond.initialized RX0, Cond.code yX0_needSale cX0_needSale 5 none, Cond.methodLink RX0 60 yX0_needPerson, Cond.instanceMethod yX0_needPerson, Cond.selects RX0 yX0_needPerson yX0_needPerson, Cond.code yX0_needPerson cX0_needPerson 2 none, Cond.classLink RX0 160 "java/lang/IndexOutOfBoundsException", Cond.initialized "java/lang/IndexOutOfBoundsException", Cond.fieldLink RX0 23 "FerryRights" "personCount" "I", Cond.methodLink RX0 75 yX0_needFerry, Cond.instanceMethod yX0_needFerry, Cond.selects RX0 yX0_needFerry yX0_needFerry, Cond.code yX0_needFerry cX0_needFerry 2 none, Cond.fieldLink RX0 9 "FerryRights" "ferryCount" "I", Cond.methodLink RX0 78 yX0_needWatch, Cond.static yX0_needWatch, Cond.code yX0_needWatch cX0_needWatch 1 none, Cond.methodLink RX0 105 yX0_mayBuy]
def wsX0_buy_r2 : List Cond := [Cond.instanceMethod yX0_mayBuy, Cond.selects RX0 yX0_mayBuy yX0_mayBuy, Cond.code yX0_mayBuy cX0_mayBuy 6 (some .boolean), Cond.fieldLink RX0 26 "FerryRights" "alive" "[Z", Cond.methodLink RX0 111 yX0_priceOf, Cond.instanceMethod yX0_priceOf, Cond.selects RX0 yX0_priceOf yX0_priceOf, Cond.code yX0_priceOf cX0_priceOf 4 (some .int), Cond.methodLink RX0 96 yX0_owns, Cond.instanceMethod yX0_owns, Cond.selects RX0 yX0_owns yX0_owns, Cond.code yX0_owns cX0_owns 4 (some .int), Cond.fieldLink RX0 20 "FerryRights" "sharesOwned" "[I", Cond.methodLink RX0 213 yX0_slot, Cond.static yX0_slot, Cond.code yX0_slot cX0_slot 3 (some .int), Cond.methodLink RX0 146 yX0_worth, Cond.instanceMethod yX0_worth, Cond.selects RX0 yX0_worth yX0_worth, Cond.code yX0_worth cX0_worth 3 (some .int), Cond.fieldLink RX0 13 "FerryRights" "tolls" "[I", Cond.fieldLink RX0 219 "FerryRights" "TRAFFIC" "[I", Cond.methodLink RX0 222 yX0_otherOwnerHas, Cond.instanceMethod yX0_otherOwnerHas]
def wsX0_buy_r3 : List Cond := [Cond.selects RX0 yX0_otherOwnerHas yX0_otherOwnerHas, Cond.code yX0_otherOwnerHas cX0_otherOwnerHas 6 (some .boolean), Cond.methodLink RX0 71 yX0_addCoins, Cond.instanceMethod yX0_addCoins, Cond.selects RX0 yX0_addCoins yX0_addCoins, Cond.code yX0_addCoins cX0_addCoins 3 none, Cond.methodLink RX0 208 Lib.Math.min.name, Cond.static Lib.Math.min.name, Cond.initialized "java/lang/Math", Cond.code Lib.Math.min.name Lib.Math.min.code 2 (some .int), Cond.methodLink RX0 90 yX0_addShares, Cond.instanceMethod yX0_addShares, Cond.selects RX0 yX0_addShares yX0_addShares, Cond.code yX0_addShares cX0_addShares 5 none]
def wsX0_buy : List Cond := .code yX0_buy cX0_buy 7 (some .int) :: ((wsX0_buy_r1 ++ (wsX0_buy_r2 ++ wsX0_buy_r3)) ++ wsX00 ++ (vx_atS RX0 50 "java/lang/IllegalStateException" ["java/lang/RuntimeException", "java/lang/Exception"]).filter goodWord ++ (vx_atS RX0 164 "java/lang/IndexOutOfBoundsException" ["java/lang/RuntimeException", "java/lang/Exception"]).filter goodWord)
def wsX0_countSharesOfFerry : List Cond := .code yX0_countSharesOfFerry cX0_countSharesOfFerry 5 (some .int) :: ([.methodLink RX0 96 yX0_owns, .instanceMethod yX0_owns, .selects RX0 yX0_owns yX0_owns, .initialized RX0, .code yX0_owns cX0_owns 4 (some .int), .fieldLink RX0 20 "FerryRights" "sharesOwned" "[I", .methodLink RX0 213 yX0_slot, .static yX0_slot, .code yX0_slot cX0_slot 3 (some .int)] ++ wsX00)
def wsX0_findMaster : List Cond := .code yX0_findMaster cX0_findMaster 3 (some .int) :: ([.fieldLink RX0 23 "FerryRights" "personCount" "I", .methodLink RX0 216 yX0_countSharesOfFerry, .instanceMethod yX0_countSharesOfFerry, .selects RX0 yX0_countSharesOfFerry yX0_countSharesOfFerry, .initialized RX0, .code yX0_countSharesOfFerry cX0_countSharesOfFerry 5 (some .int), .methodLink RX0 96 yX0_owns, .instanceMethod yX0_owns, .selects RX0 yX0_owns yX0_owns, .code yX0_owns cX0_owns 4 (some .int), .fieldLink RX0 20 "FerryRights" "sharesOwned" "[I", .methodLink RX0 213 yX0_slot, .static yX0_slot, .code yX0_slot cX0_slot 3 (some .int)] ++ wsX00)
def wsX0_setToll_r1 : List Cond := [Cond.classLink RX0 46 "java/lang/IllegalStateException", Cond.initialized "java/lang/IllegalStateException", Cond.fieldLink RX0 13 "FerryRights" "tolls" "[I", Cond.methodLink RX0 75 yX0_needFerry, Cond.instanceMethod yX0_needFerry, Cond.selects RX0 yX0_needFerry yX0_needFerry, Cond.initialized RX0, Cond.code yX0_needFerry cX0_needFerry 2 none, Cond.classLink RX0 160 "java/lang/IndexOutOfBoundsException", Cond.initialized "java/lang/IndexOutOfBoundsException", Cond.fieldLink RX0 9 "FerryRights" "ferryCount" "I", Cond.methodLink RX0 60 yX0_needPerson, Cond.instanceMethod yX0_needPerson, Cond.selects RX0 yX0_needPerson yX0_needPerson, Cond.code yX0_needPerson cX0_needPerson 2 none, Cond.fieldLink RX0 23 "FerryRights" "personCount" "I", Cond.methodLink RX0 42 yX0_needToll, Cond.static yX0_needToll, Cond.code yX0_needToll cX0_needToll 1 none, Cond.classLink RX0 66 "java/lang/IllegalArgumentException", Cond.initialized "java/lang/IllegalArgumentException", Cond.methodLink RX0 114 yX0_findMaster, Cond.instanceMethod yX0_findMaster, Cond.selects RX0 yX0_findMaster yX0_findMaster]
def wsX0_setToll_r2 : List Cond := [Cond.code yX0_findMaster cX0_findMaster 3 (some .int), Cond.methodLink RX0 216 yX0_countSharesOfFerry, Cond.instanceMethod yX0_countSharesOfFerry, Cond.selects RX0 yX0_countSharesOfFerry yX0_countSharesOfFerry, Cond.code yX0_countSharesOfFerry cX0_countSharesOfFerry 5 (some .int), Cond.methodLink RX0 96 yX0_owns, Cond.instanceMethod yX0_owns, Cond.selects RX0 yX0_owns yX0_owns, Cond.code yX0_owns cX0_owns 4 (some .int), Cond.fieldLink RX0 20 "FerryRights" "sharesOwned" "[I", Cond.methodLink RX0 213 yX0_slot, Cond.static yX0_slot, Cond.code yX0_slot cX0_slot 3 (some .int)]
def wsX0_setToll : List Cond := .code yX0_setToll cX0_setToll 5 (some .int) :: ((wsX0_setToll_r1 ++ wsX0_setToll_r2) ++ wsX00 ++ (vx_atS RX0 50 "java/lang/IllegalStateException" ["java/lang/RuntimeException", "java/lang/Exception"]).filter goodWord ++ (vx_atS RX0 164 "java/lang/IndexOutOfBoundsException" ["java/lang/RuntimeException", "java/lang/Exception"]).filter goodWord ++ (vx_atS RX0 70 "java/lang/IllegalArgumentException" ["java/lang/RuntimeException", "java/lang/Exception"]).filter goodWord)
def wsX0_needHour : List Cond := .code yX0_needHour cX0_needHour 1 none :: ([.classLink RX0 160 "java/lang/IndexOutOfBoundsException", .initialized "java/lang/IndexOutOfBoundsException"] ++ (vx_atS RX0 164 "java/lang/IndexOutOfBoundsException" ["java/lang/RuntimeException", "java/lang/Exception"]).filter goodWord)
def wsX0_needPassengers : List Cond := .code yX0_needPassengers cX0_needPassengers 1 none :: ([.classLink RX0 66 "java/lang/IllegalArgumentException", .initialized "java/lang/IllegalArgumentException"] ++ (vx_atS RX0 70 "java/lang/IllegalArgumentException" ["java/lang/RuntimeException", "java/lang/Exception"]).filter goodWord)
def wsX0_fareOf : List Cond := .code yX0_fareOf cX0_fareOf 5 (some .int) :: ([.fieldLink RX0 13 "FerryRights" "tolls" "[I", .methodLink RX0 96 yX0_owns, .instanceMethod yX0_owns, .selects RX0 yX0_owns yX0_owns, .initialized RX0, .code yX0_owns cX0_owns 4 (some .int), .fieldLink RX0 20 "FerryRights" "sharesOwned" "[I", .methodLink RX0 213 yX0_slot, .static yX0_slot, .code yX0_slot cX0_slot 3 (some .int)] ++ wsX00)
def wsX0_carry_r1 : List Cond := [Cond.fieldLink RX0 13 "FerryRights" "tolls" "[I", Cond.fieldLink RX0 23 "FerryRights" "personCount" "I", Cond.fieldLink RX0 33 "FerryRights" "fares" "[I", Cond.fieldLink RX0 39 "FerryRights" "crownPurse" "I", Cond.fieldLink RX0 17 "FerryRights" "passengersCarried" "[I", Cond.methodLink RX0 75 yX0_needFerry, Cond.instanceMethod yX0_needFerry, Cond.selects RX0 yX0_needFerry yX0_needFerry, Cond.initialized RX0, Cond.code yX0_needFerry cX0_needFerry 2 none, Cond.classLink RX0 160 "java/lang/IndexOutOfBoundsException", Cond.initialized "java/lang/IndexOutOfBoundsException", Cond.fieldLink RX0 9 "FerryRights" "ferryCount" "I", Cond.methodLink RX0 119 yX0_needHour, Cond.static yX0_needHour, Cond.code yX0_needHour cX0_needHour 1 none, Cond.methodLink RX0 122 yX0_needPassengers, Cond.static yX0_needPassengers, Cond.code yX0_needPassengers cX0_needPassengers 1 none, Cond.classLink RX0 66 "java/lang/IllegalArgumentException", Cond.initialized "java/lang/IllegalArgumentException", Cond.methodLink RX0 125 yX0_fareOf, Cond.instanceMethod yX0_fareOf, Cond.selects RX0 yX0_fareOf yX0_fareOf]
def wsX0_carry_r2 : List Cond := [Cond.code yX0_fareOf cX0_fareOf 5 (some .int), Cond.methodLink RX0 96 yX0_owns, Cond.instanceMethod yX0_owns, Cond.selects RX0 yX0_owns yX0_owns, Cond.code yX0_owns cX0_owns 4 (some .int), Cond.fieldLink RX0 20 "FerryRights" "sharesOwned" "[I", Cond.methodLink RX0 213 yX0_slot, Cond.static yX0_slot, Cond.code yX0_slot cX0_slot 3 (some .int), Cond.methodLink RX0 71 yX0_addCoins, Cond.instanceMethod yX0_addCoins, Cond.selects RX0 yX0_addCoins yX0_addCoins, Cond.code yX0_addCoins cX0_addCoins 3 none, Cond.fieldLink RX0 30 "FerryRights" "purses" "[I", Cond.methodLink RX0 208 Lib.Math.min.name, Cond.static Lib.Math.min.name, Cond.initialized "java/lang/Math", Cond.code Lib.Math.min.name Lib.Math.min.code 2 (some .int)]
def wsX0_carry : List Cond := .code yX0_carry cX0_carry 8 (some .int) :: ((wsX0_carry_r1 ++ wsX0_carry_r2) ++ wsX00 ++ (vx_atS RX0 164 "java/lang/IndexOutOfBoundsException" ["java/lang/RuntimeException", "java/lang/Exception"]).filter goodWord ++ (vx_atS RX0 70 "java/lang/IllegalArgumentException" ["java/lang/RuntimeException", "java/lang/Exception"]).filter goodWord)
def wsX0_hasLivingChild : List Cond := .code yX0_hasLivingChild cX0_hasLivingChild 3 (some .boolean) :: ([.fieldLink RX0 23 "FerryRights" "personCount" "I", .fieldLink RX0 26 "FerryRights" "alive" "[Z", .fieldLink RX0 36 "FerryRights" "parents" "[I"] ++ wsX00)
def wsX0_isHeir : List Cond := .code yX0_isHeir cX0_isHeir 3 (some .boolean) :: ([.fieldLink RX0 26 "FerryRights" "alive" "[Z", .fieldLink RX0 36 "FerryRights" "parents" "[I", .methodLink RX0 225 yX0_hasLivingChild, .instanceMethod yX0_hasLivingChild, .selects RX0 yX0_hasLivingChild yX0_hasLivingChild, .initialized RX0, .code yX0_hasLivingChild cX0_hasLivingChild 3 (some .boolean), .fieldLink RX0 23 "FerryRights" "personCount" "I"] ++ wsX00)
def wsX0_countHeirsBelow : List Cond := .code yX0_countHeirsBelow cX0_countHeirsBelow 5 (some .int) :: ([.methodLink RX0 132 yX0_isHeir, .instanceMethod yX0_isHeir, .selects RX0 yX0_isHeir yX0_isHeir, .initialized RX0, .code yX0_isHeir cX0_isHeir 3 (some .boolean), .fieldLink RX0 26 "FerryRights" "alive" "[Z", .fieldLink RX0 36 "FerryRights" "parents" "[I", .methodLink RX0 225 yX0_hasLivingChild, .instanceMethod yX0_hasLivingChild, .selects RX0 yX0_hasLivingChild yX0_hasLivingChild, .code yX0_hasLivingChild cX0_hasLivingChild 3 (some .boolean), .fieldLink RX0 23 "FerryRights" "personCount" "I"] ++ wsX00)
def wsX0_countHeirs : List Cond := .code yX0_countHeirs cX0_countHeirs 2 (some .int) :: ([.fieldLink RX0 23 "FerryRights" "personCount" "I", .methodLink RX0 165 yX0_countHeirsBelow, .instanceMethod yX0_countHeirsBelow, .selects RX0 yX0_countHeirsBelow yX0_countHeirsBelow, .initialized RX0, .code yX0_countHeirsBelow cX0_countHeirsBelow 5 (some .int), .methodLink RX0 132 yX0_isHeir, .instanceMethod yX0_isHeir, .selects RX0 yX0_isHeir yX0_isHeir, .code yX0_isHeir cX0_isHeir 3 (some .boolean), .fieldLink RX0 26 "FerryRights" "alive" "[Z", .fieldLink RX0 36 "FerryRights" "parents" "[I", .methodLink RX0 225 yX0_hasLivingChild, .instanceMethod yX0_hasLivingChild, .selects RX0 yX0_hasLivingChild yX0_hasLivingChild, .code yX0_hasLivingChild cX0_hasLivingChild 3 (some .boolean)] ++ wsX00)
def wsX0_partOf : List Cond := .code yX0_partOf cX0_partOf 6 (some .int) :: ([])
def wsX0_hand_r1 : List Cond := [Cond.fieldLink RX0 9 "FerryRights" "ferryCount" "I", Cond.fieldLink RX0 30 "FerryRights" "purses" "[I", Cond.methodLink RX0 96 yX0_owns, Cond.instanceMethod yX0_owns, Cond.selects RX0 yX0_owns yX0_owns, Cond.initialized RX0, Cond.code yX0_owns cX0_owns 4 (some .int), Cond.fieldLink RX0 20 "FerryRights" "sharesOwned" "[I", Cond.methodLink RX0 213 yX0_slot, Cond.static yX0_slot, Cond.code yX0_slot cX0_slot 3 (some .int), Cond.methodLink RX0 168 yX0_partOf, Cond.static yX0_partOf, Cond.code yX0_partOf cX0_partOf 6 (some .int), Cond.methodLink RX0 90 yX0_addShares, Cond.instanceMethod yX0_addShares, Cond.selects RX0 yX0_addShares yX0_addShares, Cond.code yX0_addShares cX0_addShares 5 none, Cond.methodLink RX0 71 yX0_addCoins, Cond.instanceMethod yX0_addCoins, Cond.selects RX0 yX0_addCoins yX0_addCoins, Cond.code yX0_addCoins cX0_addCoins 3 none, Cond.methodLink RX0 208 Lib.Math.min.name, Cond.static Lib.Math.min.name]
def wsX0_hand_r2 : List Cond := [Cond.initialized "java/lang/Math", Cond.code Lib.Math.min.name Lib.Math.min.code 2 (some .int)]
def wsX0_hand : List Cond := .code yX0_hand cX0_hand 7 none :: ((wsX0_hand_r1 ++ wsX0_hand_r2) ++ wsX00)
def wsX0_bury : List Cond := .code yX0_bury cX0_bury 4 none :: ([.fieldLink RX0 9 "FerryRights" "ferryCount" "I", .fieldLink RX0 20 "FerryRights" "sharesOwned" "[I", .fieldLink RX0 30 "FerryRights" "purses" "[I", .fieldLink RX0 26 "FerryRights" "alive" "[Z", .methodLink RX0 213 yX0_slot, .static yX0_slot, .initialized RX0, .code yX0_slot cX0_slot 3 (some .int)] ++ wsX00)
def wsX0_die_r1 : List Cond := [Cond.fieldLink RX0 23 "FerryRights" "personCount" "I", Cond.fieldLink RX0 39 "FerryRights" "crownPurse" "I", Cond.fieldLink RX0 30 "FerryRights" "purses" "[I", Cond.methodLink RX0 60 yX0_needPerson, Cond.instanceMethod yX0_needPerson, Cond.selects RX0 yX0_needPerson yX0_needPerson, Cond.initialized RX0, Cond.code yX0_needPerson cX0_needPerson 2 none, Cond.classLink RX0 160 "java/lang/IndexOutOfBoundsException", Cond.initialized "java/lang/IndexOutOfBoundsException", Cond.methodLink RX0 63 yX0_needAlive, Cond.instanceMethod yX0_needAlive, Cond.selects RX0 yX0_needAlive yX0_needAlive, Cond.code yX0_needAlive cX0_needAlive 2 none, Cond.classLink RX0 46 "java/lang/IllegalStateException", Cond.initialized "java/lang/IllegalStateException", Cond.fieldLink RX0 26 "FerryRights" "alive" "[Z", Cond.methodLink RX0 129 yX0_countHeirs, Cond.instanceMethod yX0_countHeirs, Cond.selects RX0 yX0_countHeirs yX0_countHeirs, Cond.code yX0_countHeirs cX0_countHeirs 2 (some .int), Cond.methodLink RX0 165 yX0_countHeirsBelow, Cond.instanceMethod yX0_countHeirsBelow, Cond.selects RX0 yX0_countHeirsBelow yX0_countHeirsBelow]
def wsX0_die_r2 : List Cond := [Cond.code yX0_countHeirsBelow cX0_countHeirsBelow 5 (some .int), Cond.methodLink RX0 132 yX0_isHeir, Cond.instanceMethod yX0_isHeir, Cond.selects RX0 yX0_isHeir yX0_isHeir, Cond.code yX0_isHeir cX0_isHeir 3 (some .boolean), Cond.fieldLink RX0 36 "FerryRights" "parents" "[I", Cond.methodLink RX0 225 yX0_hasLivingChild, Cond.instanceMethod yX0_hasLivingChild, Cond.selects RX0 yX0_hasLivingChild yX0_hasLivingChild, Cond.code yX0_hasLivingChild cX0_hasLivingChild 3 (some .boolean), Cond.methodLink RX0 136 yX0_hand, Cond.instanceMethod yX0_hand, Cond.selects RX0 yX0_hand yX0_hand, Cond.code yX0_hand cX0_hand 7 none, Cond.fieldLink RX0 9 "FerryRights" "ferryCount" "I", Cond.methodLink RX0 96 yX0_owns, Cond.instanceMethod yX0_owns, Cond.selects RX0 yX0_owns yX0_owns, Cond.code yX0_owns cX0_owns 4 (some .int), Cond.fieldLink RX0 20 "FerryRights" "sharesOwned" "[I", Cond.methodLink RX0 213 yX0_slot, Cond.static yX0_slot, Cond.code yX0_slot cX0_slot 3 (some .int), Cond.methodLink RX0 168 yX0_partOf]
def wsX0_die_r3 : List Cond := [Cond.static yX0_partOf, Cond.code yX0_partOf cX0_partOf 6 (some .int), Cond.methodLink RX0 90 yX0_addShares, Cond.instanceMethod yX0_addShares, Cond.selects RX0 yX0_addShares yX0_addShares, Cond.code yX0_addShares cX0_addShares 5 none, Cond.methodLink RX0 71 yX0_addCoins, Cond.instanceMethod yX0_addCoins, Cond.selects RX0 yX0_addCoins yX0_addCoins, Cond.code yX0_addCoins cX0_addCoins 3 none, Cond.methodLink RX0 208 Lib.Math.min.name, Cond.static Lib.Math.min.name, Cond.initialized "java/lang/Math", Cond.code Lib.Math.min.name Lib.Math.min.code 2 (some .int), Cond.methodLink RX0 139 yX0_bury, Cond.instanceMethod yX0_bury, Cond.selects RX0 yX0_bury yX0_bury, Cond.code yX0_bury cX0_bury 4 none]
def wsX0_die : List Cond := .code yX0_die cX0_die 5 (some .int) :: ((wsX0_die_r1 ++ (wsX0_die_r2 ++ wsX0_die_r3)) ++ wsX00 ++ (vx_atS RX0 164 "java/lang/IndexOutOfBoundsException" ["java/lang/RuntimeException", "java/lang/Exception"]).filter goodWord ++ (vx_atS RX0 50 "java/lang/IllegalStateException" ["java/lang/RuntimeException", "java/lang/Exception"]).filter goodWord)
def wsX0_ferries : List Cond := .code yX0_ferries cX0_ferries 1 (some .int) :: ([.fieldLink RX0 9 "FerryRights" "ferryCount" "I"] ++ wsX00)
def wsX0_toll : List Cond := .code yX0_toll cX0_toll 2 (some .int) :: ([.fieldLink RX0 13 "FerryRights" "tolls" "[I", .methodLink RX0 75 yX0_needFerry, .instanceMethod yX0_needFerry, .selects RX0 yX0_needFerry yX0_needFerry, .initialized RX0, .code yX0_needFerry cX0_needFerry 2 none, .classLink RX0 160 "java/lang/IndexOutOfBoundsException", .initialized "java/lang/IndexOutOfBoundsException", .fieldLink RX0 9 "FerryRights" "ferryCount" "I"] ++ wsX00 ++ (vx_atS RX0 164 "java/lang/IndexOutOfBoundsException" ["java/lang/RuntimeException", "java/lang/Exception"]).filter goodWord)
def wsX0_carried : List Cond := .code yX0_carried cX0_carried 2 (some .int) :: ([.fieldLink RX0 17 "FerryRights" "passengersCarried" "[I", .methodLink RX0 75 yX0_needFerry, .instanceMethod yX0_needFerry, .selects RX0 yX0_needFerry yX0_needFerry, .initialized RX0, .code yX0_needFerry cX0_needFerry 2 none, .classLink RX0 160 "java/lang/IndexOutOfBoundsException", .initialized "java/lang/IndexOutOfBoundsException", .fieldLink RX0 9 "FerryRights" "ferryCount" "I"] ++ wsX00 ++ (vx_atS RX0 164 "java/lang/IndexOutOfBoundsException" ["java/lang/RuntimeException", "java/lang/Exception"]).filter goodWord)
def wsX0_shares : List Cond := .code yX0_shares cX0_shares 4 (some .int) :: ([.methodLink RX0 75 yX0_needFerry, .instanceMethod yX0_needFerry, .selects RX0 yX0_needFerry yX0_needFerry, .initialized RX0, .code yX0_needFerry cX0_needFerry 2 none, .classLink RX0 160 "java/lang/IndexOutOfBoundsException", .initialized "java/lang/IndexOutOfBoundsException", .fieldLink RX0 9 "FerryRights" "ferryCount" "I", .methodLink RX0 78 yX0_needWatch, .static yX0_needWatch, .code yX0_needWatch cX0_needWatch 1 none, .methodLink RX0 60 yX0_needPerson, .instanceMethod yX0_needPerson, .selects RX0 yX0_needPerson yX0_needPerson, .code yX0_needPerson cX0_needPerson 2 none, .fieldLink RX0 23 "FerryRights" "personCount" "I", .methodLink RX0 96 yX0_owns, .instanceMethod yX0_owns, .selects RX0 yX0_owns yX0_owns, .code yX0_owns cX0_owns 4 (some .int), .fieldLink RX0 20 "FerryRights" "sharesOwned" "[I", .methodLink RX0 213 yX0_slot, .static yX0_slot, .code yX0_slot cX0_slot 3 (some .int)] ++ wsX00 ++ (vx_atS RX0 164 "java/lang/IndexOutOfBoundsException" ["java/lang/RuntimeException", "java/lang/Exception"]).filter goodWord)
def wsX0_crownShares : List Cond := .code yX0_crownShares cX0_crownShares 3 (some .int) :: ([.methodLink RX0 75 yX0_needFerry, .instanceMethod yX0_needFerry, .selects RX0 yX0_needFerry yX0_needFerry, .initialized RX0, .code yX0_needFerry cX0_needFerry 2 none, .classLink RX0 160 "java/lang/IndexOutOfBoundsException", .initialized "java/lang/IndexOutOfBoundsException", .fieldLink RX0 9 "FerryRights" "ferryCount" "I", .methodLink RX0 78 yX0_needWatch, .static yX0_needWatch, .code yX0_needWatch cX0_needWatch 1 none, .methodLink RX0 84 yX0_crownOwns, .instanceMethod yX0_crownOwns, .selects RX0 yX0_crownOwns yX0_crownOwns, .code yX0_crownOwns cX0_crownOwns 5 (some .int), .fieldLink RX0 23 "FerryRights" "personCount" "I", .methodLink RX0 96 yX0_owns, .instanceMethod yX0_owns, .selects RX0 yX0_owns yX0_owns, .code yX0_owns cX0_owns 4 (some .int), .fieldLink RX0 20 "FerryRights" "sharesOwned" "[I", .methodLink RX0 213 yX0_slot, .static yX0_slot, .code yX0_slot cX0_slot 3 (some .int)] ++ wsX00 ++ (vx_atS RX0 164 "java/lang/IndexOutOfBoundsException" ["java/lang/RuntimeException", "java/lang/Exception"]).filter goodWord)
def wsX0_owners : List Cond := .code yX0_owners cX0_owners 5 (some .int) :: ([.fieldLink RX0 23 "FerryRights" "personCount" "I", .methodLink RX0 75 yX0_needFerry, .instanceMethod yX0_needFerry, .selects RX0 yX0_needFerry yX0_needFerry, .initialized RX0, .code yX0_needFerry cX0_needFerry 2 none, .classLink RX0 160 "java/lang/IndexOutOfBoundsException", .initialized "java/lang/IndexOutOfBoundsException", .fieldLink RX0 9 "FerryRights" "ferryCount" "I", .methodLink RX0 78 yX0_needWatch, .static yX0_needWatch, .code yX0_needWatch cX0_needWatch 1 none, .methodLink RX0 96 yX0_owns, .instanceMethod yX0_owns, .selects RX0 yX0_owns yX0_owns, .code yX0_owns cX0_owns 4 (some .int), .fieldLink RX0 20 "FerryRights" "sharesOwned" "[I", .methodLink RX0 213 yX0_slot, .static yX0_slot, .code yX0_slot cX0_slot 3 (some .int)] ++ wsX00 ++ (vx_atS RX0 164 "java/lang/IndexOutOfBoundsException" ["java/lang/RuntimeException", "java/lang/Exception"]).filter goodWord)
def wsX0_holder : List Cond := .code yX0_holder cX0_holder 7 (some .int) :: ([.classLink RX0 46 "java/lang/IllegalStateException", .initialized "java/lang/IllegalStateException", .fieldLink RX0 23 "FerryRights" "personCount" "I", .methodLink RX0 75 yX0_needFerry, .instanceMethod yX0_needFerry, .selects RX0 yX0_needFerry yX0_needFerry, .initialized RX0, .code yX0_needFerry cX0_needFerry 2 none, .classLink RX0 160 "java/lang/IndexOutOfBoundsException", .initialized "java/lang/IndexOutOfBoundsException", .fieldLink RX0 9 "FerryRights" "ferryCount" "I", .methodLink RX0 78 yX0_needWatch, .static yX0_needWatch, .code yX0_needWatch cX0_needWatch 1 none, .methodLink RX0 96 yX0_owns, .instanceMethod yX0_owns, .selects RX0 yX0_owns yX0_owns, .code yX0_owns cX0_owns 4 (some .int), .fieldLink RX0 20 "FerryRights" "sharesOwned" "[I", .methodLink RX0 213 yX0_slot, .static yX0_slot, .code yX0_slot cX0_slot 3 (some .int)] ++ wsX00 ++ (vx_atS RX0 50 "java/lang/IllegalStateException" ["java/lang/RuntimeException", "java/lang/Exception"]).filter goodWord ++ (vx_atS RX0 164 "java/lang/IndexOutOfBoundsException" ["java/lang/RuntimeException", "java/lang/Exception"]).filter goodWord)
def wsX0_master_r1 : List Cond := [Cond.classLink RX0 46 "java/lang/IllegalStateException", Cond.initialized "java/lang/IllegalStateException", Cond.methodLink RX0 75 yX0_needFerry, Cond.instanceMethod yX0_needFerry, Cond.selects RX0 yX0_needFerry yX0_needFerry, Cond.initialized RX0, Cond.code yX0_needFerry cX0_needFerry 2 none, Cond.classLink RX0 160 "java/lang/IndexOutOfBoundsException", Cond.initialized "java/lang/IndexOutOfBoundsException", Cond.fieldLink RX0 9 "FerryRights" "ferryCount" "I", Cond.methodLink RX0 114 yX0_findMaster, Cond.instanceMethod yX0_findMaster, Cond.selects RX0 yX0_findMaster yX0_findMaster, Cond.code yX0_findMaster cX0_findMaster 3 (some .int), Cond.fieldLink RX0 23 "FerryRights" "personCount" "I", Cond.methodLink RX0 216 yX0_countSharesOfFerry, Cond.instanceMethod yX0_countSharesOfFerry, Cond.selects RX0 yX0_countSharesOfFerry yX0_countSharesOfFerry, Cond.code yX0_countSharesOfFerry cX0_countSharesOfFerry 5 (some .int), Cond.methodLink RX0 96 yX0_owns, Cond.instanceMethod yX0_owns, Cond.selects RX0 yX0_owns yX0_owns, Cond.code yX0_owns cX0_owns 4 (some .int), Cond.fieldLink RX0 20 "FerryRights" "sharesOwned" "[I"]
def wsX0_master_r2 : List Cond := [Cond.methodLink RX0 213 yX0_slot, Cond.static yX0_slot, Cond.code yX0_slot cX0_slot 3 (some .int)]
def wsX0_master : List Cond := .code yX0_master cX0_master 3 (some .int) :: ((wsX0_master_r1 ++ wsX0_master_r2) ++ wsX00 ++ (vx_atS RX0 50 "java/lang/IllegalStateException" ["java/lang/RuntimeException", "java/lang/Exception"]).filter goodWord ++ (vx_atS RX0 164 "java/lang/IndexOutOfBoundsException" ["java/lang/RuntimeException", "java/lang/Exception"]).filter goodWord)
def wsX0_hasMaster_r1 : List Cond := [Cond.methodLink RX0 75 yX0_needFerry, Cond.instanceMethod yX0_needFerry, Cond.selects RX0 yX0_needFerry yX0_needFerry, Cond.initialized RX0, Cond.code yX0_needFerry cX0_needFerry 2 none, Cond.classLink RX0 160 "java/lang/IndexOutOfBoundsException", Cond.initialized "java/lang/IndexOutOfBoundsException", Cond.fieldLink RX0 9 "FerryRights" "ferryCount" "I", Cond.methodLink RX0 114 yX0_findMaster, Cond.instanceMethod yX0_findMaster, Cond.selects RX0 yX0_findMaster yX0_findMaster, Cond.code yX0_findMaster cX0_findMaster 3 (some .int), Cond.fieldLink RX0 23 "FerryRights" "personCount" "I", Cond.methodLink RX0 216 yX0_countSharesOfFerry, Cond.instanceMethod yX0_countSharesOfFerry, Cond.selects RX0 yX0_countSharesOfFerry yX0_countSharesOfFerry, Cond.code yX0_countSharesOfFerry cX0_countSharesOfFerry 5 (some .int), Cond.methodLink RX0 96 yX0_owns, Cond.instanceMethod yX0_owns, Cond.selects RX0 yX0_owns yX0_owns, Cond.code yX0_owns cX0_owns 4 (some .int), Cond.fieldLink RX0 20 "FerryRights" "sharesOwned" "[I", Cond.methodLink RX0 213 yX0_slot, Cond.static yX0_slot]
def wsX0_hasMaster_r2 : List Cond := [Cond.code yX0_slot cX0_slot 3 (some .int)]
def wsX0_hasMaster : List Cond := .code yX0_hasMaster cX0_hasMaster 2 (some .boolean) :: ((wsX0_hasMaster_r1 ++ wsX0_hasMaster_r2) ++ wsX00 ++ (vx_atS RX0 164 "java/lang/IndexOutOfBoundsException" ["java/lang/RuntimeException", "java/lang/Exception"]).filter goodWord)
def wsX0_shareValue : List Cond := .code yX0_shareValue cX0_shareValue 3 (some .int) :: ([.methodLink RX0 75 yX0_needFerry, .instanceMethod yX0_needFerry, .selects RX0 yX0_needFerry yX0_needFerry, .initialized RX0, .code yX0_needFerry cX0_needFerry 2 none, .classLink RX0 160 "java/lang/IndexOutOfBoundsException", .initialized "java/lang/IndexOutOfBoundsException", .fieldLink RX0 9 "FerryRights" "ferryCount" "I", .methodLink RX0 78 yX0_needWatch, .static yX0_needWatch, .code yX0_needWatch cX0_needWatch 1 none, .methodLink RX0 146 yX0_worth, .instanceMethod yX0_worth, .selects RX0 yX0_worth yX0_worth, .code yX0_worth cX0_worth 3 (some .int), .fieldLink RX0 13 "FerryRights" "tolls" "[I", .fieldLink RX0 219 "FerryRights" "TRAFFIC" "[I"] ++ wsX00 ++ (vx_atS RX0 164 "java/lang/IndexOutOfBoundsException" ["java/lang/RuntimeException", "java/lang/Exception"]).filter goodWord)
def wsX0_people : List Cond := .code yX0_people cX0_people 1 (some .int) :: ([.fieldLink RX0 23 "FerryRights" "personCount" "I"] ++ wsX00)
def wsX0_living : List Cond := .code yX0_living cX0_living 3 (some .int) :: ([.fieldLink RX0 23 "FerryRights" "personCount" "I", .fieldLink RX0 26 "FerryRights" "alive" "[Z"] ++ wsX00)
def wsX0_isAlive : List Cond := .code yX0_isAlive cX0_isAlive 2 (some .boolean) :: ([.fieldLink RX0 26 "FerryRights" "alive" "[Z", .methodLink RX0 60 yX0_needPerson, .instanceMethod yX0_needPerson, .selects RX0 yX0_needPerson yX0_needPerson, .initialized RX0, .code yX0_needPerson cX0_needPerson 2 none, .classLink RX0 160 "java/lang/IndexOutOfBoundsException", .initialized "java/lang/IndexOutOfBoundsException", .fieldLink RX0 23 "FerryRights" "personCount" "I"] ++ wsX00 ++ (vx_atS RX0 164 "java/lang/IndexOutOfBoundsException" ["java/lang/RuntimeException", "java/lang/Exception"]).filter goodWord)
def wsX0_coins : List Cond := .code yX0_coins cX0_coins 2 (some .int) :: ([.fieldLink RX0 30 "FerryRights" "purses" "[I", .methodLink RX0 60 yX0_needPerson, .instanceMethod yX0_needPerson, .selects RX0 yX0_needPerson yX0_needPerson, .initialized RX0, .code yX0_needPerson cX0_needPerson 2 none, .classLink RX0 160 "java/lang/IndexOutOfBoundsException", .initialized "java/lang/IndexOutOfBoundsException", .fieldLink RX0 23 "FerryRights" "personCount" "I"] ++ wsX00 ++ (vx_atS RX0 164 "java/lang/IndexOutOfBoundsException" ["java/lang/RuntimeException", "java/lang/Exception"]).filter goodWord)
def wsX0_earned : List Cond := .code yX0_earned cX0_earned 2 (some .int) :: ([.fieldLink RX0 33 "FerryRights" "fares" "[I", .methodLink RX0 60 yX0_needPerson, .instanceMethod yX0_needPerson, .selects RX0 yX0_needPerson yX0_needPerson, .initialized RX0, .code yX0_needPerson cX0_needPerson 2 none, .classLink RX0 160 "java/lang/IndexOutOfBoundsException", .initialized "java/lang/IndexOutOfBoundsException", .fieldLink RX0 23 "FerryRights" "personCount" "I"] ++ wsX00 ++ (vx_atS RX0 164 "java/lang/IndexOutOfBoundsException" ["java/lang/RuntimeException", "java/lang/Exception"]).filter goodWord)
def wsX0_countAllShares : List Cond := .code yX0_countAllShares cX0_countAllShares 4 (some .int) :: ([.fieldLink RX0 9 "FerryRights" "ferryCount" "I", .methodLink RX0 216 yX0_countSharesOfFerry, .instanceMethod yX0_countSharesOfFerry, .selects RX0 yX0_countSharesOfFerry yX0_countSharesOfFerry, .initialized RX0, .code yX0_countSharesOfFerry cX0_countSharesOfFerry 5 (some .int), .methodLink RX0 96 yX0_owns, .instanceMethod yX0_owns, .selects RX0 yX0_owns yX0_owns, .code yX0_owns cX0_owns 4 (some .int), .fieldLink RX0 20 "FerryRights" "sharesOwned" "[I", .methodLink RX0 213 yX0_slot, .static yX0_slot, .code yX0_slot cX0_slot 3 (some .int)] ++ wsX00)
def wsX0_allShares_r1 : List Cond := [Cond.methodLink RX0 60 yX0_needPerson, Cond.instanceMethod yX0_needPerson, Cond.selects RX0 yX0_needPerson yX0_needPerson, Cond.initialized RX0, Cond.code yX0_needPerson cX0_needPerson 2 none, Cond.classLink RX0 160 "java/lang/IndexOutOfBoundsException", Cond.initialized "java/lang/IndexOutOfBoundsException", Cond.fieldLink RX0 23 "FerryRights" "personCount" "I", Cond.methodLink RX0 149 yX0_countAllShares, Cond.instanceMethod yX0_countAllShares, Cond.selects RX0 yX0_countAllShares yX0_countAllShares, Cond.code yX0_countAllShares cX0_countAllShares 4 (some .int), Cond.fieldLink RX0 9 "FerryRights" "ferryCount" "I", Cond.methodLink RX0 216 yX0_countSharesOfFerry, Cond.instanceMethod yX0_countSharesOfFerry, Cond.selects RX0 yX0_countSharesOfFerry yX0_countSharesOfFerry, Cond.code yX0_countSharesOfFerry cX0_countSharesOfFerry 5 (some .int), Cond.methodLink RX0 96 yX0_owns, Cond.instanceMethod yX0_owns, Cond.selects RX0 yX0_owns yX0_owns, Cond.code yX0_owns cX0_owns 4 (some .int), Cond.fieldLink RX0 20 "FerryRights" "sharesOwned" "[I", Cond.methodLink RX0 213 yX0_slot, Cond.static yX0_slot]
def wsX0_allShares_r2 : List Cond := [Cond.code yX0_slot cX0_slot 3 (some .int)]
def wsX0_allShares : List Cond := .code yX0_allShares cX0_allShares 2 (some .int) :: ((wsX0_allShares_r1 ++ wsX0_allShares_r2) ++ wsX00 ++ (vx_atS RX0 164 "java/lang/IndexOutOfBoundsException" ["java/lang/RuntimeException", "java/lang/Exception"]).filter goodWord)
def wsX0_hasParent : List Cond := .code yX0_hasParent cX0_hasParent 2 (some .boolean) :: ([.fieldLink RX0 36 "FerryRights" "parents" "[I", .methodLink RX0 60 yX0_needPerson, .instanceMethod yX0_needPerson, .selects RX0 yX0_needPerson yX0_needPerson, .initialized RX0, .code yX0_needPerson cX0_needPerson 2 none, .classLink RX0 160 "java/lang/IndexOutOfBoundsException", .initialized "java/lang/IndexOutOfBoundsException", .fieldLink RX0 23 "FerryRights" "personCount" "I"] ++ wsX00 ++ (vx_atS RX0 164 "java/lang/IndexOutOfBoundsException" ["java/lang/RuntimeException", "java/lang/Exception"]).filter goodWord)
def wsX0_parent : List Cond := .code yX0_parent cX0_parent 2 (some .int) :: ([.classLink RX0 46 "java/lang/IllegalStateException", .initialized "java/lang/IllegalStateException", .fieldLink RX0 36 "FerryRights" "parents" "[I", .methodLink RX0 60 yX0_needPerson, .instanceMethod yX0_needPerson, .selects RX0 yX0_needPerson yX0_needPerson, .initialized RX0, .code yX0_needPerson cX0_needPerson 2 none, .classLink RX0 160 "java/lang/IndexOutOfBoundsException", .initialized "java/lang/IndexOutOfBoundsException", .fieldLink RX0 23 "FerryRights" "personCount" "I"] ++ wsX00 ++ (vx_atS RX0 50 "java/lang/IllegalStateException" ["java/lang/RuntimeException", "java/lang/Exception"]).filter goodWord ++ (vx_atS RX0 164 "java/lang/IndexOutOfBoundsException" ["java/lang/RuntimeException", "java/lang/Exception"]).filter goodWord)
def wsX0_countChildren : List Cond := .code yX0_countChildren cX0_countChildren 4 (some .int) :: ([.fieldLink RX0 23 "FerryRights" "personCount" "I", .fieldLink RX0 36 "FerryRights" "parents" "[I"] ++ wsX00)
def wsX0_children : List Cond := .code yX0_children cX0_children 2 (some .int) :: ([.methodLink RX0 60 yX0_needPerson, .instanceMethod yX0_needPerson, .selects RX0 yX0_needPerson yX0_needPerson, .initialized RX0, .code yX0_needPerson cX0_needPerson 2 none, .classLink RX0 160 "java/lang/IndexOutOfBoundsException", .initialized "java/lang/IndexOutOfBoundsException", .fieldLink RX0 23 "FerryRights" "personCount" "I", .methodLink RX0 154 yX0_countChildren, .instanceMethod yX0_countChildren, .selects RX0 yX0_countChildren yX0_countChildren, .code yX0_countChildren cX0_countChildren 4 (some .int), .fieldLink RX0 36 "FerryRights" "parents" "[I"] ++ wsX00 ++ (vx_atS RX0 164 "java/lang/IndexOutOfBoundsException" ["java/lang/RuntimeException", "java/lang/Exception"]).filter goodWord)
def wsX0_heirs_r1 : List Cond := [Cond.methodLink RX0 60 yX0_needPerson, Cond.instanceMethod yX0_needPerson, Cond.selects RX0 yX0_needPerson yX0_needPerson, Cond.initialized RX0, Cond.code yX0_needPerson cX0_needPerson 2 none, Cond.classLink RX0 160 "java/lang/IndexOutOfBoundsException", Cond.initialized "java/lang/IndexOutOfBoundsException", Cond.fieldLink RX0 23 "FerryRights" "personCount" "I", Cond.methodLink RX0 129 yX0_countHeirs, Cond.instanceMethod yX0_countHeirs, Cond.selects RX0 yX0_countHeirs yX0_countHeirs, Cond.code yX0_countHeirs cX0_countHeirs 2 (some .int), Cond.methodLink RX0 165 yX0_countHeirsBelow, Cond.instanceMethod yX0_countHeirsBelow, Cond.selects RX0 yX0_countHeirsBelow yX0_countHeirsBelow, Cond.code yX0_countHeirsBelow cX0_countHeirsBelow 5 (some .int), Cond.methodLink RX0 132 yX0_isHeir, Cond.instanceMethod yX0_isHeir, Cond.selects RX0 yX0_isHeir yX0_isHeir, Cond.code yX0_isHeir cX0_isHeir 3 (some .boolean), Cond.fieldLink RX0 26 "FerryRights" "alive" "[Z", Cond.fieldLink RX0 36 "FerryRights" "parents" "[I", Cond.methodLink RX0 225 yX0_hasLivingChild, Cond.instanceMethod yX0_hasLivingChild]
def wsX0_heirs_r2 : List Cond := [Cond.selects RX0 yX0_hasLivingChild yX0_hasLivingChild, Cond.code yX0_hasLivingChild cX0_hasLivingChild 3 (some .boolean)]
def wsX0_heirs : List Cond := .code yX0_heirs cX0_heirs 2 (some .int) :: ((wsX0_heirs_r1 ++ wsX0_heirs_r2) ++ wsX00 ++ (vx_atS RX0 164 "java/lang/IndexOutOfBoundsException" ["java/lang/RuntimeException", "java/lang/Exception"]).filter goodWord)
def wsX0_findHeir : List Cond := .code yX0_findHeir cX0_findHeir 5 (some .int) :: ([.fieldLink RX0 23 "FerryRights" "personCount" "I", .methodLink RX0 132 yX0_isHeir, .instanceMethod yX0_isHeir, .selects RX0 yX0_isHeir yX0_isHeir, .initialized RX0, .code yX0_isHeir cX0_isHeir 3 (some .boolean), .fieldLink RX0 26 "FerryRights" "alive" "[Z", .fieldLink RX0 36 "FerryRights" "parents" "[I", .methodLink RX0 225 yX0_hasLivingChild, .instanceMethod yX0_hasLivingChild, .selects RX0 yX0_hasLivingChild yX0_hasLivingChild, .code yX0_hasLivingChild cX0_hasLivingChild 3 (some .boolean)] ++ wsX00)
def wsX0_heir : List Cond := .code yX0_heir cX0_heir 4 (some .int) :: ([.classLink RX0 160 "java/lang/IndexOutOfBoundsException", .initialized "java/lang/IndexOutOfBoundsException", .methodLink RX0 60 yX0_needPerson, .instanceMethod yX0_needPerson, .selects RX0 yX0_needPerson yX0_needPerson, .initialized RX0, .code yX0_needPerson cX0_needPerson 2 none, .fieldLink RX0 23 "FerryRights" "personCount" "I", .methodLink RX0 157 yX0_findHeir, .instanceMethod yX0_findHeir, .selects RX0 yX0_findHeir yX0_findHeir, .code yX0_findHeir cX0_findHeir 5 (some .int), .methodLink RX0 132 yX0_isHeir, .instanceMethod yX0_isHeir, .selects RX0 yX0_isHeir yX0_isHeir, .code yX0_isHeir cX0_isHeir 3 (some .boolean), .fieldLink RX0 26 "FerryRights" "alive" "[Z", .fieldLink RX0 36 "FerryRights" "parents" "[I", .methodLink RX0 225 yX0_hasLivingChild, .instanceMethod yX0_hasLivingChild, .selects RX0 yX0_hasLivingChild yX0_hasLivingChild, .code yX0_hasLivingChild cX0_hasLivingChild 3 (some .boolean)] ++ wsX00 ++ (vx_atS RX0 164 "java/lang/IndexOutOfBoundsException" ["java/lang/RuntimeException", "java/lang/Exception"]).filter goodWord)
def wsX0_crownCoins : List Cond := .code yX0_crownCoins cX0_crownCoins 1 (some .int) :: ([.fieldLink RX0 39 "FerryRights" "crownPurse" "I"] ++ wsX00)
def wsX0_price_r1 : List Cond := [Cond.methodLink RX0 60 yX0_needPerson, Cond.instanceMethod yX0_needPerson, Cond.selects RX0 yX0_needPerson yX0_needPerson, Cond.initialized RX0, Cond.code yX0_needPerson cX0_needPerson 2 none, Cond.classLink RX0 160 "java/lang/IndexOutOfBoundsException", Cond.initialized "java/lang/IndexOutOfBoundsException", Cond.fieldLink RX0 23 "FerryRights" "personCount" "I", Cond.methodLink RX0 75 yX0_needFerry, Cond.instanceMethod yX0_needFerry, Cond.selects RX0 yX0_needFerry yX0_needFerry, Cond.code yX0_needFerry cX0_needFerry 2 none, Cond.fieldLink RX0 9 "FerryRights" "ferryCount" "I", Cond.methodLink RX0 78 yX0_needWatch, Cond.static yX0_needWatch, Cond.code yX0_needWatch cX0_needWatch 1 none, Cond.methodLink RX0 111 yX0_priceOf, Cond.instanceMethod yX0_priceOf, Cond.selects RX0 yX0_priceOf yX0_priceOf, Cond.code yX0_priceOf cX0_priceOf 4 (some .int), Cond.methodLink RX0 96 yX0_owns, Cond.instanceMethod yX0_owns, Cond.selects RX0 yX0_owns yX0_owns, Cond.code yX0_owns cX0_owns 4 (some .int)]
def wsX0_price_r2 : List Cond := [Cond.fieldLink RX0 20 "FerryRights" "sharesOwned" "[I", Cond.methodLink RX0 213 yX0_slot, Cond.static yX0_slot, Cond.code yX0_slot cX0_slot 3 (some .int), Cond.methodLink RX0 146 yX0_worth, Cond.instanceMethod yX0_worth, Cond.selects RX0 yX0_worth yX0_worth, Cond.code yX0_worth cX0_worth 3 (some .int), Cond.fieldLink RX0 13 "FerryRights" "tolls" "[I", Cond.fieldLink RX0 219 "FerryRights" "TRAFFIC" "[I"]
def wsX0_price : List Cond := .code yX0_price cX0_price 4 (some .int) :: ((wsX0_price_r1 ++ wsX0_price_r2) ++ wsX00 ++ (vx_atS RX0 164 "java/lang/IndexOutOfBoundsException" ["java/lang/RuntimeException", "java/lang/Exception"]).filter goodWord)
def wsX0_canBuy_r1 : List Cond := [Cond.methodLink RX0 102 yX0_needSale, Cond.instanceMethod yX0_needSale, Cond.selects RX0 yX0_needSale yX0_needSale, Cond.initialized RX0, Cond.code yX0_needSale cX0_needSale 5 none, Cond.methodLink RX0 60 yX0_needPerson, Cond.instanceMethod yX0_needPerson, Cond.selects RX0 yX0_needPerson yX0_needPerson, Cond.code yX0_needPerson cX0_needPerson 2 none, Cond.classLink RX0 160 "java/lang/IndexOutOfBoundsException", Cond.initialized "java/lang/IndexOutOfBoundsException", Cond.fieldLink RX0 23 "FerryRights" "personCount" "I", Cond.methodLink RX0 75 yX0_needFerry, Cond.instanceMethod yX0_needFerry, Cond.selects RX0 yX0_needFerry yX0_needFerry, Cond.code yX0_needFerry cX0_needFerry 2 none, Cond.fieldLink RX0 9 "FerryRights" "ferryCount" "I", Cond.methodLink RX0 78 yX0_needWatch, Cond.static yX0_needWatch, Cond.code yX0_needWatch cX0_needWatch 1 none, Cond.methodLink RX0 105 yX0_mayBuy, Cond.instanceMethod yX0_mayBuy, Cond.selects RX0 yX0_mayBuy yX0_mayBuy, Cond.code yX0_mayBuy cX0_mayBuy 6 (some .boolean)]
def wsX0_canBuy_r2 : List Cond := [Cond.fieldLink RX0 26 "FerryRights" "alive" "[Z", Cond.fieldLink RX0 30 "FerryRights" "purses" "[I", Cond.methodLink RX0 111 yX0_priceOf, Cond.instanceMethod yX0_priceOf, Cond.selects RX0 yX0_priceOf yX0_priceOf, Cond.code yX0_priceOf cX0_priceOf 4 (some .int), Cond.methodLink RX0 96 yX0_owns, Cond.instanceMethod yX0_owns, Cond.selects RX0 yX0_owns yX0_owns, Cond.code yX0_owns cX0_owns 4 (some .int), Cond.fieldLink RX0 20 "FerryRights" "sharesOwned" "[I", Cond.methodLink RX0 213 yX0_slot, Cond.static yX0_slot, Cond.code yX0_slot cX0_slot 3 (some .int), Cond.methodLink RX0 146 yX0_worth, Cond.instanceMethod yX0_worth, Cond.selects RX0 yX0_worth yX0_worth, Cond.code yX0_worth cX0_worth 3 (some .int), Cond.fieldLink RX0 13 "FerryRights" "tolls" "[I", Cond.fieldLink RX0 219 "FerryRights" "TRAFFIC" "[I", Cond.methodLink RX0 222 yX0_otherOwnerHas, Cond.instanceMethod yX0_otherOwnerHas, Cond.selects RX0 yX0_otherOwnerHas yX0_otherOwnerHas, Cond.code yX0_otherOwnerHas cX0_otherOwnerHas 6 (some .boolean)]
def wsX0_canBuy : List Cond := .code yX0_canBuy cX0_canBuy 5 (some .boolean) :: ((wsX0_canBuy_r1 ++ wsX0_canBuy_r2) ++ wsX00 ++ (vx_atS RX0 164 "java/lang/IndexOutOfBoundsException" ["java/lang/RuntimeException", "java/lang/Exception"]).filter goodWord)
def wsX0_inheritance_r1 : List Cond := [Cond.methodLink RX0 60 yX0_needPerson, Cond.instanceMethod yX0_needPerson, Cond.selects RX0 yX0_needPerson yX0_needPerson, Cond.initialized RX0, Cond.code yX0_needPerson cX0_needPerson 2 none, Cond.classLink RX0 160 "java/lang/IndexOutOfBoundsException", Cond.initialized "java/lang/IndexOutOfBoundsException", Cond.fieldLink RX0 23 "FerryRights" "personCount" "I", Cond.methodLink RX0 75 yX0_needFerry, Cond.instanceMethod yX0_needFerry, Cond.selects RX0 yX0_needFerry yX0_needFerry, Cond.code yX0_needFerry cX0_needFerry 2 none, Cond.fieldLink RX0 9 "FerryRights" "ferryCount" "I", Cond.methodLink RX0 78 yX0_needWatch, Cond.static yX0_needWatch, Cond.code yX0_needWatch cX0_needWatch 1 none, Cond.methodLink RX0 132 yX0_isHeir, Cond.instanceMethod yX0_isHeir, Cond.selects RX0 yX0_isHeir yX0_isHeir, Cond.code yX0_isHeir cX0_isHeir 3 (some .boolean), Cond.fieldLink RX0 26 "FerryRights" "alive" "[Z", Cond.fieldLink RX0 36 "FerryRights" "parents" "[I", Cond.methodLink RX0 225 yX0_hasLivingChild, Cond.instanceMethod yX0_hasLivingChild]
def wsX0_inheritance_r2 : List Cond := [Cond.selects RX0 yX0_hasLivingChild yX0_hasLivingChild, Cond.code yX0_hasLivingChild cX0_hasLivingChild 3 (some .boolean), Cond.methodLink RX0 96 yX0_owns, Cond.instanceMethod yX0_owns, Cond.selects RX0 yX0_owns yX0_owns, Cond.code yX0_owns cX0_owns 4 (some .int), Cond.fieldLink RX0 20 "FerryRights" "sharesOwned" "[I", Cond.methodLink RX0 213 yX0_slot, Cond.static yX0_slot, Cond.code yX0_slot cX0_slot 3 (some .int), Cond.methodLink RX0 129 yX0_countHeirs, Cond.instanceMethod yX0_countHeirs, Cond.selects RX0 yX0_countHeirs yX0_countHeirs, Cond.code yX0_countHeirs cX0_countHeirs 2 (some .int), Cond.methodLink RX0 165 yX0_countHeirsBelow, Cond.instanceMethod yX0_countHeirsBelow, Cond.selects RX0 yX0_countHeirsBelow yX0_countHeirsBelow, Cond.code yX0_countHeirsBelow cX0_countHeirsBelow 5 (some .int), Cond.methodLink RX0 168 yX0_partOf, Cond.static yX0_partOf, Cond.code yX0_partOf cX0_partOf 6 (some .int)]
def wsX0_inheritance : List Cond := .code yX0_inheritance cX0_inheritance 5 (some .int) :: ((wsX0_inheritance_r1 ++ wsX0_inheritance_r2) ++ wsX00 ++ (vx_atS RX0 164 "java/lang/IndexOutOfBoundsException" ["java/lang/RuntimeException", "java/lang/Exception"]).filter goodWord)
def wsX0_fare_r1 : List Cond := [Cond.methodLink RX0 60 yX0_needPerson, Cond.instanceMethod yX0_needPerson, Cond.selects RX0 yX0_needPerson yX0_needPerson, Cond.initialized RX0, Cond.code yX0_needPerson cX0_needPerson 2 none, Cond.classLink RX0 160 "java/lang/IndexOutOfBoundsException", Cond.initialized "java/lang/IndexOutOfBoundsException", Cond.fieldLink RX0 23 "FerryRights" "personCount" "I", Cond.methodLink RX0 75 yX0_needFerry, Cond.instanceMethod yX0_needFerry, Cond.selects RX0 yX0_needFerry yX0_needFerry, Cond.code yX0_needFerry cX0_needFerry 2 none, Cond.fieldLink RX0 9 "FerryRights" "ferryCount" "I", Cond.methodLink RX0 119 yX0_needHour, Cond.static yX0_needHour, Cond.code yX0_needHour cX0_needHour 1 none, Cond.methodLink RX0 122 yX0_needPassengers, Cond.static yX0_needPassengers, Cond.code yX0_needPassengers cX0_needPassengers 1 none, Cond.classLink RX0 66 "java/lang/IllegalArgumentException", Cond.initialized "java/lang/IllegalArgumentException", Cond.methodLink RX0 125 yX0_fareOf, Cond.instanceMethod yX0_fareOf, Cond.selects RX0 yX0_fareOf yX0_fareOf]
def wsX0_fare_r2 : List Cond := [Cond.code yX0_fareOf cX0_fareOf 5 (some .int), Cond.fieldLink RX0 13 "FerryRights" "tolls" "[I", Cond.methodLink RX0 96 yX0_owns, Cond.instanceMethod yX0_owns, Cond.selects RX0 yX0_owns yX0_owns, Cond.code yX0_owns cX0_owns 4 (some .int), Cond.fieldLink RX0 20 "FerryRights" "sharesOwned" "[I", Cond.methodLink RX0 213 yX0_slot, Cond.static yX0_slot, Cond.code yX0_slot cX0_slot 3 (some .int)]
def wsX0_fare : List Cond := .code yX0_fare cX0_fare 5 (some .int) :: ((wsX0_fare_r1 ++ wsX0_fare_r2) ++ wsX00 ++ (vx_atS RX0 164 "java/lang/IndexOutOfBoundsException" ["java/lang/RuntimeException", "java/lang/Exception"]).filter goodWord ++ (vx_atS RX0 70 "java/lang/IllegalArgumentException" ["java/lang/RuntimeException", "java/lang/Exception"]).filter goodWord)
def wsX0_richest : List Cond := .code yX0_richest cX0_richest 4 (some .int) :: ([.classLink RX0 46 "java/lang/IllegalStateException", .initialized "java/lang/IllegalStateException", .fieldLink RX0 23 "FerryRights" "personCount" "I", .fieldLink RX0 26 "FerryRights" "alive" "[Z", .fieldLink RX0 30 "FerryRights" "purses" "[I"] ++ wsX00 ++ (vx_atS RX0 50 "java/lang/IllegalStateException" ["java/lang/RuntimeException", "java/lang/Exception"]).filter goodWord)
def wsX0_meanCoins : List Cond := .code yX0_meanCoins cX0_meanCoins 4 (some .double) :: ([.fieldLink RX0 23 "FerryRights" "personCount" "I", .fieldLink RX0 26 "FerryRights" "alive" "[Z", .fieldLink RX0 30 "FerryRights" "purses" "[I"] ++ wsX00)
def wsX0_mix : List Cond := .code yX0_mix cX0_mix 4 (some .long) :: ([.constantLong RX0 229 (31)])
def wsX0_mixFerry : List Cond := .code yX0_mixFerry cX0_mixFerry 8 (some .long) :: ([.fieldLink RX0 13 "FerryRights" "tolls" "[I", .fieldLink RX0 17 "FerryRights" "passengersCarried" "[I", .fieldLink RX0 23 "FerryRights" "personCount" "I", .methodLink RX0 175 yX0_mix, .static yX0_mix, .initialized RX0, .code yX0_mix cX0_mix 4 (some .long), .constantLong RX0 229 (31), .methodLink RX0 96 yX0_owns, .instanceMethod yX0_owns, .selects RX0 yX0_owns yX0_owns, .code yX0_owns cX0_owns 4 (some .int), .fieldLink RX0 20 "FerryRights" "sharesOwned" "[I", .methodLink RX0 213 yX0_slot, .static yX0_slot, .code yX0_slot cX0_slot 3 (some .int)] ++ wsX00)
def wsX0_mixPerson_r1 : List Cond := [Cond.fieldLink RX0 26 "FerryRights" "alive" "[Z", Cond.fieldLink RX0 30 "FerryRights" "purses" "[I", Cond.fieldLink RX0 33 "FerryRights" "fares" "[I", Cond.methodLink RX0 175 yX0_mix, Cond.static yX0_mix, Cond.initialized RX0, Cond.code yX0_mix cX0_mix 4 (some .long), Cond.constantLong RX0 229 (31), Cond.methodLink RX0 149 yX0_countAllShares, Cond.instanceMethod yX0_countAllShares, Cond.selects RX0 yX0_countAllShares yX0_countAllShares, Cond.code yX0_countAllShares cX0_countAllShares 4 (some .int), Cond.fieldLink RX0 9 "FerryRights" "ferryCount" "I", Cond.methodLink RX0 216 yX0_countSharesOfFerry, Cond.instanceMethod yX0_countSharesOfFerry, Cond.selects RX0 yX0_countSharesOfFerry yX0_countSharesOfFerry, Cond.code yX0_countSharesOfFerry cX0_countSharesOfFerry 5 (some .int), Cond.methodLink RX0 96 yX0_owns, Cond.instanceMethod yX0_owns, Cond.selects RX0 yX0_owns yX0_owns, Cond.code yX0_owns cX0_owns 4 (some .int), Cond.fieldLink RX0 20 "FerryRights" "sharesOwned" "[I", Cond.methodLink RX0 213 yX0_slot, Cond.static yX0_slot]
def wsX0_mixPerson_r2 : List Cond := [Cond.code yX0_slot cX0_slot 3 (some .int), Cond.methodLink RX0 154 yX0_countChildren, Cond.instanceMethod yX0_countChildren, Cond.selects RX0 yX0_countChildren yX0_countChildren, Cond.code yX0_countChildren cX0_countChildren 4 (some .int), Cond.fieldLink RX0 23 "FerryRights" "personCount" "I", Cond.fieldLink RX0 36 "FerryRights" "parents" "[I", Cond.methodLink RX0 129 yX0_countHeirs, Cond.instanceMethod yX0_countHeirs, Cond.selects RX0 yX0_countHeirs yX0_countHeirs, Cond.code yX0_countHeirs cX0_countHeirs 2 (some .int), Cond.methodLink RX0 165 yX0_countHeirsBelow, Cond.instanceMethod yX0_countHeirsBelow, Cond.selects RX0 yX0_countHeirsBelow yX0_countHeirsBelow, Cond.code yX0_countHeirsBelow cX0_countHeirsBelow 5 (some .int), Cond.methodLink RX0 132 yX0_isHeir, Cond.instanceMethod yX0_isHeir, Cond.selects RX0 yX0_isHeir yX0_isHeir, Cond.code yX0_isHeir cX0_isHeir 3 (some .boolean), Cond.methodLink RX0 225 yX0_hasLivingChild, Cond.instanceMethod yX0_hasLivingChild, Cond.selects RX0 yX0_hasLivingChild yX0_hasLivingChild, Cond.code yX0_hasLivingChild cX0_hasLivingChild 3 (some .boolean)]
def wsX0_mixPerson : List Cond := .code yX0_mixPerson cX0_mixPerson 6 (some .long) :: ((wsX0_mixPerson_r1 ++ wsX0_mixPerson_r2) ++ wsX00)
def wsX0_digest_r1 : List Cond := [Cond.constantLong RX0 173 (1861), Cond.fieldLink RX0 9 "FerryRights" "ferryCount" "I", Cond.fieldLink RX0 23 "FerryRights" "personCount" "I", Cond.fieldLink RX0 39 "FerryRights" "crownPurse" "I", Cond.methodLink RX0 175 yX0_mix, Cond.static yX0_mix, Cond.initialized RX0, Cond.code yX0_mix cX0_mix 4 (some .long), Cond.constantLong RX0 229 (31), Cond.methodLink RX0 179 yX0_living, Cond.instanceMethod yX0_living, Cond.selects RX0 yX0_living yX0_living, Cond.code yX0_living cX0_living 3 (some .int), Cond.fieldLink RX0 26 "FerryRights" "alive" "[Z", Cond.methodLink RX0 183 yX0_mixFerry, Cond.instanceMethod yX0_mixFerry, Cond.selects RX0 yX0_mixFerry yX0_mixFerry, Cond.code yX0_mixFerry cX0_mixFerry 8 (some .long), Cond.fieldLink RX0 13 "FerryRights" "tolls" "[I", Cond.fieldLink RX0 17 "FerryRights" "passengersCarried" "[I", Cond.methodLink RX0 96 yX0_owns, Cond.instanceMethod yX0_owns, Cond.selects RX0 yX0_owns yX0_owns, Cond.code yX0_owns cX0_owns 4 (some .int)]
def wsX0_digest_r2 : List Cond := [Cond.fieldLink RX0 20 "FerryRights" "sharesOwned" "[I", Cond.methodLink RX0 213 yX0_slot, Cond.static yX0_slot, Cond.code yX0_slot cX0_slot 3 (some .int), Cond.methodLink RX0 187 yX0_mixPerson, Cond.instanceMethod yX0_mixPerson, Cond.selects RX0 yX0_mixPerson yX0_mixPerson, Cond.code yX0_mixPerson cX0_mixPerson 6 (some .long), Cond.fieldLink RX0 30 "FerryRights" "purses" "[I", Cond.fieldLink RX0 33 "FerryRights" "fares" "[I", Cond.methodLink RX0 149 yX0_countAllShares, Cond.instanceMethod yX0_countAllShares, Cond.selects RX0 yX0_countAllShares yX0_countAllShares, Cond.code yX0_countAllShares cX0_countAllShares 4 (some .int), Cond.methodLink RX0 216 yX0_countSharesOfFerry, Cond.instanceMethod yX0_countSharesOfFerry, Cond.selects RX0 yX0_countSharesOfFerry yX0_countSharesOfFerry, Cond.code yX0_countSharesOfFerry cX0_countSharesOfFerry 5 (some .int), Cond.methodLink RX0 154 yX0_countChildren, Cond.instanceMethod yX0_countChildren, Cond.selects RX0 yX0_countChildren yX0_countChildren, Cond.code yX0_countChildren cX0_countChildren 4 (some .int), Cond.fieldLink RX0 36 "FerryRights" "parents" "[I", Cond.methodLink RX0 129 yX0_countHeirs]
def wsX0_digest_r3 : List Cond := [Cond.instanceMethod yX0_countHeirs, Cond.selects RX0 yX0_countHeirs yX0_countHeirs, Cond.code yX0_countHeirs cX0_countHeirs 2 (some .int), Cond.methodLink RX0 165 yX0_countHeirsBelow, Cond.instanceMethod yX0_countHeirsBelow, Cond.selects RX0 yX0_countHeirsBelow yX0_countHeirsBelow, Cond.code yX0_countHeirsBelow cX0_countHeirsBelow 5 (some .int), Cond.methodLink RX0 132 yX0_isHeir, Cond.instanceMethod yX0_isHeir, Cond.selects RX0 yX0_isHeir yX0_isHeir, Cond.code yX0_isHeir cX0_isHeir 3 (some .boolean), Cond.methodLink RX0 225 yX0_hasLivingChild, Cond.instanceMethod yX0_hasLivingChild, Cond.selects RX0 yX0_hasLivingChild yX0_hasLivingChild, Cond.code yX0_hasLivingChild cX0_hasLivingChild 3 (some .boolean)]
def wsX0_digest : List Cond := .code yX0_digest cX0_digest 4 (some .long) :: ((wsX0_digest_r1 ++ (wsX0_digest_r2 ++ wsX0_digest_r3)) ++ wsX00)
def wsX1_init : List Cond := .code yX1_init cX1_init 1 none :: ([.methodLink RX1 1 objectInit, .instanceMethod objectInit, .code objectInit ⟨#[0xb1]⟩ 1 none, .arrayClass .int, .fieldLink RX1 7 "FerryRightsLaw$Sim" "tolls" "[I", .fieldLink RX1 13 "FerryRightsLaw$Sim" "carried" "[I", .fieldLink RX1 18 "FerryRightsLaw$Sim" "shares" "[[[I", .classLink RX1 22 "[I", .fieldLink RX1 23 "FerryRightsLaw$Sim" "people" "[[I"] ++ wsX10)
def wsX1_more : List Cond := .code yX1_more cX1_more 4 (some (.array .int)) :: ([.arrayClass .int])
def wsX1_addFerry : List Cond := .code yX1_addFerry cX1_addFerry 8 none :: ([.fieldLink RX1 7 "FerryRightsLaw$Sim" "tolls" "[I", .fieldLink RX1 13 "FerryRightsLaw$Sim" "carried" "[I", .fieldLink RX1 18 "FerryRightsLaw$Sim" "shares" "[[[I", .classLink RX1 16 "[[I", .arrayClass .int, .methodLink RX1 26 yX1_more, .static yX1_more, .initialized RX1, .code yX1_more cX1_more 4 (some (.array .int))] ++ wsX10)
def wsX1_addPerson : List Cond := .code yX1_addPerson cX1_addPerson 4 none :: ([.fieldLink RX1 23 "FerryRightsLaw$Sim" "people" "[[I", .classLink RX1 22 "[I", .arrayClass .int] ++ wsX10)
def wsX1_has : List Cond := .code yX1_has cX1_has 9 (some .int) :: ([.fieldLink RX1 18 "FerryRightsLaw$Sim" "shares" "[[[I"] ++ wsX10)
def wsX1_hand : List Cond := .code yX1_hand cX1_hand 8 none :: ([.fieldLink RX1 18 "FerryRightsLaw$Sim" "shares" "[[[I"] ++ wsX10)
def wsX1_value : List Cond := .code yX1_value cX1_value 3 (some .int) :: ([.fieldLink RX1 7 "FerryRightsLaw$Sim" "tolls" "[I"] ++ wsX10)
def wsX1_get : List Cond := .code yX1_get cX1_get 3 none :: ([.fieldLink RX1 23 "FerryRightsLaw$Sim" "people" "[[I", .methodLink RX1 30 Lib.Math.min.name, .static Lib.Math.min.name, .initialized "java/lang/Math", .code Lib.Math.min.name Lib.Math.min.code 2 (some .int)] ++ wsX10)
def wsX1_canBuy : List Cond := .code yX1_canBuy cX1_canBuy 10 (some .boolean) :: ([.fieldLink RX1 23 "FerryRightsLaw$Sim" "people" "[[I", .fieldLink RX1 18 "FerryRightsLaw$Sim" "shares" "[[[I", .methodLink RX1 36 yX1_has, .instanceMethod yX1_has, .selects RX1 yX1_has yX1_has, .initialized RX1, .code yX1_has cX1_has 9 (some .int), .methodLink RX1 40 yX1_value, .instanceMethod yX1_value, .selects RX1 yX1_value yX1_value, .code yX1_value cX1_value 3 (some .int), .fieldLink RX1 7 "FerryRightsLaw$Sim" "tolls" "[I"] ++ wsX10)
def wsX1_of : List Cond := .code yX1_of cX1_of 5 (some .int) :: ([.methodLink RX1 36 yX1_has, .instanceMethod yX1_has, .selects RX1 yX1_has yX1_has, .initialized RX1, .code yX1_has cX1_has 9 (some .int), .fieldLink RX1 18 "FerryRightsLaw$Sim" "shares" "[[[I"] ++ wsX10)
def wsX1_master : List Cond := .code yX1_master cX1_master 4 (some .int) :: ([.fieldLink RX1 23 "FerryRightsLaw$Sim" "people" "[[I", .methodLink RX1 43 yX1_of, .instanceMethod yX1_of, .selects RX1 yX1_of yX1_of, .initialized RX1, .code yX1_of cX1_of 5 (some .int), .methodLink RX1 36 yX1_has, .instanceMethod yX1_has, .selects RX1 yX1_has yX1_has, .code yX1_has cX1_has 9 (some .int), .fieldLink RX1 18 "FerryRightsLaw$Sim" "shares" "[[[I"] ++ wsX10)
def wsX1_living : List Cond := .code yX1_living cX1_living 5 (some (.array .int)) :: ([.arrayClass .int, .fieldLink RX1 23 "FerryRightsLaw$Sim" "people" "[[I", .methodLink RX1 26 yX1_more, .static yX1_more, .initialized RX1, .code yX1_more cX1_more 4 (some (.array .int))] ++ wsX10)
def wsX1_heirs : List Cond := .code yX1_heirs cX1_heirs 3 (some (.array .int)) :: ([.fieldLink RX1 23 "FerryRightsLaw$Sim" "people" "[[I", .methodLink RX1 46 yX1_living, .instanceMethod yX1_living, .selects RX1 yX1_living yX1_living, .initialized RX1, .code yX1_living cX1_living 5 (some (.array .int)), .arrayClass .int, .methodLink RX1 26 yX1_more, .static yX1_more, .code yX1_more cX1_more 4 (some (.array .int))] ++ wsX10)
def wsX1_parts : List Cond := .code yX1_parts cX1_parts 5 (some (.array .int)) :: ([.arrayClass .int])
def wsX1_die_r1 : List Cond := [Cond.fieldLink RX1 7 "FerryRightsLaw$Sim" "tolls" "[I", Cond.fieldLink RX1 23 "FerryRightsLaw$Sim" "people" "[[I", Cond.fieldLink RX1 65 "FerryRightsLaw$Sim" "crownCoins" "I", Cond.methodLink RX1 50 yX1_heirs, Cond.instanceMethod yX1_heirs, Cond.selects RX1 yX1_heirs yX1_heirs, Cond.initialized RX1, Cond.code yX1_heirs cX1_heirs 3 (some (.array .int)), Cond.methodLink RX1 46 yX1_living, Cond.instanceMethod yX1_living, Cond.selects RX1 yX1_living yX1_living, Cond.code yX1_living cX1_living 5 (some (.array .int)), Cond.arrayClass .int, Cond.methodLink RX1 26 yX1_more, Cond.static yX1_more, Cond.code yX1_more cX1_more 4 (some (.array .int)), Cond.methodLink RX1 36 yX1_has, Cond.instanceMethod yX1_has, Cond.selects RX1 yX1_has yX1_has, Cond.code yX1_has cX1_has 9 (some .int), Cond.fieldLink RX1 18 "FerryRightsLaw$Sim" "shares" "[[[I", Cond.methodLink RX1 54 yX1_parts, Cond.static yX1_parts, Cond.code yX1_parts cX1_parts 5 (some (.array .int))]
def wsX1_die_r2 : List Cond := [Cond.methodLink RX1 57 yX1_hand, Cond.instanceMethod yX1_hand, Cond.selects RX1 yX1_hand yX1_hand, Cond.code yX1_hand cX1_hand 8 none, Cond.methodLink RX1 61 yX1_get, Cond.instanceMethod yX1_get, Cond.selects RX1 yX1_get yX1_get, Cond.code yX1_get cX1_get 3 none, Cond.methodLink RX1 30 Lib.Math.min.name, Cond.static Lib.Math.min.name, Cond.initialized "java/lang/Math", Cond.code Lib.Math.min.name Lib.Math.min.code 2 (some .int)]
def wsX1_die : List Cond := .code yX1_die cX1_die 7 none :: ((wsX1_die_r1 ++ wsX1_die_r2) ++ wsX10)
def wsX1_carry : List Cond := .code yX1_carry cX1_carry 8 (some .int) :: ([.fieldLink RX1 7 "FerryRightsLaw$Sim" "tolls" "[I", .fieldLink RX1 23 "FerryRightsLaw$Sim" "people" "[[I", .fieldLink RX1 13 "FerryRightsLaw$Sim" "carried" "[I", .fieldLink RX1 65 "FerryRightsLaw$Sim" "crownCoins" "I", .methodLink RX1 36 yX1_has, .instanceMethod yX1_has, .selects RX1 yX1_has yX1_has, .initialized RX1, .code yX1_has cX1_has 9 (some .int), .fieldLink RX1 18 "FerryRightsLaw$Sim" "shares" "[[[I", .methodLink RX1 61 yX1_get, .instanceMethod yX1_get, .selects RX1 yX1_get yX1_get, .code yX1_get cX1_get 3 none, .methodLink RX1 30 Lib.Math.min.name, .static Lib.Math.min.name, .initialized "java/lang/Math", .code Lib.Math.min.name Lib.Math.min.code 2 (some .int)] ++ wsX10)
def wsX1_isSame_r1 : List Cond := [Cond.fieldLink RX1 23 "FerryRightsLaw$Sim" "people" "[[I", Cond.arrayClass .int, Cond.fieldLink RX1 7 "FerryRightsLaw$Sim" "tolls" "[I", Cond.fieldLink RX1 65 "FerryRightsLaw$Sim" "crownCoins" "I", Cond.fieldLink RX1 13 "FerryRightsLaw$Sim" "carried" "[I", Cond.methodLink RX1 69 yX0_ferries, Cond.instanceMethod yX0_ferries, Cond.selects RX0 yX0_ferries yX0_ferries, Cond.initialized RX0, Cond.code yX0_ferries cX0_ferries 1 (some .int), Cond.fieldLink RX0 9 "FerryRights" "ferryCount" "I", Cond.methodLink RX1 75 yX0_people, Cond.instanceMethod yX0_people, Cond.selects RX0 yX0_people yX0_people, Cond.code yX0_people cX0_people 1 (some .int), Cond.fieldLink RX0 23 "FerryRights" "personCount" "I", Cond.methodLink RX1 77 yX0_crownCoins, Cond.instanceMethod yX0_crownCoins, Cond.selects RX0 yX0_crownCoins yX0_crownCoins, Cond.code yX0_crownCoins cX0_crownCoins 1 (some .int), Cond.fieldLink RX0 39 "FerryRights" "crownPurse" "I", Cond.methodLink RX1 79 yX1_master, Cond.instanceMethod yX1_master, Cond.selects RX1 yX1_master yX1_master]
def wsX1_isSame_r2 : List Cond := [Cond.initialized RX1, Cond.code yX1_master cX1_master 4 (some .int), Cond.methodLink RX1 43 yX1_of, Cond.instanceMethod yX1_of, Cond.selects RX1 yX1_of yX1_of, Cond.code yX1_of cX1_of 5 (some .int), Cond.methodLink RX1 36 yX1_has, Cond.instanceMethod yX1_has, Cond.selects RX1 yX1_has yX1_has, Cond.code yX1_has cX1_has 9 (some .int), Cond.fieldLink RX1 18 "FerryRightsLaw$Sim" "shares" "[[[I", Cond.methodLink RX1 83 yX0_toll, Cond.instanceMethod yX0_toll, Cond.selects RX0 yX0_toll yX0_toll, Cond.code yX0_toll cX0_toll 2 (some .int), Cond.fieldLink RX0 13 "FerryRights" "tolls" "[I", Cond.methodLink RX0 75 yX0_needFerry, Cond.instanceMethod yX0_needFerry, Cond.selects RX0 yX0_needFerry yX0_needFerry, Cond.code yX0_needFerry cX0_needFerry 2 none, Cond.classLink RX0 160 "java/lang/IndexOutOfBoundsException", Cond.initialized "java/lang/IndexOutOfBoundsException", Cond.methodLink RX1 86 yX0_carried, Cond.instanceMethod yX0_carried]
def wsX1_isSame_r3 : List Cond := [Cond.selects RX0 yX0_carried yX0_carried, Cond.code yX0_carried cX0_carried 2 (some .int), Cond.fieldLink RX0 17 "FerryRights" "passengersCarried" "[I", Cond.methodLink RX1 88 yX0_hasMaster, Cond.instanceMethod yX0_hasMaster, Cond.selects RX0 yX0_hasMaster yX0_hasMaster, Cond.code yX0_hasMaster cX0_hasMaster 2 (some .boolean), Cond.methodLink RX0 114 yX0_findMaster, Cond.instanceMethod yX0_findMaster, Cond.selects RX0 yX0_findMaster yX0_findMaster, Cond.code yX0_findMaster cX0_findMaster 3 (some .int), Cond.methodLink RX0 216 yX0_countSharesOfFerry, Cond.instanceMethod yX0_countSharesOfFerry, Cond.selects RX0 yX0_countSharesOfFerry yX0_countSharesOfFerry, Cond.code yX0_countSharesOfFerry cX0_countSharesOfFerry 5 (some .int), Cond.methodLink RX0 96 yX0_owns, Cond.instanceMethod yX0_owns, Cond.selects RX0 yX0_owns yX0_owns, Cond.code yX0_owns cX0_owns 4 (some .int), Cond.fieldLink RX0 20 "FerryRights" "sharesOwned" "[I", Cond.methodLink RX0 213 yX0_slot, Cond.static yX0_slot, Cond.code yX0_slot cX0_slot 3 (some .int), Cond.methodLink RX1 92 yX0_master]
def wsX1_isSame_r4 : List Cond := [Cond.instanceMethod yX0_master, Cond.selects RX0 yX0_master yX0_master, Cond.code yX0_master cX0_master 3 (some .int), Cond.classLink RX0 46 "java/lang/IllegalStateException", Cond.initialized "java/lang/IllegalStateException", Cond.methodLink RX1 93 yX0_shares, Cond.instanceMethod yX0_shares, Cond.selects RX0 yX0_shares yX0_shares, Cond.code yX0_shares cX0_shares 4 (some .int), Cond.methodLink RX0 78 yX0_needWatch, Cond.static yX0_needWatch, Cond.code yX0_needWatch cX0_needWatch 1 none, Cond.methodLink RX0 60 yX0_needPerson, Cond.instanceMethod yX0_needPerson, Cond.selects RX0 yX0_needPerson yX0_needPerson, Cond.code yX0_needPerson cX0_needPerson 2 none, Cond.methodLink RX1 95 yX0_price, Cond.instanceMethod yX0_price, Cond.selects RX0 yX0_price yX0_price, Cond.code yX0_price cX0_price 4 (some .int), Cond.methodLink RX0 111 yX0_priceOf, Cond.instanceMethod yX0_priceOf, Cond.selects RX0 yX0_priceOf yX0_priceOf, Cond.code yX0_priceOf cX0_priceOf 4 (some .int)]
def wsX1_isSame_r5 : List Cond := [Cond.methodLink RX0 146 yX0_worth, Cond.instanceMethod yX0_worth, Cond.selects RX0 yX0_worth yX0_worth, Cond.code yX0_worth cX0_worth 3 (some .int), Cond.fieldLink RX0 219 "FerryRights" "TRAFFIC" "[I", Cond.methodLink RX1 40 yX1_value, Cond.instanceMethod yX1_value, Cond.selects RX1 yX1_value yX1_value, Cond.code yX1_value cX1_value 3 (some .int), Cond.methodLink RX1 98 yX0_owners, Cond.instanceMethod yX0_owners, Cond.selects RX0 yX0_owners yX0_owners, Cond.code yX0_owners cX0_owners 5 (some .int), Cond.methodLink RX1 101 yX0_holder, Cond.instanceMethod yX0_holder, Cond.selects RX0 yX0_holder yX0_holder, Cond.code yX0_holder cX0_holder 7 (some .int), Cond.methodLink RX1 104 yX0_crownShares, Cond.instanceMethod yX0_crownShares, Cond.selects RX0 yX0_crownShares yX0_crownShares, Cond.code yX0_crownShares cX0_crownShares 3 (some .int), Cond.methodLink RX0 84 yX0_crownOwns, Cond.instanceMethod yX0_crownOwns, Cond.selects RX0 yX0_crownOwns yX0_crownOwns]
def wsX1_isSame_r6 : List Cond := [Cond.code yX0_crownOwns cX0_crownOwns 5 (some .int), Cond.methodLink RX1 107 yX0_shareValue, Cond.instanceMethod yX0_shareValue, Cond.selects RX0 yX0_shareValue yX0_shareValue, Cond.code yX0_shareValue cX0_shareValue 3 (some .int), Cond.methodLink RX1 50 yX1_heirs, Cond.instanceMethod yX1_heirs, Cond.selects RX1 yX1_heirs yX1_heirs, Cond.code yX1_heirs cX1_heirs 3 (some (.array .int)), Cond.methodLink RX1 46 yX1_living, Cond.instanceMethod yX1_living, Cond.selects RX1 yX1_living yX1_living, Cond.code yX1_living cX1_living 5 (some (.array .int)), Cond.methodLink RX1 26 yX1_more, Cond.static yX1_more, Cond.code yX1_more cX1_more 4 (some (.array .int)), Cond.methodLink RX1 110 yX0_isAlive, Cond.instanceMethod yX0_isAlive, Cond.selects RX0 yX0_isAlive yX0_isAlive, Cond.code yX0_isAlive cX0_isAlive 2 (some .boolean), Cond.fieldLink RX0 26 "FerryRights" "alive" "[Z", Cond.methodLink RX1 113 yX0_coins, Cond.instanceMethod yX0_coins, Cond.selects RX0 yX0_coins yX0_coins]
def wsX1_isSame_r7 : List Cond := [Cond.code yX0_coins cX0_coins 2 (some .int), Cond.fieldLink RX0 30 "FerryRights" "purses" "[I", Cond.methodLink RX1 116 yX0_earned, Cond.instanceMethod yX0_earned, Cond.selects RX0 yX0_earned yX0_earned, Cond.code yX0_earned cX0_earned 2 (some .int), Cond.fieldLink RX0 33 "FerryRights" "fares" "[I", Cond.methodLink RX1 119 yX0_hasParent, Cond.instanceMethod yX0_hasParent, Cond.selects RX0 yX0_hasParent yX0_hasParent, Cond.code yX0_hasParent cX0_hasParent 2 (some .boolean), Cond.fieldLink RX0 36 "FerryRights" "parents" "[I", Cond.methodLink RX1 122 yX0_parent, Cond.instanceMethod yX0_parent, Cond.selects RX0 yX0_parent yX0_parent, Cond.code yX0_parent cX0_parent 2 (some .int), Cond.methodLink RX1 125 yX0_children, Cond.instanceMethod yX0_children, Cond.selects RX0 yX0_children yX0_children, Cond.code yX0_children cX0_children 2 (some .int), Cond.methodLink RX0 154 yX0_countChildren, Cond.instanceMethod yX0_countChildren, Cond.selects RX0 yX0_countChildren yX0_countChildren, Cond.code yX0_countChildren cX0_countChildren 4 (some .int)]
def wsX1_isSame_r8 : List Cond := [Cond.methodLink RX1 128 yX0_allShares, Cond.instanceMethod yX0_allShares, Cond.selects RX0 yX0_allShares yX0_allShares, Cond.code yX0_allShares cX0_allShares 2 (some .int), Cond.methodLink RX0 149 yX0_countAllShares, Cond.instanceMethod yX0_countAllShares, Cond.selects RX0 yX0_countAllShares yX0_countAllShares, Cond.code yX0_countAllShares cX0_countAllShares 4 (some .int), Cond.methodLink RX1 131 yX0_heirs, Cond.instanceMethod yX0_heirs, Cond.selects RX0 yX0_heirs yX0_heirs, Cond.code yX0_heirs cX0_heirs 2 (some .int), Cond.methodLink RX0 129 yX0_countHeirs, Cond.instanceMethod yX0_countHeirs, Cond.selects RX0 yX0_countHeirs yX0_countHeirs, Cond.code yX0_countHeirs cX0_countHeirs 2 (some .int), Cond.methodLink RX0 165 yX0_countHeirsBelow, Cond.instanceMethod yX0_countHeirsBelow, Cond.selects RX0 yX0_countHeirsBelow yX0_countHeirsBelow, Cond.code yX0_countHeirsBelow cX0_countHeirsBelow 5 (some .int), Cond.methodLink RX0 132 yX0_isHeir, Cond.instanceMethod yX0_isHeir, Cond.selects RX0 yX0_isHeir yX0_isHeir, Cond.code yX0_isHeir cX0_isHeir 3 (some .boolean)]
def wsX1_isSame_r9 : List Cond := [Cond.methodLink RX0 225 yX0_hasLivingChild, Cond.instanceMethod yX0_hasLivingChild, Cond.selects RX0 yX0_hasLivingChild yX0_hasLivingChild, Cond.code yX0_hasLivingChild cX0_hasLivingChild 3 (some .boolean), Cond.methodLink RX1 133 yX0_heir, Cond.instanceMethod yX0_heir, Cond.selects RX0 yX0_heir yX0_heir, Cond.code yX0_heir cX0_heir 4 (some .int), Cond.methodLink RX0 157 yX0_findHeir, Cond.instanceMethod yX0_findHeir, Cond.selects RX0 yX0_findHeir yX0_findHeir, Cond.code yX0_findHeir cX0_findHeir 5 (some .int), Cond.methodLink RX1 136 yX0_living, Cond.instanceMethod yX0_living, Cond.selects RX0 yX0_living yX0_living, Cond.code yX0_living cX0_living 3 (some .int), Cond.methodLink RX1 138 yX0_richest, Cond.instanceMethod yX0_richest, Cond.selects RX0 yX0_richest yX0_richest, Cond.code yX0_richest cX0_richest 4 (some .int), Cond.methodLink RX1 141 yX0_meanCoins, Cond.instanceMethod yX0_meanCoins, Cond.selects RX0 yX0_meanCoins yX0_meanCoins, Cond.code yX0_meanCoins cX0_meanCoins 4 (some .double)]
def wsX1_isSame : List Cond := .code yX1_isSame cX1_isSame 13 (some .boolean) :: ((wsX1_isSame_r1 ++ (wsX1_isSame_r2 ++ (wsX1_isSame_r3 ++ (wsX1_isSame_r4 ++ (wsX1_isSame_r5 ++ (wsX1_isSame_r6 ++ (wsX1_isSame_r7 ++ (wsX1_isSame_r8 ++ wsX1_isSame_r9)))))))) ++ wsX10 ++ wsX00 ++ (vx_atS RX0 164 "java/lang/IndexOutOfBoundsException" ["java/lang/RuntimeException", "java/lang/Exception"]).filter goodWord ++ (vx_atS RX0 50 "java/lang/IllegalStateException" ["java/lang/RuntimeException", "java/lang/Exception"]).filter goodWord)
def wsJ9_max_7cf53 : List Cond := .code yJ9_max_7cf53 cJ9_max_7cf53 2 (some .int) :: ([])
def wsJ9_min_7cf53 : List Cond := .code yJ9_min_7cf53 cJ9_min_7cf53 2 (some .int) :: ([])
def wsL_below : List Cond := .code yL_below cL_below 2 (some .int) :: ([.constant RL 7 (2147483647)])
def wsL_cell : List Cond := .code yL_cell cL_cell 2 (some .int) :: ([.constant RL 8 (790386105)])
def wsL_act_r1 : List Cond := [Cond.classLink RL 95 "java/lang/IllegalStateException", Cond.fieldLink RL 9 "FerryRightsLaw$Sim" "tolls" "[I", Cond.fieldLink RL 21 "FerryRightsLaw$Sim" "people" "[[I", Cond.methodLink RL 15 yL_below, Cond.static yL_below, Cond.initialized RL, Cond.code yL_below cL_below 2 (some .int), Cond.constant RL 7 (2147483647), Cond.methodLink RL 25 yX1_addFerry, Cond.instanceMethod yX1_addFerry, Cond.selects RX1 yX1_addFerry yX1_addFerry, Cond.initialized RX1, Cond.code yX1_addFerry cX1_addFerry 8 none, Cond.fieldLink RX1 7 "FerryRightsLaw$Sim" "tolls" "[I", Cond.fieldLink RX1 13 "FerryRightsLaw$Sim" "carried" "[I", Cond.fieldLink RX1 18 "FerryRightsLaw$Sim" "shares" "[[[I", Cond.classLink RX1 16 "[[I", Cond.arrayClass .int, Cond.methodLink RX1 26 yX1_more, Cond.static yX1_more, Cond.code yX1_more cX1_more 4 (some (.array .int)), Cond.methodLink RL 29 yX0_addFerry, Cond.instanceMethod yX0_addFerry, Cond.selects RX0 yX0_addFerry yX0_addFerry]
def wsL_act_r2 : List Cond := [Cond.initialized RX0, Cond.code yX0_addFerry cX0_addFerry 3 (some .int), Cond.classLink RX0 46 "java/lang/IllegalStateException", Cond.initialized "java/lang/IllegalStateException", Cond.fieldLink RX0 9 "FerryRights" "ferryCount" "I", Cond.fieldLink RX0 13 "FerryRights" "tolls" "[I", Cond.methodLink RX0 42 yX0_needToll, Cond.static yX0_needToll, Cond.code yX0_needToll cX0_needToll 1 none, Cond.classLink RX0 66 "java/lang/IllegalArgumentException", Cond.initialized "java/lang/IllegalArgumentException", Cond.methodLink RL 34 yX1_addPerson, Cond.instanceMethod yX1_addPerson, Cond.selects RX1 yX1_addPerson yX1_addPerson, Cond.code yX1_addPerson cX1_addPerson 4 none, Cond.fieldLink RX1 23 "FerryRightsLaw$Sim" "people" "[[I", Cond.classLink RX1 22 "[I", Cond.methodLink RL 37 yX0_addPerson, Cond.instanceMethod yX0_addPerson, Cond.selects RX0 yX0_addPerson yX0_addPerson, Cond.code yX0_addPerson cX0_addPerson 1 (some .int), Cond.methodLink RX0 53 yX0_needRoomForPerson, Cond.instanceMethod yX0_needRoomForPerson, Cond.selects RX0 yX0_needRoomForPerson yX0_needRoomForPerson]
def wsL_act_r3 : List Cond := [Cond.code yX0_needRoomForPerson cX0_needRoomForPerson 1 none, Cond.fieldLink RX0 23 "FerryRights" "personCount" "I", Cond.methodLink RX0 56 yX0_settle, Cond.instanceMethod yX0_settle, Cond.selects RX0 yX0_settle yX0_settle, Cond.code yX0_settle cX0_settle 3 (some .int), Cond.fieldLink RX0 26 "FerryRights" "alive" "[Z", Cond.fieldLink RX0 36 "FerryRights" "parents" "[I", Cond.methodLink RL 40 yX0_addChild, Cond.instanceMethod yX0_addChild, Cond.selects RX0 yX0_addChild yX0_addChild, Cond.code yX0_addChild cX0_addChild 2 (some .int), Cond.methodLink RX0 60 yX0_needPerson, Cond.instanceMethod yX0_needPerson, Cond.selects RX0 yX0_needPerson yX0_needPerson, Cond.code yX0_needPerson cX0_needPerson 2 none, Cond.classLink RX0 160 "java/lang/IndexOutOfBoundsException", Cond.initialized "java/lang/IndexOutOfBoundsException", Cond.methodLink RX0 63 yX0_needAlive, Cond.instanceMethod yX0_needAlive, Cond.selects RX0 yX0_needAlive yX0_needAlive, Cond.code yX0_needAlive cX0_needAlive 2 none, Cond.methodLink RL 43 yX1_get, Cond.instanceMethod yX1_get]
def wsL_act_r4 : List Cond := [Cond.selects RX1 yX1_get yX1_get, Cond.code yX1_get cX1_get 3 none, Cond.methodLink RX1 30 Lib.Math.min.name, Cond.static Lib.Math.min.name, Cond.initialized "java/lang/Math", Cond.code Lib.Math.min.name Lib.Math.min.code 2 (some .int), Cond.methodLink RL 47 yX0_pay, Cond.instanceMethod yX0_pay, Cond.selects RX0 yX0_pay yX0_pay, Cond.code yX0_pay cX0_pay 3 (some .int), Cond.fieldLink RX0 30 "FerryRights" "purses" "[I", Cond.methodLink RX0 71 yX0_addCoins, Cond.instanceMethod yX0_addCoins, Cond.selects RX0 yX0_addCoins yX0_addCoins, Cond.code yX0_addCoins cX0_addCoins 3 none, Cond.methodLink RX0 208 Lib.Math.min.name, Cond.methodLink RL 50 yX1_has, Cond.instanceMethod yX1_has, Cond.selects RX1 yX1_has yX1_has, Cond.code yX1_has cX1_has 9 (some .int), Cond.methodLink RL 54 yX1_hand, Cond.instanceMethod yX1_hand, Cond.selects RX1 yX1_hand yX1_hand, Cond.code yX1_hand cX1_hand 8 none]
def wsL_act_r5 : List Cond := [Cond.methodLink RL 58 yX0_grant, Cond.instanceMethod yX0_grant, Cond.selects RX0 yX0_grant yX0_grant, Cond.code yX0_grant cX0_grant 5 (some .int), Cond.methodLink RX0 75 yX0_needFerry, Cond.instanceMethod yX0_needFerry, Cond.selects RX0 yX0_needFerry yX0_needFerry, Cond.code yX0_needFerry cX0_needFerry 2 none, Cond.methodLink RX0 78 yX0_needWatch, Cond.static yX0_needWatch, Cond.code yX0_needWatch cX0_needWatch 1 none, Cond.methodLink RX0 81 yX0_needShares, Cond.static yX0_needShares, Cond.code yX0_needShares cX0_needShares 1 none, Cond.methodLink RX0 84 yX0_crownOwns, Cond.instanceMethod yX0_crownOwns, Cond.selects RX0 yX0_crownOwns yX0_crownOwns, Cond.code yX0_crownOwns cX0_crownOwns 5 (some .int), Cond.methodLink RX0 96 yX0_owns, Cond.instanceMethod yX0_owns, Cond.selects RX0 yX0_owns yX0_owns, Cond.code yX0_owns cX0_owns 4 (some .int), Cond.fieldLink RX0 20 "FerryRights" "sharesOwned" "[I", Cond.methodLink RX0 213 yX0_slot]
def wsL_act_r6 : List Cond := [Cond.static yX0_slot, Cond.code yX0_slot cX0_slot 3 (some .int), Cond.methodLink RX0 90 yX0_addShares, Cond.instanceMethod yX0_addShares, Cond.selects RX0 yX0_addShares yX0_addShares, Cond.code yX0_addShares cX0_addShares 5 none, Cond.methodLink RL 62 yX0_give, Cond.instanceMethod yX0_give, Cond.selects RX0 yX0_give yX0_give, Cond.code yX0_give cX0_give 6 (some .int), Cond.methodLink RL 66 yX1_canBuy, Cond.instanceMethod yX1_canBuy, Cond.selects RX1 yX1_canBuy yX1_canBuy, Cond.code yX1_canBuy cX1_canBuy 10 (some .boolean), Cond.methodLink RX1 36 yX1_has, Cond.methodLink RX1 40 yX1_value, Cond.instanceMethod yX1_value, Cond.selects RX1 yX1_value yX1_value, Cond.code yX1_value cX1_value 3 (some .int), Cond.methodLink RL 70 yX1_value, Cond.methodLink RL 73 yX0_buy, Cond.instanceMethod yX0_buy, Cond.selects RX0 yX0_buy yX0_buy, Cond.code yX0_buy cX0_buy 7 (some .int)]
def wsL_act_r7 : List Cond := [Cond.methodLink RX0 102 yX0_needSale, Cond.instanceMethod yX0_needSale, Cond.selects RX0 yX0_needSale yX0_needSale, Cond.code yX0_needSale cX0_needSale 5 none, Cond.methodLink RX0 105 yX0_mayBuy, Cond.instanceMethod yX0_mayBuy, Cond.selects RX0 yX0_mayBuy yX0_mayBuy, Cond.code yX0_mayBuy cX0_mayBuy 6 (some .boolean), Cond.methodLink RX0 111 yX0_priceOf, Cond.instanceMethod yX0_priceOf, Cond.selects RX0 yX0_priceOf yX0_priceOf, Cond.code yX0_priceOf cX0_priceOf 4 (some .int), Cond.methodLink RX0 146 yX0_worth, Cond.instanceMethod yX0_worth, Cond.selects RX0 yX0_worth yX0_worth, Cond.code yX0_worth cX0_worth 3 (some .int), Cond.fieldLink RX0 219 "FerryRights" "TRAFFIC" "[I", Cond.methodLink RX0 222 yX0_otherOwnerHas, Cond.instanceMethod yX0_otherOwnerHas, Cond.selects RX0 yX0_otherOwnerHas yX0_otherOwnerHas, Cond.code yX0_otherOwnerHas cX0_otherOwnerHas 6 (some .boolean), Cond.methodLink RL 76 yX1_master, Cond.instanceMethod yX1_master, Cond.selects RX1 yX1_master yX1_master]
def wsL_act_r8 : List Cond := [Cond.code yX1_master cX1_master 4 (some .int), Cond.methodLink RX1 43 yX1_of, Cond.instanceMethod yX1_of, Cond.selects RX1 yX1_of yX1_of, Cond.code yX1_of cX1_of 5 (some .int), Cond.methodLink RL 79 yX0_setToll, Cond.instanceMethod yX0_setToll, Cond.selects RX0 yX0_setToll yX0_setToll, Cond.code yX0_setToll cX0_setToll 5 (some .int), Cond.methodLink RX0 114 yX0_findMaster, Cond.instanceMethod yX0_findMaster, Cond.selects RX0 yX0_findMaster yX0_findMaster, Cond.code yX0_findMaster cX0_findMaster 3 (some .int), Cond.methodLink RX0 216 yX0_countSharesOfFerry, Cond.instanceMethod yX0_countSharesOfFerry, Cond.selects RX0 yX0_countSharesOfFerry yX0_countSharesOfFerry, Cond.code yX0_countSharesOfFerry cX0_countSharesOfFerry 5 (some .int), Cond.methodLink RL 82 yX1_heirs, Cond.instanceMethod yX1_heirs, Cond.selects RX1 yX1_heirs yX1_heirs, Cond.code yX1_heirs cX1_heirs 3 (some (.array .int)), Cond.methodLink RX1 46 yX1_living, Cond.instanceMethod yX1_living, Cond.selects RX1 yX1_living yX1_living]
def wsL_act_r9 : List Cond := [Cond.code yX1_living cX1_living 5 (some (.array .int)), Cond.methodLink RL 86 yX1_die, Cond.instanceMethod yX1_die, Cond.selects RX1 yX1_die yX1_die, Cond.code yX1_die cX1_die 7 none, Cond.fieldLink RX1 65 "FerryRightsLaw$Sim" "crownCoins" "I", Cond.methodLink RX1 50 yX1_heirs, Cond.methodLink RX1 54 yX1_parts, Cond.static yX1_parts, Cond.code yX1_parts cX1_parts 5 (some (.array .int)), Cond.methodLink RX1 57 yX1_hand, Cond.methodLink RX1 61 yX1_get, Cond.methodLink RL 89 yX0_die, Cond.instanceMethod yX0_die, Cond.selects RX0 yX0_die yX0_die, Cond.code yX0_die cX0_die 5 (some .int), Cond.fieldLink RX0 39 "FerryRights" "crownPurse" "I", Cond.methodLink RX0 129 yX0_countHeirs, Cond.instanceMethod yX0_countHeirs, Cond.selects RX0 yX0_countHeirs yX0_countHeirs, Cond.code yX0_countHeirs cX0_countHeirs 2 (some .int), Cond.methodLink RX0 165 yX0_countHeirsBelow, Cond.instanceMethod yX0_countHeirsBelow, Cond.selects RX0 yX0_countHeirsBelow yX0_countHeirsBelow]
def wsL_act_r10 : List Cond := [Cond.code yX0_countHeirsBelow cX0_countHeirsBelow 5 (some .int), Cond.methodLink RX0 132 yX0_isHeir, Cond.instanceMethod yX0_isHeir, Cond.selects RX0 yX0_isHeir yX0_isHeir, Cond.code yX0_isHeir cX0_isHeir 3 (some .boolean), Cond.methodLink RX0 225 yX0_hasLivingChild, Cond.instanceMethod yX0_hasLivingChild, Cond.selects RX0 yX0_hasLivingChild yX0_hasLivingChild, Cond.code yX0_hasLivingChild cX0_hasLivingChild 3 (some .boolean), Cond.methodLink RX0 136 yX0_hand, Cond.instanceMethod yX0_hand, Cond.selects RX0 yX0_hand yX0_hand, Cond.code yX0_hand cX0_hand 7 none, Cond.methodLink RX0 168 yX0_partOf, Cond.static yX0_partOf, Cond.code yX0_partOf cX0_partOf 6 (some .int), Cond.methodLink RX0 139 yX0_bury, Cond.instanceMethod yX0_bury, Cond.selects RX0 yX0_bury yX0_bury, Cond.code yX0_bury cX0_bury 4 none, Cond.methodLink RL 91 yX0_carry, Cond.instanceMethod yX0_carry, Cond.selects RX0 yX0_carry yX0_carry, Cond.code yX0_carry cX0_carry 8 (some .int)]
def wsL_act_r11 : List Cond := [Cond.fieldLink RX0 33 "FerryRights" "fares" "[I", Cond.fieldLink RX0 17 "FerryRights" "passengersCarried" "[I", Cond.methodLink RX0 119 yX0_needHour, Cond.static yX0_needHour, Cond.code yX0_needHour cX0_needHour 1 none, Cond.methodLink RX0 122 yX0_needPassengers, Cond.static yX0_needPassengers, Cond.code yX0_needPassengers cX0_needPassengers 1 none, Cond.methodLink RX0 125 yX0_fareOf, Cond.instanceMethod yX0_fareOf, Cond.selects RX0 yX0_fareOf yX0_fareOf, Cond.code yX0_fareOf cX0_fareOf 5 (some .int), Cond.methodLink RL 94 yX1_carry, Cond.instanceMethod yX1_carry, Cond.selects RX1 yX1_carry yX1_carry, Cond.code yX1_carry cX1_carry 8 (some .int)]
def wsL_act : List Cond := .codeWith yL_act cL_act 11 (some .boolean) [(96, 236, 889, 95), (237, 288, 889, 95), (289, 346, 889, 95), (347, 420, 889, 95), (421, 493, 889, 95), (494, 502, 889, 95), (503, 580, 889, 95), (581, 679, 889, 95), (680, 779, 889, 95), (780, 792, 889, 95), (793, 834, 889, 95), (835, 888, 889, 95)] :: ((wsL_act_r1 ++ (wsL_act_r2 ++ (wsL_act_r3 ++ (wsL_act_r4 ++ (wsL_act_r5 ++ (wsL_act_r6 ++ (wsL_act_r7 ++ (wsL_act_r8 ++ (wsL_act_r9 ++ (wsL_act_r10 ++ wsL_act_r11)))))))))) ++ wsX10 ++ wsX00 ++ (vx_atS RX0 50 "java/lang/IllegalStateException" ["java/lang/RuntimeException", "java/lang/Exception"]).filter goodWord ++ (vx_atS RX0 70 "java/lang/IllegalArgumentException" ["java/lang/RuntimeException", "java/lang/Exception"]).filter goodWord ++ (vx_atS RX0 164 "java/lang/IndexOutOfBoundsException" ["java/lang/RuntimeException", "java/lang/Exception"]).filter goodWord)
def wsL_build_r1 : List Cond := [Cond.classLink RL 10 RX1, Cond.instantiable RX1 5, Cond.initialized RX1, Cond.fieldLink RL 9 "FerryRightsLaw$Sim" "tolls" "[I", Cond.fieldLink RL 21 "FerryRightsLaw$Sim" "people" "[[I", Cond.instanceMethod yX1_init, Cond.code yX1_init cX1_init 1 none, Cond.methodLink RX1 1 objectInit, Cond.instanceMethod objectInit, Cond.code objectInit ⟨#[0xb1]⟩ 1 none, Cond.arrayClass .int, Cond.fieldLink RX1 7 "FerryRightsLaw$Sim" "tolls" "[I", Cond.fieldLink RX1 13 "FerryRightsLaw$Sim" "carried" "[I", Cond.fieldLink RX1 18 "FerryRightsLaw$Sim" "shares" "[[[I", Cond.classLink RX1 22 "[I", Cond.fieldLink RX1 23 "FerryRightsLaw$Sim" "people" "[[I", Cond.methodLink RL 98 yL_cell, Cond.static yL_cell, Cond.initialized RL, Cond.code yL_cell cL_cell 2 (some .int), Cond.constant RL 8 (790386105), Cond.methodLink RL 15 yL_below, Cond.static yL_below, Cond.code yL_below cL_below 2 (some .int)]
def wsL_build_r2 : List Cond := [Cond.constant RL 7 (2147483647), Cond.methodLink RL 25 yX1_addFerry, Cond.instanceMethod yX1_addFerry, Cond.selects RX1 yX1_addFerry yX1_addFerry, Cond.code yX1_addFerry cX1_addFerry 8 none, Cond.classLink RX1 16 "[[I", Cond.methodLink RX1 26 yX1_more, Cond.static yX1_more, Cond.code yX1_more cX1_more 4 (some (.array .int)), Cond.methodLink RL 29 yX0_addFerry, Cond.instanceMethod yX0_addFerry, Cond.selects RX0 yX0_addFerry yX0_addFerry, Cond.initialized RX0, Cond.code yX0_addFerry cX0_addFerry 3 (some .int), Cond.classLink RX0 46 "java/lang/IllegalStateException", Cond.initialized "java/lang/IllegalStateException", Cond.fieldLink RX0 9 "FerryRights" "ferryCount" "I", Cond.fieldLink RX0 13 "FerryRights" "tolls" "[I", Cond.methodLink RX0 42 yX0_needToll, Cond.static yX0_needToll, Cond.code yX0_needToll cX0_needToll 1 none, Cond.classLink RX0 66 "java/lang/IllegalArgumentException", Cond.initialized "java/lang/IllegalArgumentException", Cond.methodLink RL 34 yX1_addPerson]
def wsL_build_r3 : List Cond := [Cond.instanceMethod yX1_addPerson, Cond.selects RX1 yX1_addPerson yX1_addPerson, Cond.code yX1_addPerson cX1_addPerson 4 none, Cond.methodLink RL 37 yX0_addPerson, Cond.instanceMethod yX0_addPerson, Cond.selects RX0 yX0_addPerson yX0_addPerson, Cond.code yX0_addPerson cX0_addPerson 1 (some .int), Cond.methodLink RX0 53 yX0_needRoomForPerson, Cond.instanceMethod yX0_needRoomForPerson, Cond.selects RX0 yX0_needRoomForPerson yX0_needRoomForPerson, Cond.code yX0_needRoomForPerson cX0_needRoomForPerson 1 none, Cond.fieldLink RX0 23 "FerryRights" "personCount" "I", Cond.methodLink RX0 56 yX0_settle, Cond.instanceMethod yX0_settle, Cond.selects RX0 yX0_settle yX0_settle, Cond.code yX0_settle cX0_settle 3 (some .int), Cond.fieldLink RX0 26 "FerryRights" "alive" "[Z", Cond.fieldLink RX0 36 "FerryRights" "parents" "[I", Cond.methodLink RL 40 yX0_addChild, Cond.instanceMethod yX0_addChild, Cond.selects RX0 yX0_addChild yX0_addChild, Cond.code yX0_addChild cX0_addChild 2 (some .int), Cond.methodLink RX0 60 yX0_needPerson, Cond.instanceMethod yX0_needPerson]
def wsL_build_r4 : List Cond := [Cond.selects RX0 yX0_needPerson yX0_needPerson, Cond.code yX0_needPerson cX0_needPerson 2 none, Cond.classLink RX0 160 "java/lang/IndexOutOfBoundsException", Cond.initialized "java/lang/IndexOutOfBoundsException", Cond.methodLink RX0 63 yX0_needAlive, Cond.instanceMethod yX0_needAlive, Cond.selects RX0 yX0_needAlive yX0_needAlive, Cond.code yX0_needAlive cX0_needAlive 2 none, Cond.methodLink RL 50 yX1_has, Cond.instanceMethod yX1_has, Cond.selects RX1 yX1_has yX1_has, Cond.code yX1_has cX1_has 9 (some .int), Cond.methodLink RL 54 yX1_hand, Cond.instanceMethod yX1_hand, Cond.selects RX1 yX1_hand yX1_hand, Cond.code yX1_hand cX1_hand 8 none, Cond.methodLink RL 58 yX0_grant, Cond.instanceMethod yX0_grant, Cond.selects RX0 yX0_grant yX0_grant, Cond.code yX0_grant cX0_grant 5 (some .int), Cond.methodLink RX0 75 yX0_needFerry, Cond.instanceMethod yX0_needFerry, Cond.selects RX0 yX0_needFerry yX0_needFerry, Cond.code yX0_needFerry cX0_needFerry 2 none]
def wsL_build_r5 : List Cond := [Cond.methodLink RX0 78 yX0_needWatch, Cond.static yX0_needWatch, Cond.code yX0_needWatch cX0_needWatch 1 none, Cond.methodLink RX0 81 yX0_needShares, Cond.static yX0_needShares, Cond.code yX0_needShares cX0_needShares 1 none, Cond.methodLink RX0 84 yX0_crownOwns, Cond.instanceMethod yX0_crownOwns, Cond.selects RX0 yX0_crownOwns yX0_crownOwns, Cond.code yX0_crownOwns cX0_crownOwns 5 (some .int), Cond.methodLink RX0 96 yX0_owns, Cond.instanceMethod yX0_owns, Cond.selects RX0 yX0_owns yX0_owns, Cond.code yX0_owns cX0_owns 4 (some .int), Cond.fieldLink RX0 20 "FerryRights" "sharesOwned" "[I", Cond.methodLink RX0 213 yX0_slot, Cond.static yX0_slot, Cond.code yX0_slot cX0_slot 3 (some .int), Cond.methodLink RX0 90 yX0_addShares, Cond.instanceMethod yX0_addShares, Cond.selects RX0 yX0_addShares yX0_addShares, Cond.code yX0_addShares cX0_addShares 5 none, Cond.methodLink RL 43 yX1_get, Cond.instanceMethod yX1_get]
def wsL_build_r6 : List Cond := [Cond.selects RX1 yX1_get yX1_get, Cond.code yX1_get cX1_get 3 none, Cond.methodLink RX1 30 Lib.Math.min.name, Cond.static Lib.Math.min.name, Cond.initialized "java/lang/Math", Cond.code Lib.Math.min.name Lib.Math.min.code 2 (some .int), Cond.methodLink RL 47 yX0_pay, Cond.instanceMethod yX0_pay, Cond.selects RX0 yX0_pay yX0_pay, Cond.code yX0_pay cX0_pay 3 (some .int), Cond.fieldLink RX0 30 "FerryRights" "purses" "[I", Cond.methodLink RX0 71 yX0_addCoins, Cond.instanceMethod yX0_addCoins, Cond.selects RX0 yX0_addCoins yX0_addCoins, Cond.code yX0_addCoins cX0_addCoins 3 none, Cond.methodLink RX0 208 Lib.Math.min.name]
def wsL_build : List Cond := .code yL_build cL_build 11 (some (.object "FerryRightsLaw$Sim")) :: ((wsL_build_r1 ++ (wsL_build_r2 ++ (wsL_build_r3 ++ (wsL_build_r4 ++ (wsL_build_r5 ++ wsL_build_r6))))) ++ wsX10 ++ wsX00 ++ (vx_atS RX0 50 "java/lang/IllegalStateException" ["java/lang/RuntimeException", "java/lang/Exception"]).filter goodWord ++ (vx_atS RX0 70 "java/lang/IllegalArgumentException" ["java/lang/RuntimeException", "java/lang/Exception"]).filter goodWord ++ (vx_atS RX0 164 "java/lang/IndexOutOfBoundsException" ["java/lang/RuntimeException", "java/lang/Exception"]).filter goodWord)
def wsL_law0_r1 : List Cond := [Cond.classLink RL 30 RX0, Cond.instantiable RX0 10, Cond.initialized RX0, Cond.methodLink RL 136 Lib.Math.max.name, Cond.static Lib.Math.max.name, Cond.initialized "java/lang/Math", Cond.code Lib.Math.max.name Lib.Math.max.code 2 (some .int), Cond.arrayClass .int, Cond.methodLink RL 187 Lib.Math.min.name, Cond.static Lib.Math.min.name, Cond.code Lib.Math.min.name Lib.Math.min.code 2 (some .int), Cond.methodLink RL 102 yX0_init, Cond.instanceMethod yX0_init, Cond.code yX0_init cX0_init 1 none, Cond.methodLink RX0 3 objectInit, Cond.instanceMethod objectInit, Cond.code objectInit ⟨#[0xb1]⟩ 1 none, Cond.fieldLink RX0 9 "FerryRights" "ferryCount" "I", Cond.fieldLink RX0 13 "FerryRights" "tolls" "[I", Cond.fieldLink RX0 17 "FerryRights" "passengersCarried" "[I", Cond.fieldLink RX0 20 "FerryRights" "sharesOwned" "[I", Cond.fieldLink RX0 23 "FerryRights" "personCount" "I", Cond.arrayClass .boolean, Cond.fieldLink RX0 26 "FerryRights" "alive" "[Z"]
def wsL_law0_r2 : List Cond := [Cond.fieldLink RX0 30 "FerryRights" "purses" "[I", Cond.fieldLink RX0 33 "FerryRights" "fares" "[I", Cond.fieldLink RX0 36 "FerryRights" "parents" "[I", Cond.fieldLink RX0 39 "FerryRights" "crownPurse" "I", Cond.methodLink RL 103 yL_build, Cond.static yL_build, Cond.initialized RL, Cond.code yL_build cL_build 11 (some (.object "FerryRightsLaw$Sim")), Cond.classLink RL 10 RX1, Cond.instantiable RX1 5, Cond.initialized RX1, Cond.fieldLink RL 9 "FerryRightsLaw$Sim" "tolls" "[I", Cond.fieldLink RL 21 "FerryRightsLaw$Sim" "people" "[[I", Cond.instanceMethod yX1_init, Cond.code yX1_init cX1_init 1 none, Cond.methodLink RX1 1 objectInit, Cond.fieldLink RX1 7 "FerryRightsLaw$Sim" "tolls" "[I", Cond.fieldLink RX1 13 "FerryRightsLaw$Sim" "carried" "[I", Cond.fieldLink RX1 18 "FerryRightsLaw$Sim" "shares" "[[[I", Cond.classLink RX1 22 "[I", Cond.fieldLink RX1 23 "FerryRightsLaw$Sim" "people" "[[I", Cond.methodLink RL 98 yL_cell, Cond.static yL_cell, Cond.code yL_cell cL_cell 2 (some .int)]
def wsL_law0_r3 : List Cond := [Cond.constant RL 8 (790386105), Cond.methodLink RL 15 yL_below, Cond.static yL_below, Cond.code yL_below cL_below 2 (some .int), Cond.constant RL 7 (2147483647), Cond.methodLink RL 25 yX1_addFerry, Cond.instanceMethod yX1_addFerry, Cond.selects RX1 yX1_addFerry yX1_addFerry, Cond.code yX1_addFerry cX1_addFerry 8 none, Cond.classLink RX1 16 "[[I", Cond.methodLink RX1 26 yX1_more, Cond.static yX1_more, Cond.code yX1_more cX1_more 4 (some (.array .int)), Cond.methodLink RL 29 yX0_addFerry, Cond.instanceMethod yX0_addFerry, Cond.selects RX0 yX0_addFerry yX0_addFerry, Cond.code yX0_addFerry cX0_addFerry 3 (some .int), Cond.classLink RX0 46 "java/lang/IllegalStateException", Cond.initialized "java/lang/IllegalStateException", Cond.methodLink RX0 42 yX0_needToll, Cond.static yX0_needToll, Cond.code yX0_needToll cX0_needToll 1 none, Cond.classLink RX0 66 "java/lang/IllegalArgumentException", Cond.initialized "java/lang/IllegalArgumentException"]
def wsL_law0_r4 : List Cond := [Cond.methodLink RL 34 yX1_addPerson, Cond.instanceMethod yX1_addPerson, Cond.selects RX1 yX1_addPerson yX1_addPerson, Cond.code yX1_addPerson cX1_addPerson 4 none, Cond.methodLink RL 37 yX0_addPerson, Cond.instanceMethod yX0_addPerson, Cond.selects RX0 yX0_addPerson yX0_addPerson, Cond.code yX0_addPerson cX0_addPerson 1 (some .int), Cond.methodLink RX0 53 yX0_needRoomForPerson, Cond.instanceMethod yX0_needRoomForPerson, Cond.selects RX0 yX0_needRoomForPerson yX0_needRoomForPerson, Cond.code yX0_needRoomForPerson cX0_needRoomForPerson 1 none, Cond.methodLink RX0 56 yX0_settle, Cond.instanceMethod yX0_settle, Cond.selects RX0 yX0_settle yX0_settle, Cond.code yX0_settle cX0_settle 3 (some .int), Cond.methodLink RL 40 yX0_addChild, Cond.instanceMethod yX0_addChild, Cond.selects RX0 yX0_addChild yX0_addChild, Cond.code yX0_addChild cX0_addChild 2 (some .int), Cond.methodLink RX0 60 yX0_needPerson, Cond.instanceMethod yX0_needPerson, Cond.selects RX0 yX0_needPerson yX0_needPerson, Cond.code yX0_needPerson cX0_needPerson 2 none]
def wsL_law0_r5 : List Cond := [Cond.classLink RX0 160 "java/lang/IndexOutOfBoundsException", Cond.initialized "java/lang/IndexOutOfBoundsException", Cond.methodLink RX0 63 yX0_needAlive, Cond.instanceMethod yX0_needAlive, Cond.selects RX0 yX0_needAlive yX0_needAlive, Cond.code yX0_needAlive cX0_needAlive 2 none, Cond.methodLink RL 50 yX1_has, Cond.instanceMethod yX1_has, Cond.selects RX1 yX1_has yX1_has, Cond.code yX1_has cX1_has 9 (some .int), Cond.methodLink RL 54 yX1_hand, Cond.instanceMethod yX1_hand, Cond.selects RX1 yX1_hand yX1_hand, Cond.code yX1_hand cX1_hand 8 none, Cond.methodLink RL 58 yX0_grant, Cond.instanceMethod yX0_grant, Cond.selects RX0 yX0_grant yX0_grant, Cond.code yX0_grant cX0_grant 5 (some .int), Cond.methodLink RX0 75 yX0_needFerry, Cond.instanceMethod yX0_needFerry, Cond.selects RX0 yX0_needFerry yX0_needFerry, Cond.code yX0_needFerry cX0_needFerry 2 none, Cond.methodLink RX0 78 yX0_needWatch, Cond.static yX0_needWatch]
def wsL_law0_r6 : List Cond := [Cond.code yX0_needWatch cX0_needWatch 1 none, Cond.methodLink RX0 81 yX0_needShares, Cond.static yX0_needShares, Cond.code yX0_needShares cX0_needShares 1 none, Cond.methodLink RX0 84 yX0_crownOwns, Cond.instanceMethod yX0_crownOwns, Cond.selects RX0 yX0_crownOwns yX0_crownOwns, Cond.code yX0_crownOwns cX0_crownOwns 5 (some .int), Cond.methodLink RX0 96 yX0_owns, Cond.instanceMethod yX0_owns, Cond.selects RX0 yX0_owns yX0_owns, Cond.code yX0_owns cX0_owns 4 (some .int), Cond.methodLink RX0 213 yX0_slot, Cond.static yX0_slot, Cond.code yX0_slot cX0_slot 3 (some .int), Cond.methodLink RX0 90 yX0_addShares, Cond.instanceMethod yX0_addShares, Cond.selects RX0 yX0_addShares yX0_addShares, Cond.code yX0_addShares cX0_addShares 5 none, Cond.methodLink RL 43 yX1_get, Cond.instanceMethod yX1_get, Cond.selects RX1 yX1_get yX1_get, Cond.code yX1_get cX1_get 3 none, Cond.methodLink RX1 30 Lib.Math.min.name]
def wsL_law0_r7 : List Cond := [Cond.methodLink RL 47 yX0_pay, Cond.instanceMethod yX0_pay, Cond.selects RX0 yX0_pay yX0_pay, Cond.code yX0_pay cX0_pay 3 (some .int), Cond.methodLink RX0 71 yX0_addCoins, Cond.instanceMethod yX0_addCoins, Cond.selects RX0 yX0_addCoins yX0_addCoins, Cond.code yX0_addCoins cX0_addCoins 3 none, Cond.methodLink RX0 208 Lib.Math.min.name, Cond.methodLink RL 107 yL_act, Cond.static yL_act, Cond.codeWith yL_act cL_act 11 (some .boolean) [(96, 236, 889, 95), (237, 288, 889, 95), (289, 346, 889, 95), (347, 420, 889, 95), (421, 493, 889, 95), (494, 502, 889, 95), (503, 580, 889, 95), (581, 679, 889, 95), (680, 779, 889, 95), (780, 792, 889, 95), (793, 834, 889, 95), (835, 888, 889, 95)], Cond.classLink RL 95 "java/lang/IllegalStateException", Cond.methodLink RL 62 yX0_give, Cond.instanceMethod yX0_give, Cond.selects RX0 yX0_give yX0_give, Cond.code yX0_give cX0_give 6 (some .int), Cond.methodLink RL 66 yX1_canBuy, Cond.instanceMethod yX1_canBuy, Cond.selects RX1 yX1_canBuy yX1_canBuy, Cond.code yX1_canBuy cX1_canBuy 10 (some .boolean), Cond.methodLink RX1 36 yX1_has, Cond.methodLink RX1 40 yX1_value, Cond.instanceMethod yX1_value]
def wsL_law0_r8 : List Cond := [Cond.selects RX1 yX1_value yX1_value, Cond.code yX1_value cX1_value 3 (some .int), Cond.methodLink RL 70 yX1_value, Cond.methodLink RL 73 yX0_buy, Cond.instanceMethod yX0_buy, Cond.selects RX0 yX0_buy yX0_buy, Cond.code yX0_buy cX0_buy 7 (some .int), Cond.methodLink RX0 102 yX0_needSale, Cond.instanceMethod yX0_needSale, Cond.selects RX0 yX0_needSale yX0_needSale, Cond.code yX0_needSale cX0_needSale 5 none, Cond.methodLink RX0 105 yX0_mayBuy, Cond.instanceMethod yX0_mayBuy, Cond.selects RX0 yX0_mayBuy yX0_mayBuy, Cond.code yX0_mayBuy cX0_mayBuy 6 (some .boolean), Cond.methodLink RX0 111 yX0_priceOf, Cond.instanceMethod yX0_priceOf, Cond.selects RX0 yX0_priceOf yX0_priceOf, Cond.code yX0_priceOf cX0_priceOf 4 (some .int), Cond.methodLink RX0 146 yX0_worth, Cond.instanceMethod yX0_worth, Cond.selects RX0 yX0_worth yX0_worth, Cond.code yX0_worth cX0_worth 3 (some .int), Cond.fieldLink RX0 219 "FerryRights" "TRAFFIC" "[I"]
def wsL_law0_r9 : List Cond := [Cond.methodLink RX0 222 yX0_otherOwnerHas, Cond.instanceMethod yX0_otherOwnerHas, Cond.selects RX0 yX0_otherOwnerHas yX0_otherOwnerHas, Cond.code yX0_otherOwnerHas cX0_otherOwnerHas 6 (some .boolean), Cond.methodLink RL 76 yX1_master, Cond.instanceMethod yX1_master, Cond.selects RX1 yX1_master yX1_master, Cond.code yX1_master cX1_master 4 (some .int), Cond.methodLink RX1 43 yX1_of, Cond.instanceMethod yX1_of, Cond.selects RX1 yX1_of yX1_of, Cond.code yX1_of cX1_of 5 (some .int), Cond.methodLink RL 79 yX0_setToll, Cond.instanceMethod yX0_setToll, Cond.selects RX0 yX0_setToll yX0_setToll, Cond.code yX0_setToll cX0_setToll 5 (some .int), Cond.methodLink RX0 114 yX0_findMaster, Cond.instanceMethod yX0_findMaster, Cond.selects RX0 yX0_findMaster yX0_findMaster, Cond.code yX0_findMaster cX0_findMaster 3 (some .int), Cond.methodLink RX0 216 yX0_countSharesOfFerry, Cond.instanceMethod yX0_countSharesOfFerry, Cond.selects RX0 yX0_countSharesOfFerry yX0_countSharesOfFerry, Cond.code yX0_countSharesOfFerry cX0_countSharesOfFerry 5 (some .int)]
def wsL_law0_r10 : List Cond := [Cond.methodLink RL 82 yX1_heirs, Cond.instanceMethod yX1_heirs, Cond.selects RX1 yX1_heirs yX1_heirs, Cond.code yX1_heirs cX1_heirs 3 (some (.array .int)), Cond.methodLink RX1 46 yX1_living, Cond.instanceMethod yX1_living, Cond.selects RX1 yX1_living yX1_living, Cond.code yX1_living cX1_living 5 (some (.array .int)), Cond.methodLink RL 86 yX1_die, Cond.instanceMethod yX1_die, Cond.selects RX1 yX1_die yX1_die, Cond.code yX1_die cX1_die 7 none, Cond.fieldLink RX1 65 "FerryRightsLaw$Sim" "crownCoins" "I", Cond.methodLink RX1 50 yX1_heirs, Cond.methodLink RX1 54 yX1_parts, Cond.static yX1_parts, Cond.code yX1_parts cX1_parts 5 (some (.array .int)), Cond.methodLink RX1 57 yX1_hand, Cond.methodLink RX1 61 yX1_get, Cond.methodLink RL 89 yX0_die, Cond.instanceMethod yX0_die, Cond.selects RX0 yX0_die yX0_die, Cond.code yX0_die cX0_die 5 (some .int), Cond.methodLink RX0 129 yX0_countHeirs]
def wsL_law0_r11 : List Cond := [Cond.instanceMethod yX0_countHeirs, Cond.selects RX0 yX0_countHeirs yX0_countHeirs, Cond.code yX0_countHeirs cX0_countHeirs 2 (some .int), Cond.methodLink RX0 165 yX0_countHeirsBelow, Cond.instanceMethod yX0_countHeirsBelow, Cond.selects RX0 yX0_countHeirsBelow yX0_countHeirsBelow, Cond.code yX0_countHeirsBelow cX0_countHeirsBelow 5 (some .int), Cond.methodLink RX0 132 yX0_isHeir, Cond.instanceMethod yX0_isHeir, Cond.selects RX0 yX0_isHeir yX0_isHeir, Cond.code yX0_isHeir cX0_isHeir 3 (some .boolean), Cond.methodLink RX0 225 yX0_hasLivingChild, Cond.instanceMethod yX0_hasLivingChild, Cond.selects RX0 yX0_hasLivingChild yX0_hasLivingChild, Cond.code yX0_hasLivingChild cX0_hasLivingChild 3 (some .boolean), Cond.methodLink RX0 136 yX0_hand, Cond.instanceMethod yX0_hand, Cond.selects RX0 yX0_hand yX0_hand, Cond.code yX0_hand cX0_hand 7 none, Cond.methodLink RX0 168 yX0_partOf, Cond.static yX0_partOf, Cond.code yX0_partOf cX0_partOf 6 (some .int), Cond.methodLink RX0 139 yX0_bury, Cond.instanceMethod yX0_bury]
def wsL_law0_r12 : List Cond := [Cond.selects RX0 yX0_bury yX0_bury, Cond.code yX0_bury cX0_bury 4 none, Cond.methodLink RL 91 yX0_carry, Cond.instanceMethod yX0_carry, Cond.selects RX0 yX0_carry yX0_carry, Cond.code yX0_carry cX0_carry 8 (some .int), Cond.methodLink RX0 119 yX0_needHour, Cond.static yX0_needHour, Cond.code yX0_needHour cX0_needHour 1 none, Cond.methodLink RX0 122 yX0_needPassengers, Cond.static yX0_needPassengers, Cond.code yX0_needPassengers cX0_needPassengers 1 none, Cond.methodLink RX0 125 yX0_fareOf, Cond.instanceMethod yX0_fareOf, Cond.selects RX0 yX0_fareOf yX0_fareOf, Cond.code yX0_fareOf cX0_fareOf 5 (some .int), Cond.methodLink RL 94 yX1_carry, Cond.instanceMethod yX1_carry, Cond.selects RX1 yX1_carry yX1_carry, Cond.code yX1_carry cX1_carry 8 (some .int), Cond.methodLink RL 111 yX0_digest, Cond.instanceMethod yX0_digest, Cond.selects RX0 yX0_digest yX0_digest, Cond.code yX0_digest cX0_digest 4 (some .long)]
def wsL_law0_r13 : List Cond := [Cond.constantLong RX0 173 (1861), Cond.methodLink RX0 175 yX0_mix, Cond.static yX0_mix, Cond.code yX0_mix cX0_mix 4 (some .long), Cond.constantLong RX0 229 (31), Cond.methodLink RX0 179 yX0_living, Cond.instanceMethod yX0_living, Cond.selects RX0 yX0_living yX0_living, Cond.code yX0_living cX0_living 3 (some .int), Cond.methodLink RX0 183 yX0_mixFerry, Cond.instanceMethod yX0_mixFerry, Cond.selects RX0 yX0_mixFerry yX0_mixFerry, Cond.code yX0_mixFerry cX0_mixFerry 8 (some .long), Cond.methodLink RX0 187 yX0_mixPerson, Cond.instanceMethod yX0_mixPerson, Cond.selects RX0 yX0_mixPerson yX0_mixPerson, Cond.code yX0_mixPerson cX0_mixPerson 6 (some .long), Cond.methodLink RX0 149 yX0_countAllShares, Cond.instanceMethod yX0_countAllShares, Cond.selects RX0 yX0_countAllShares yX0_countAllShares, Cond.code yX0_countAllShares cX0_countAllShares 4 (some .int), Cond.methodLink RX0 154 yX0_countChildren, Cond.instanceMethod yX0_countChildren, Cond.selects RX0 yX0_countChildren yX0_countChildren]
def wsL_law0_r14 : List Cond := [Cond.code yX0_countChildren cX0_countChildren 4 (some .int), Cond.methodLink RL 115 yX0_people, Cond.instanceMethod yX0_people, Cond.selects RX0 yX0_people yX0_people, Cond.code yX0_people cX0_people 1 (some .int), Cond.methodLink RL 117 yX0_isAlive, Cond.instanceMethod yX0_isAlive, Cond.selects RX0 yX0_isAlive yX0_isAlive, Cond.code yX0_isAlive cX0_isAlive 2 (some .boolean), Cond.methodLink RL 121 yX0_coins, Cond.instanceMethod yX0_coins, Cond.selects RX0 yX0_coins yX0_coins, Cond.code yX0_coins cX0_coins 2 (some .int), Cond.methodLink RL 124 yX0_earned, Cond.instanceMethod yX0_earned, Cond.selects RX0 yX0_earned yX0_earned, Cond.code yX0_earned cX0_earned 2 (some .int), Cond.methodLink RL 127 yX0_allShares, Cond.instanceMethod yX0_allShares, Cond.selects RX0 yX0_allShares yX0_allShares, Cond.code yX0_allShares cX0_allShares 2 (some .int), Cond.methodLink RL 130 yX0_hasParent, Cond.instanceMethod yX0_hasParent, Cond.selects RX0 yX0_hasParent yX0_hasParent]
def wsL_law0_r15 : List Cond := [Cond.code yX0_hasParent cX0_hasParent 2 (some .boolean), Cond.methodLink RL 133 yX0_parent, Cond.instanceMethod yX0_parent, Cond.selects RX0 yX0_parent yX0_parent, Cond.code yX0_parent cX0_parent 2 (some .int), Cond.methodLink RL 141 yX0_heirs, Cond.instanceMethod yX0_heirs, Cond.selects RX0 yX0_heirs yX0_heirs, Cond.code yX0_heirs cX0_heirs 2 (some .int), Cond.methodLink RL 143 yX0_heir, Cond.instanceMethod yX0_heir, Cond.selects RX0 yX0_heir yX0_heir, Cond.code yX0_heir cX0_heir 4 (some .int), Cond.methodLink RX0 157 yX0_findHeir, Cond.instanceMethod yX0_findHeir, Cond.selects RX0 yX0_findHeir yX0_findHeir, Cond.code yX0_findHeir cX0_findHeir 5 (some .int), Cond.methodLink RL 146 yX0_living, Cond.methodLink RL 149 yX0_richest, Cond.instanceMethod yX0_richest, Cond.selects RX0 yX0_richest yX0_richest, Cond.code yX0_richest cX0_richest 4 (some .int), Cond.methodLink RL 152 yX0_ferries, Cond.instanceMethod yX0_ferries]
def wsL_law0_r16 : List Cond := [Cond.selects RX0 yX0_ferries yX0_ferries, Cond.code yX0_ferries cX0_ferries 1 (some .int), Cond.methodLink RL 155 yX0_shares, Cond.instanceMethod yX0_shares, Cond.selects RX0 yX0_shares yX0_shares, Cond.code yX0_shares cX0_shares 4 (some .int), Cond.methodLink RL 158 yX0_hasMaster, Cond.instanceMethod yX0_hasMaster, Cond.selects RX0 yX0_hasMaster yX0_hasMaster, Cond.code yX0_hasMaster cX0_hasMaster 2 (some .boolean), Cond.methodLink RL 161 yX0_master, Cond.instanceMethod yX0_master, Cond.selects RX0 yX0_master yX0_master, Cond.code yX0_master cX0_master 3 (some .int), Cond.methodLink RL 162 yX0_crownShares, Cond.instanceMethod yX0_crownShares, Cond.selects RX0 yX0_crownShares yX0_crownShares, Cond.code yX0_crownShares cX0_crownShares 3 (some .int), Cond.methodLink RL 165 yX0_fare, Cond.instanceMethod yX0_fare, Cond.selects RX0 yX0_fare yX0_fare, Cond.code yX0_fare cX0_fare 5 (some .int), Cond.methodLink RL 168 yX0_inheritance, Cond.instanceMethod yX0_inheritance]
def wsL_law0_r17 : List Cond := [Cond.selects RX0 yX0_inheritance yX0_inheritance, Cond.code yX0_inheritance cX0_inheritance 5 (some .int), Cond.methodLink RL 171 yX0_canBuy, Cond.instanceMethod yX0_canBuy, Cond.selects RX0 yX0_canBuy yX0_canBuy, Cond.code yX0_canBuy cX0_canBuy 5 (some .boolean), Cond.methodLink RL 172 yX0_price, Cond.instanceMethod yX0_price, Cond.selects RX0 yX0_price yX0_price, Cond.code yX0_price cX0_price 4 (some .int), Cond.methodLink RL 175 yX0_shareValue, Cond.instanceMethod yX0_shareValue, Cond.selects RX0 yX0_shareValue yX0_shareValue, Cond.code yX0_shareValue cX0_shareValue 3 (some .int), Cond.methodLink RL 178 yX0_owners, Cond.instanceMethod yX0_owners, Cond.selects RX0 yX0_owners yX0_owners, Cond.code yX0_owners cX0_owners 5 (some .int), Cond.methodLink RL 181 yX0_toll, Cond.instanceMethod yX0_toll, Cond.selects RX0 yX0_toll yX0_toll, Cond.code yX0_toll cX0_toll 2 (some .int), Cond.methodLink RL 184 yX0_crownCoins, Cond.instanceMethod yX0_crownCoins]
def wsL_law0_r18 : List Cond := [Cond.selects RX0 yX0_crownCoins yX0_crownCoins, Cond.code yX0_crownCoins cX0_crownCoins 1 (some .int), Cond.methodLink RL 190 yX1_isSame, Cond.instanceMethod yX1_isSame, Cond.selects RX1 yX1_isSame yX1_isSame, Cond.code yX1_isSame cX1_isSame 13 (some .boolean), Cond.methodLink RX1 69 yX0_ferries, Cond.methodLink RX1 75 yX0_people, Cond.methodLink RX1 77 yX0_crownCoins, Cond.methodLink RX1 79 yX1_master, Cond.methodLink RX1 83 yX0_toll, Cond.methodLink RX1 86 yX0_carried, Cond.instanceMethod yX0_carried, Cond.selects RX0 yX0_carried yX0_carried, Cond.code yX0_carried cX0_carried 2 (some .int), Cond.methodLink RX1 88 yX0_hasMaster, Cond.methodLink RX1 92 yX0_master, Cond.methodLink RX1 93 yX0_shares, Cond.methodLink RX1 95 yX0_price, Cond.methodLink RX1 98 yX0_owners, Cond.methodLink RX1 101 yX0_holder, Cond.instanceMethod yX0_holder, Cond.selects RX0 yX0_holder yX0_holder, Cond.code yX0_holder cX0_holder 7 (some .int)]
def wsL_law0_r19 : List Cond := [Cond.methodLink RX1 104 yX0_crownShares, Cond.methodLink RX1 107 yX0_shareValue, Cond.methodLink RX1 110 yX0_isAlive, Cond.methodLink RX1 113 yX0_coins, Cond.methodLink RX1 116 yX0_earned, Cond.methodLink RX1 119 yX0_hasParent, Cond.methodLink RX1 122 yX0_parent, Cond.methodLink RX1 125 yX0_children, Cond.instanceMethod yX0_children, Cond.selects RX0 yX0_children yX0_children, Cond.code yX0_children cX0_children 2 (some .int), Cond.methodLink RX1 128 yX0_allShares, Cond.methodLink RX1 131 yX0_heirs, Cond.methodLink RX1 133 yX0_heir, Cond.methodLink RX1 136 yX0_living, Cond.methodLink RX1 138 yX0_richest, Cond.methodLink RX1 141 yX0_meanCoins, Cond.instanceMethod yX0_meanCoins, Cond.selects RX0 yX0_meanCoins yX0_meanCoins, Cond.code yX0_meanCoins cX0_meanCoins 4 (some .double)]
def wsL_law0 : List Cond := (wsL_law0_r1 ++ (wsL_law0_r2 ++ (wsL_law0_r3 ++ (wsL_law0_r4 ++ (wsL_law0_r5 ++ (wsL_law0_r6 ++ (wsL_law0_r7 ++ (wsL_law0_r8 ++ (wsL_law0_r9 ++ (wsL_law0_r10 ++ (wsL_law0_r11 ++ (wsL_law0_r12 ++ (wsL_law0_r13 ++ (wsL_law0_r14 ++ (wsL_law0_r15 ++ (wsL_law0_r16 ++ (wsL_law0_r17 ++ (wsL_law0_r18 ++ wsL_law0_r19)))))))))))))))))) ++ wsX00 ++ wsX10 ++ ([] : List Cond)
def wsL_law : List Cond := wsL_law0 ++ (vx_atS RX0 50 "java/lang/IllegalStateException" ["java/lang/RuntimeException", "java/lang/Exception"]).filter goodWord ++ (vx_atS RX0 70 "java/lang/IllegalArgumentException" ["java/lang/RuntimeException", "java/lang/Exception"]).filter goodWord ++ (vx_atS RX0 164 "java/lang/IndexOutOfBoundsException" ["java/lang/RuntimeException", "java/lang/Exception"]).filter goodWord
abbrev vwCl : List vw_C := [(RX0, TX0, 10), (RX1, TX1, 5)]
end
section
theorem dX0_init_0 : decode cX0_init 0 = .ok (.aload_n 0, 1) := by decide +kernel
theorem dX0_init_1 : decode cX0_init 1 = .ok (.invokespecial 3, 3) := by decide +kernel
theorem dX0_init_4 : decode cX0_init 4 = .ok (.aload_n 0, 1) := by decide +kernel
theorem dX0_init_5 : decode cX0_init 5 = .ok (.iconst 0, 1) := by decide +kernel
theorem dX0_init_6 : decode cX0_init 6 = .ok (.putfield 9, 3) := by decide +kernel
theorem dX0_init_9 : decode cX0_init 9 = .ok (.aload_n 0, 1) := by decide +kernel
theorem dX0_init_10 : decode cX0_init 10 = .ok (.bipush 6, 2) := by decide +kernel
theorem dX0_init_12 : decode cX0_init 12 = .ok (.newarray .int, 2) := by decide +kernel
theorem dX0_init_14 : decode cX0_init 14 = .ok (.putfield 13, 3) := by decide +kernel
theorem dX0_init_17 : decode cX0_init 17 = .ok (.aload_n 0, 1) := by decide +kernel
theorem dX0_init_18 : decode cX0_init 18 = .ok (.bipush 6, 2) := by decide +kernel
theorem dX0_init_20 : decode cX0_init 20 = .ok (.newarray .int, 2) := by decide +kernel
theorem dX0_init_22 : decode cX0_init 22 = .ok (.putfield 17, 3) := by decide +kernel
theorem dX0_init_25 : decode cX0_init 25 = .ok (.aload_n 0, 1) := by decide +kernel
theorem dX0_init_26 : decode cX0_init 26 = .ok (.sipush 288, 3) := by decide +kernel
theorem dX0_init_29 : decode cX0_init 29 = .ok (.newarray .int, 2) := by decide +kernel
theorem dX0_init_31 : decode cX0_init 31 = .ok (.putfield 20, 3) := by decide +kernel
theorem dX0_init_34 : decode cX0_init 34 = .ok (.aload_n 0, 1) := by decide +kernel
theorem dX0_init_35 : decode cX0_init 35 = .ok (.iconst 0, 1) := by decide +kernel
theorem dX0_init_36 : decode cX0_init 36 = .ok (.putfield 23, 3) := by decide +kernel
theorem dX0_init_39 : decode cX0_init 39 = .ok (.aload_n 0, 1) := by decide +kernel
theorem dX0_init_40 : decode cX0_init 40 = .ok (.bipush 12, 2) := by decide +kernel
theorem dX0_init_42 : decode cX0_init 42 = .ok (.newarray .boolean, 2) := by decide +kernel
theorem dX0_init_44 : decode cX0_init 44 = .ok (.putfield 26, 3) := by decide +kernel
theorem dX0_init_47 : decode cX0_init 47 = .ok (.aload_n 0, 1) := by decide +kernel
theorem dX0_init_48 : decode cX0_init 48 = .ok (.bipush 12, 2) := by decide +kernel
theorem dX0_init_50 : decode cX0_init 50 = .ok (.newarray .int, 2) := by decide +kernel
theorem dX0_init_52 : decode cX0_init 52 = .ok (.putfield 30, 3) := by decide +kernel
theorem dX0_init_55 : decode cX0_init 55 = .ok (.aload_n 0, 1) := by decide +kernel
theorem dX0_init_56 : decode cX0_init 56 = .ok (.bipush 12, 2) := by decide +kernel
theorem dX0_init_58 : decode cX0_init 58 = .ok (.newarray .int, 2) := by decide +kernel
theorem dX0_init_60 : decode cX0_init 60 = .ok (.putfield 33, 3) := by decide +kernel
theorem dX0_init_63 : decode cX0_init 63 = .ok (.aload_n 0, 1) := by decide +kernel
theorem dX0_init_64 : decode cX0_init 64 = .ok (.bipush 12, 2) := by decide +kernel
theorem dX0_init_66 : decode cX0_init 66 = .ok (.newarray .int, 2) := by decide +kernel
theorem dX0_init_68 : decode cX0_init 68 = .ok (.putfield 36, 3) := by decide +kernel
theorem dX0_init_71 : decode cX0_init 71 = .ok (.aload_n 0, 1) := by decide +kernel
theorem dX0_init_72 : decode cX0_init 72 = .ok (.iconst 0, 1) := by decide +kernel
theorem dX0_init_73 : decode cX0_init 73 = .ok (.putfield 39, 3) := by decide +kernel
theorem dX0_init_76 : decode cX0_init 76 = .ok (.return_, 1) := by decide +kernel
set_option maxRecDepth 20000 in
theorem ggX0_addFerry_X0_needToll : GoodIn wsX0_addFerry wsX0_needToll := goodIn_ca (goodIn_r _ [8, 9, 10] (by decide +kernel) (by decide +kernel)) (goodIn_sub (fun _ h => List.mem_cons_of_mem _ (List.mem_append_right _ h)) (by decide +kernel))
set_option maxRecDepth 20000 in
theorem gX0_addFerry_X0_needToll : GoodIn wsX0_addFerry (va_wsS RX0 42 yX0_needToll wsX0_needToll) := goodIn_app (goodIn_of _ (by decide +kernel)) ggX0_addFerry_X0_needToll
theorem dX0_addFerry_0 : decode cX0_addFerry 0 = .ok (.iload_n 1, 1) := by decide +kernel
theorem dX0_addFerry_1 : decode cX0_addFerry 1 = .ok (.invokestatic 42, 3) := by decide +kernel
theorem dX0_addFerry_4 : decode cX0_addFerry 4 = .ok (.aload_n 0, 1) := by decide +kernel
theorem dX0_addFerry_5 : decode cX0_addFerry 5 = .ok (.getfield 9, 3) := by decide +kernel
theorem dX0_addFerry_8 : decode cX0_addFerry 8 = .ok (.bipush 6, 2) := by decide +kernel
theorem dX0_addFerry_10 : decode cX0_addFerry 10 = .ok (.if_icmp .lt 13, 3) := by decide +kernel
theorem dX0_addFerry_13 : decode cX0_addFerry 13 = .ok (.new 46, 3) := by decide +kernel
theorem dX0_addFerry_16 : decode cX0_addFerry 16 = .ok (.dup, 1) := by decide +kernel
theorem dX0_addFerry_17 : decode cX0_addFerry 17 = .ok (.ldc 48, 2) := by decide +kernel
theorem dX0_addFerry_19 : decode cX0_addFerry 19 = .ok (.invokespecial 50, 3) := by decide +kernel
theorem dX0_addFerry_22 : decode cX0_addFerry 22 = .ok (.athrow, 1) := by decide +kernel
theorem dX0_addFerry_23 : decode cX0_addFerry 23 = .ok (.aload_n 0, 1) := by decide +kernel
theorem dX0_addFerry_24 : decode cX0_addFerry 24 = .ok (.getfield 9, 3) := by decide +kernel
theorem dX0_addFerry_27 : decode cX0_addFerry 27 = .ok (.istore_n 2, 1) := by decide +kernel
theorem dX0_addFerry_28 : decode cX0_addFerry 28 = .ok (.aload_n 0, 1) := by decide +kernel
theorem dX0_addFerry_29 : decode cX0_addFerry 29 = .ok (.getfield 13, 3) := by decide +kernel
theorem dX0_addFerry_32 : decode cX0_addFerry 32 = .ok (.iload_n 2, 1) := by decide +kernel
theorem dX0_addFerry_33 : decode cX0_addFerry 33 = .ok (.iload_n 1, 1) := by decide +kernel
theorem dX0_addFerry_34 : decode cX0_addFerry 34 = .ok (.iastore, 1) := by decide +kernel
theorem dX0_addFerry_35 : decode cX0_addFerry 35 = .ok (.aload_n 0, 1) := by decide +kernel
theorem dX0_addFerry_36 : decode cX0_addFerry 36 = .ok (.iload_n 2, 1) := by decide +kernel
theorem dX0_addFerry_37 : decode cX0_addFerry 37 = .ok (.iconst 1, 1) := by decide +kernel
theorem dX0_addFerry_38 : decode cX0_addFerry 38 = .ok (.iadd, 1) := by decide +kernel
theorem dX0_addFerry_39 : decode cX0_addFerry 39 = .ok (.putfield 9, 3) := by decide +kernel
theorem dX0_addFerry_42 : decode cX0_addFerry 42 = .ok (.iload_n 2, 1) := by decide +kernel
theorem dX0_addFerry_43 : decode cX0_addFerry 43 = .ok (.ireturn, 1) := by decide +kernel
set_option maxRecDepth 20000 in
theorem ggX0_addPerson_X0_needRoomForPerson : GoodIn wsX0_addPerson wsX0_needRoomForPerson := goodIn_ca (goodIn_r _ [5, 6, 7, 8, 15, 16, 17, 18, 19, 20, 21, 22, 23, 24] (by decide +kernel) (by decide +kernel)) (goodIn_sub (fun _ h => List.mem_cons_of_mem _ (List.mem_append_right _ h)) (by decide +kernel))
set_option maxRecDepth 20000 in
theorem gX0_addPerson_X0_needRoomForPerson : GoodIn wsX0_addPerson (wsV RX0 53 RX0 yX0_needRoomForPerson wsX0_needRoomForPerson) := goodIn_app (goodIn_of _ (by decide +kernel)) ggX0_addPerson_X0_needRoomForPerson
set_option maxRecDepth 20000 in
theorem ggX0_addPerson_X0_settle : GoodIn wsX0_addPerson wsX0_settle := goodIn_r _ [12, 8, 13, 14, 15, 16, 17, 18, 19, 20, 21, 22, 23, 24] (by decide +kernel) (by decide +kernel)
set_option maxRecDepth 20000 in
theorem gX0_addPerson_X0_settle : GoodIn wsX0_addPerson (wsV RX0 56 RX0 yX0_settle wsX0_settle) := goodIn_app (goodIn_of _ (by decide +kernel)) ggX0_addPerson_X0_settle
theorem dX0_addPerson_0 : decode cX0_addPerson 0 = .ok (.aload_n 0, 1) := by decide +kernel
theorem dX0_addPerson_1 : decode cX0_addPerson 1 = .ok (.invokevirtual 53, 3) := by decide +kernel
theorem dX0_addPerson_4 : decode cX0_addPerson 4 = .ok (.aload_n 0, 1) := by decide +kernel
theorem dX0_addPerson_5 : decode cX0_addPerson 5 = .ok (.iconst (-1), 1) := by decide +kernel
theorem dX0_addPerson_6 : decode cX0_addPerson 6 = .ok (.invokevirtual 56, 3) := by decide +kernel
theorem dX0_addPerson_9 : decode cX0_addPerson 9 = .ok (.ireturn, 1) := by decide +kernel
set_option maxRecDepth 20000 in
theorem ggX0_addChild_X0_needPerson : GoodIn wsX0_addChild wsX0_needPerson := goodIn_ca (goodIn_r _ [5, 6, 7, 8, 25, 26, 27, 28, 29, 30, 31, 32, 33, 34] (by decide +kernel) (by decide +kernel)) (goodIn_sub (fun _ h => List.mem_cons_of_mem _ (List.mem_append_left _ (List.mem_append_right _ h))) (by decide +kernel))
set_option maxRecDepth 20000 in
theorem gX0_addChild_X0_needPerson : GoodIn wsX0_addChild (wsV RX0 60 RX0 yX0_needPerson wsX0_needPerson) := goodIn_app (goodIn_of _ (by decide +kernel)) ggX0_addChild_X0_needPerson
set_option maxRecDepth 20000 in
theorem ggX0_addChild_X0_needAlive : GoodIn wsX0_addChild wsX0_needAlive := goodIn_ca (goodIn_r _ [12, 13, 14, 15, 25, 26, 27, 28, 29, 30, 31, 32, 33, 34] (by decide +kernel) (by decide +kernel)) (goodIn_sub (fun _ h => List.mem_cons_of_mem _ (List.mem_append_right _ h)) (by decide +kernel))
set_option maxRecDepth 20000 in
theorem gX0_addChild_X0_needAlive : GoodIn wsX0_addChild (wsV RX0 63 RX0 yX0_needAlive wsX0_needAlive) := goodIn_app (goodIn_of _ (by decide +kernel)) ggX0_addChild_X0_needAlive
set_option maxRecDepth 20000 in
theorem ggX0_addChild_X0_needRoomForPerson : GoodIn wsX0_addChild wsX0_needRoomForPerson := goodIn_ca (goodIn_r _ [19, 13, 14, 8, 25, 26, 27, 28, 29, 30, 31, 32, 33, 34] (by decide +kernel) (by decide +kernel)) (goodIn_sub (fun _ h => List.mem_cons_of_mem _ (List.mem_append_right _ h)) (by decide +kernel))
set_option maxRecDepth 20000 in
theorem gX0_addChild_X0_needRoomForPerson : GoodIn wsX0_addChild (wsV RX0 53 RX0 yX0_needRoomForPerson wsX0_needRoomForPerson) := goodIn_app (goodIn_of _ (by decide +kernel)) ggX0_addChild_X0_needRoomForPerson
set_option maxRecDepth 20000 in
theorem ggX0_addChild_X0_settle : GoodIn wsX0_addChild wsX0_settle := goodIn_r _ [23, 8, 15, 24, 25, 26, 27, 28, 29, 30, 31, 32, 33, 34] (by decide +kernel) (by decide +kernel)
set_option maxRecDepth 20000 in
theorem gX0_addChild_X0_settle : GoodIn wsX0_addChild (wsV RX0 56 RX0 yX0_settle wsX0_settle) := goodIn_app (goodIn_of _ (by decide +kernel)) ggX0_addChild_X0_settle
theorem dX0_addChild_0 : decode cX0_addChild 0 = .ok (.aload_n 0, 1) := by decide +kernel
theorem dX0_addChild_1 : decode cX0_addChild 1 = .ok (.iload_n 1, 1) := by decide +kernel
theorem dX0_addChild_2 : decode cX0_addChild 2 = .ok (.invokevirtual 60, 3) := by decide +kernel
theorem dX0_addChild_5 : decode cX0_addChild 5 = .ok (.aload_n 0, 1) := by decide +kernel
theorem dX0_addChild_6 : decode cX0_addChild 6 = .ok (.iload_n 1, 1) := by decide +kernel
theorem dX0_addChild_7 : decode cX0_addChild 7 = .ok (.invokevirtual 63, 3) := by decide +kernel
theorem dX0_addChild_10 : decode cX0_addChild 10 = .ok (.aload_n 0, 1) := by decide +kernel
theorem dX0_addChild_11 : decode cX0_addChild 11 = .ok (.invokevirtual 53, 3) := by decide +kernel
theorem dX0_addChild_14 : decode cX0_addChild 14 = .ok (.aload_n 0, 1) := by decide +kernel
theorem dX0_addChild_15 : decode cX0_addChild 15 = .ok (.iload_n 1, 1) := by decide +kernel
theorem dX0_addChild_16 : decode cX0_addChild 16 = .ok (.invokevirtual 56, 3) := by decide +kernel
theorem dX0_addChild_19 : decode cX0_addChild 19 = .ok (.ireturn, 1) := by decide +kernel
set_option maxRecDepth 20000 in
theorem ggX0_pay_X0_needPerson : GoodIn wsX0_pay wsX0_needPerson := goodIn_ca (goodIn_r _ [8, 9, 10, 11, 27, 28, 29, 30, 31, 32, 33, 34, 35, 36] (by decide +kernel) (by decide +kernel)) (goodIn_sub (fun _ h => List.mem_cons_of_mem _ (List.mem_append_left _ (List.mem_append_right _ h))) (by decide +kernel))
set_option maxRecDepth 20000 in
theorem gX0_pay_X0_needPerson : GoodIn wsX0_pay (wsV RX0 60 RX0 yX0_needPerson wsX0_needPerson) := goodIn_app (goodIn_of _ (by decide +kernel)) ggX0_pay_X0_needPerson
set_option maxRecDepth 20000 in
theorem ggX0_pay_X0_needAlive : GoodIn wsX0_pay wsX0_needAlive := goodIn_ca (goodIn_r _ [15, 16, 17, 18, 27, 28, 29, 30, 31, 32, 33, 34, 35, 36] (by decide +kernel) (by decide +kernel)) (goodIn_sub (fun _ h => List.mem_cons_of_mem _ (List.mem_append_right _ h)) (by decide +kernel))
set_option maxRecDepth 20000 in
theorem gX0_pay_X0_needAlive : GoodIn wsX0_pay (wsV RX0 63 RX0 yX0_needAlive wsX0_needAlive) := goodIn_app (goodIn_of _ (by decide +kernel)) ggX0_pay_X0_needAlive
set_option maxRecDepth 20000 in
theorem ggX0_pay_X0_addCoins : GoodIn wsX0_pay wsX0_addCoins := goodIn_r _ [22, 3, 23, 24, 25, 26, 27, 28, 29, 30, 31, 32, 33, 34, 35, 36] (by decide +kernel) (by decide +kernel)
set_option maxRecDepth 20000 in
theorem gX0_pay_X0_addCoins : GoodIn wsX0_pay (wsV RX0 71 RX0 yX0_addCoins wsX0_addCoins) := goodIn_app (goodIn_of _ (by decide +kernel)) ggX0_pay_X0_addCoins
theorem dX0_pay_0 : decode cX0_pay 0 = .ok (.aload_n 0, 1) := by decide +kernel
theorem dX0_pay_1 : decode cX0_pay 1 = .ok (.iload_n 1, 1) := by decide +kernel
theorem dX0_pay_2 : decode cX0_pay 2 = .ok (.invokevirtual 60, 3) := by decide +kernel
theorem dX0_pay_5 : decode cX0_pay 5 = .ok (.iload_n 2, 1) := by decide +kernel
theorem dX0_pay_6 : decode cX0_pay 6 = .ok (.iconst 1, 1) := by decide +kernel
theorem dX0_pay_7 : decode cX0_pay 7 = .ok (.if_icmp .lt 10, 3) := by decide +kernel
theorem dX0_pay_10 : decode cX0_pay 10 = .ok (.iload_n 2, 1) := by decide +kernel
theorem dX0_pay_11 : decode cX0_pay 11 = .ok (.sipush 9999, 3) := by decide +kernel
theorem dX0_pay_14 : decode cX0_pay 14 = .ok (.if_icmp .le 13, 3) := by decide +kernel
theorem dX0_pay_17 : decode cX0_pay 17 = .ok (.new 66, 3) := by decide +kernel
theorem dX0_pay_20 : decode cX0_pay 20 = .ok (.dup, 1) := by decide +kernel
theorem dX0_pay_21 : decode cX0_pay 21 = .ok (.ldc 68, 2) := by decide +kernel
theorem dX0_pay_23 : decode cX0_pay 23 = .ok (.invokespecial 70, 3) := by decide +kernel
theorem dX0_pay_26 : decode cX0_pay 26 = .ok (.athrow, 1) := by decide +kernel
theorem dX0_pay_27 : decode cX0_pay 27 = .ok (.aload_n 0, 1) := by decide +kernel
theorem dX0_pay_28 : decode cX0_pay 28 = .ok (.iload_n 1, 1) := by decide +kernel
theorem dX0_pay_29 : decode cX0_pay 29 = .ok (.invokevirtual 63, 3) := by decide +kernel
theorem dX0_pay_32 : decode cX0_pay 32 = .ok (.aload_n 0, 1) := by decide +kernel
theorem dX0_pay_33 : decode cX0_pay 33 = .ok (.iload_n 1, 1) := by decide +kernel
theorem dX0_pay_34 : decode cX0_pay 34 = .ok (.iload_n 2, 1) := by decide +kernel
theorem dX0_pay_35 : decode cX0_pay 35 = .ok (.invokevirtual 71, 3) := by decide +kernel
theorem dX0_pay_38 : decode cX0_pay 38 = .ok (.aload_n 0, 1) := by decide +kernel
theorem dX0_pay_39 : decode cX0_pay 39 = .ok (.getfield 30, 3) := by decide +kernel
theorem dX0_pay_42 : decode cX0_pay 42 = .ok (.iload_n 1, 1) := by decide +kernel
theorem dX0_pay_43 : decode cX0_pay 43 = .ok (.iaload, 1) := by decide +kernel
theorem dX0_pay_44 : decode cX0_pay 44 = .ok (.ireturn, 1) := by decide +kernel
set_option maxRecDepth 20000 in
theorem ggX0_grant_X0_needFerry : GoodIn wsX0_grant wsX0_needFerry := goodIn_ca (goodIn_r _ [7, 8, 9, 10, 45, 46, 47, 48, 49, 50, 51, 52, 53, 54] (by decide +kernel) (by decide +kernel)) (goodIn_sub (fun _ h => List.mem_cons_of_mem _ (List.mem_append_left _ (List.mem_append_right _ h))) (by decide +kernel))
set_option maxRecDepth 20000 in
theorem gX0_grant_X0_needFerry : GoodIn wsX0_grant (wsV RX0 75 RX0 yX0_needFerry wsX0_needFerry) := goodIn_app (goodIn_of _ (by decide +kernel)) ggX0_grant_X0_needFerry
set_option maxRecDepth 20000 in
theorem ggX0_grant_X0_needWatch : GoodIn wsX0_grant wsX0_needWatch := goodIn_ca (goodIn_r _ [13, 8, 9] (by decide +kernel) (by decide +kernel)) (goodIn_sub (fun _ h => List.mem_cons_of_mem _ (List.mem_append_left _ (List.mem_append_right _ h))) (by decide +kernel))
set_option maxRecDepth 20000 in
theorem gX0_grant_X0_needWatch : GoodIn wsX0_grant (va_wsS RX0 78 yX0_needWatch wsX0_needWatch) := goodIn_app (goodIn_of _ (by decide +kernel)) ggX0_grant_X0_needWatch
set_option maxRecDepth 20000 in
theorem ggX0_grant_X0_needPerson : GoodIn wsX0_grant wsX0_needPerson := goodIn_ca (goodIn_r _ [17, 8, 9, 18, 45, 46, 47, 48, 49, 50, 51, 52, 53, 54] (by decide +kernel) (by decide +kernel)) (goodIn_sub (fun _ h => List.mem_cons_of_mem _ (List.mem_append_left _ (List.mem_append_right _ h))) (by decide +kernel))
set_option maxRecDepth 20000 in
theorem gX0_grant_X0_needPerson : GoodIn wsX0_grant (wsV RX0 60 RX0 yX0_needPerson wsX0_needPerson) := goodIn_app (goodIn_of _ (by decide +kernel)) ggX0_grant_X0_needPerson
set_option maxRecDepth 20000 in
theorem ggX0_grant_X0_needShares : GoodIn wsX0_grant wsX0_needShares := goodIn_ca (goodIn_r _ [21, 22, 23] (by decide +kernel) (by decide +kernel)) (goodIn_sub (fun _ h => List.mem_cons_of_mem _ (List.mem_append_right _ h)) (by decide +kernel))
set_option maxRecDepth 20000 in
theorem gX0_grant_X0_needShares : GoodIn wsX0_grant (va_wsS RX0 81 yX0_needShares wsX0_needShares) := goodIn_app (goodIn_of _ (by decide +kernel)) ggX0_grant_X0_needShares
set_option maxRecDepth 20000 in
theorem ggX0_grant_X0_needAlive : GoodIn wsX0_grant wsX0_needAlive := goodIn_ca (goodIn_r _ [27, 1, 2, 28, 45, 46, 47, 48, 49, 50, 51, 52, 53, 54] (by decide +kernel) (by decide +kernel)) (goodIn_sub (fun _ h => List.mem_cons_of_mem _ (List.mem_append_left _ (List.mem_append_left _ (List.mem_append_right _ h)))) (by decide +kernel))
set_option maxRecDepth 20000 in
theorem gX0_grant_X0_needAlive : GoodIn wsX0_grant (wsV RX0 63 RX0 yX0_needAlive wsX0_needAlive) := goodIn_app (goodIn_of _ (by decide +kernel)) ggX0_grant_X0_needAlive
set_option maxRecDepth 20000 in
theorem ggX0_grant_X0_crownOwns : GoodIn wsX0_grant wsX0_crownOwns := goodIn_r _ [32, 18, 33, 34, 35, 6, 36, 37, 38, 39, 40, 45, 46, 47, 48, 49, 50, 51, 52, 53, 54] (by decide +kernel) (by decide +kernel)
set_option maxRecDepth 20000 in
theorem gX0_grant_X0_crownOwns : GoodIn wsX0_grant (wsV RX0 84 RX0 yX0_crownOwns wsX0_crownOwns) := goodIn_app (goodIn_of _ (by decide +kernel)) ggX0_grant_X0_crownOwns
set_option maxRecDepth 20000 in
theorem ggX0_grant_X0_addShares : GoodIn wsX0_grant wsX0_addShares := goodIn_r _ [44, 37, 38, 39, 6, 40, 45, 46, 47, 48, 49, 50, 51, 52, 53, 54] (by decide +kernel) (by decide +kernel)
set_option maxRecDepth 20000 in
theorem gX0_grant_X0_addShares : GoodIn wsX0_grant (wsV RX0 90 RX0 yX0_addShares wsX0_addShares) := goodIn_app (goodIn_of _ (by decide +kernel)) ggX0_grant_X0_addShares
theorem dX0_grant_0 : decode cX0_grant 0 = .ok (.aload_n 0, 1) := by decide +kernel
theorem dX0_grant_1 : decode cX0_grant 1 = .ok (.iload_n 1, 1) := by decide +kernel
theorem dX0_grant_2 : decode cX0_grant 2 = .ok (.invokevirtual 75, 3) := by decide +kernel
theorem dX0_grant_5 : decode cX0_grant 5 = .ok (.iload_n 2, 1) := by decide +kernel
theorem dX0_grant_6 : decode cX0_grant 6 = .ok (.invokestatic 78, 3) := by decide +kernel
theorem dX0_grant_9 : decode cX0_grant 9 = .ok (.aload_n 0, 1) := by decide +kernel
theorem dX0_grant_10 : decode cX0_grant 10 = .ok (.iload_n 3, 1) := by decide +kernel
theorem dX0_grant_11 : decode cX0_grant 11 = .ok (.invokevirtual 60, 3) := by decide +kernel
theorem dX0_grant_14 : decode cX0_grant 14 = .ok (.iload 4, 2) := by decide +kernel
theorem dX0_grant_16 : decode cX0_grant 16 = .ok (.invokestatic 81, 3) := by decide +kernel
theorem dX0_grant_19 : decode cX0_grant 19 = .ok (.aload_n 0, 1) := by decide +kernel
theorem dX0_grant_20 : decode cX0_grant 20 = .ok (.iload_n 3, 1) := by decide +kernel
theorem dX0_grant_21 : decode cX0_grant 21 = .ok (.invokevirtual 63, 3) := by decide +kernel
theorem dX0_grant_24 : decode cX0_grant 24 = .ok (.aload_n 0, 1) := by decide +kernel
theorem dX0_grant_25 : decode cX0_grant 25 = .ok (.iload_n 1, 1) := by decide +kernel
theorem dX0_grant_26 : decode cX0_grant 26 = .ok (.iload_n 2, 1) := by decide +kernel
theorem dX0_grant_27 : decode cX0_grant 27 = .ok (.invokevirtual 84, 3) := by decide +kernel
theorem dX0_grant_30 : decode cX0_grant 30 = .ok (.iload 4, 2) := by decide +kernel
theorem dX0_grant_32 : decode cX0_grant 32 = .ok (.if_icmp .ge 13, 3) := by decide +kernel
theorem dX0_grant_35 : decode cX0_grant 35 = .ok (.new 46, 3) := by decide +kernel
theorem dX0_grant_38 : decode cX0_grant 38 = .ok (.dup, 1) := by decide +kernel
theorem dX0_grant_39 : decode cX0_grant 39 = .ok (.ldc 88, 2) := by decide +kernel
theorem dX0_grant_41 : decode cX0_grant 41 = .ok (.invokespecial 50, 3) := by decide +kernel
theorem dX0_grant_44 : decode cX0_grant 44 = .ok (.athrow, 1) := by decide +kernel
theorem dX0_grant_45 : decode cX0_grant 45 = .ok (.aload_n 0, 1) := by decide +kernel
theorem dX0_grant_46 : decode cX0_grant 46 = .ok (.iload_n 1, 1) := by decide +kernel
theorem dX0_grant_47 : decode cX0_grant 47 = .ok (.iload_n 2, 1) := by decide +kernel
theorem dX0_grant_48 : decode cX0_grant 48 = .ok (.iload_n 3, 1) := by decide +kernel
theorem dX0_grant_49 : decode cX0_grant 49 = .ok (.iload 4, 2) := by decide +kernel
theorem dX0_grant_51 : decode cX0_grant 51 = .ok (.invokevirtual 90, 3) := by decide +kernel
theorem dX0_grant_54 : decode cX0_grant 54 = .ok (.aload_n 0, 1) := by decide +kernel
theorem dX0_grant_55 : decode cX0_grant 55 = .ok (.iload_n 1, 1) := by decide +kernel
theorem dX0_grant_56 : decode cX0_grant 56 = .ok (.iload_n 2, 1) := by decide +kernel
theorem dX0_grant_57 : decode cX0_grant 57 = .ok (.invokevirtual 84, 3) := by decide +kernel
theorem dX0_grant_60 : decode cX0_grant 60 = .ok (.ireturn, 1) := by decide +kernel
set_option maxRecDepth 20000 in
theorem ggX0_give_X0_needPerson : GoodIn wsX0_give wsX0_needPerson := goodIn_ca (goodIn_r _ [9, 10, 11, 12, 41, 42, 43, 44, 45, 46, 47, 48, 49, 50] (by decide +kernel) (by decide +kernel)) (goodIn_sub (fun _ h => List.mem_cons_of_mem _ (List.mem_append_right _ h)) (by decide +kernel))
set_option maxRecDepth 20000 in
theorem gX0_give_X0_needPerson : GoodIn wsX0_give (wsV RX0 60 RX0 yX0_needPerson wsX0_needPerson) := goodIn_app (goodIn_of _ (by decide +kernel)) ggX0_give_X0_needPerson
set_option maxRecDepth 20000 in
theorem ggX0_give_X0_needFerry : GoodIn wsX0_give wsX0_needFerry := goodIn_ca (goodIn_r _ [16, 10, 11, 17, 41, 42, 43, 44, 45, 46, 47, 48, 49, 50] (by decide +kernel) (by decide +kernel)) (goodIn_sub (fun _ h => List.mem_cons_of_mem _ (List.mem_append_right _ h)) (by decide +kernel))
set_option maxRecDepth 20000 in
theorem gX0_give_X0_needFerry : GoodIn wsX0_give (wsV RX0 75 RX0 yX0_needFerry wsX0_needFerry) := goodIn_app (goodIn_of _ (by decide +kernel)) ggX0_give_X0_needFerry
set_option maxRecDepth 20000 in
theorem ggX0_give_X0_needWatch : GoodIn wsX0_give wsX0_needWatch := goodIn_ca (goodIn_r _ [20, 10, 11] (by decide +kernel) (by decide +kernel)) (goodIn_sub (fun _ h => List.mem_cons_of_mem _ (List.mem_append_right _ h)) (by decide +kernel))
set_option maxRecDepth 20000 in
theorem gX0_give_X0_needWatch : GoodIn wsX0_give (va_wsS RX0 78 yX0_needWatch wsX0_needWatch) := goodIn_app (goodIn_of _ (by decide +kernel)) ggX0_give_X0_needWatch
set_option maxRecDepth 20000 in
theorem ggX0_give_X0_needShares : GoodIn wsX0_give wsX0_needShares := goodIn_ca (goodIn_r _ [23, 1, 2] (by decide +kernel) (by decide +kernel)) (goodIn_sub (fun _ h => List.mem_cons_of_mem _ (List.mem_append_left _ (List.mem_append_left _ (List.mem_append_right _ h)))) (by decide +kernel))
set_option maxRecDepth 20000 in
theorem gX0_give_X0_needShares : GoodIn wsX0_give (va_wsS RX0 81 yX0_needShares wsX0_needShares) := goodIn_app (goodIn_of _ (by decide +kernel)) ggX0_give_X0_needShares
set_option maxRecDepth 20000 in
theorem ggX0_give_X0_needAlive : GoodIn wsX0_give wsX0_needAlive := goodIn_ca (goodIn_r _ [27, 3, 4, 28, 41, 42, 43, 44, 45, 46, 47, 48, 49, 50] (by decide +kernel) (by decide +kernel)) (goodIn_sub (fun _ h => List.mem_cons_of_mem _ (List.mem_append_left _ (List.mem_append_right _ h))) (by decide +kernel))
set_option maxRecDepth 20000 in
theorem gX0_give_X0_needAlive : GoodIn wsX0_give (wsV RX0 63 RX0 yX0_needAlive wsX0_needAlive) := goodIn_app (goodIn_of _ (by decide +kernel)) ggX0_give_X0_needAlive
set_option maxRecDepth 20000 in
theorem ggX0_give_X0_owns : GoodIn wsX0_give wsX0_owns := goodIn_r _ [32, 33, 34, 35, 8, 36, 41, 42, 43, 44, 45, 46, 47, 48, 49, 50] (by decide +kernel) (by decide +kernel)
set_option maxRecDepth 20000 in
theorem gX0_give_X0_owns : GoodIn wsX0_give (wsV RX0 96 RX0 yX0_owns wsX0_owns) := goodIn_app (goodIn_of _ (by decide +kernel)) ggX0_give_X0_owns
set_option maxRecDepth 20000 in
theorem ggX0_give_X0_addShares : GoodIn wsX0_give wsX0_addShares := goodIn_r _ [40, 33, 34, 35, 8, 36, 41, 42, 43, 44, 45, 46, 47, 48, 49, 50] (by decide +kernel) (by decide +kernel)
set_option maxRecDepth 20000 in
theorem gX0_give_X0_addShares : GoodIn wsX0_give (wsV RX0 90 RX0 yX0_addShares wsX0_addShares) := goodIn_app (goodIn_of _ (by decide +kernel)) ggX0_give_X0_addShares
theorem dX0_give_0 : decode cX0_give 0 = .ok (.aload_n 0, 1) := by decide +kernel
theorem dX0_give_1 : decode cX0_give 1 = .ok (.iload_n 1, 1) := by decide +kernel
theorem dX0_give_2 : decode cX0_give 2 = .ok (.invokevirtual 60, 3) := by decide +kernel
theorem dX0_give_5 : decode cX0_give 5 = .ok (.aload_n 0, 1) := by decide +kernel
theorem dX0_give_6 : decode cX0_give 6 = .ok (.iload_n 2, 1) := by decide +kernel
theorem dX0_give_7 : decode cX0_give 7 = .ok (.invokevirtual 60, 3) := by decide +kernel
theorem dX0_give_10 : decode cX0_give 10 = .ok (.aload_n 0, 1) := by decide +kernel
theorem dX0_give_11 : decode cX0_give 11 = .ok (.iload_n 3, 1) := by decide +kernel
theorem dX0_give_12 : decode cX0_give 12 = .ok (.invokevirtual 75, 3) := by decide +kernel
theorem dX0_give_15 : decode cX0_give 15 = .ok (.iload 4, 2) := by decide +kernel
theorem dX0_give_17 : decode cX0_give 17 = .ok (.invokestatic 78, 3) := by decide +kernel
theorem dX0_give_20 : decode cX0_give 20 = .ok (.iload 5, 2) := by decide +kernel
theorem dX0_give_22 : decode cX0_give 22 = .ok (.invokestatic 81, 3) := by decide +kernel
theorem dX0_give_25 : decode cX0_give 25 = .ok (.iload_n 1, 1) := by decide +kernel
theorem dX0_give_26 : decode cX0_give 26 = .ok (.iload_n 2, 1) := by decide +kernel
theorem dX0_give_27 : decode cX0_give 27 = .ok (.if_icmp .ne 13, 3) := by decide +kernel
theorem dX0_give_30 : decode cX0_give 30 = .ok (.new 66, 3) := by decide +kernel
theorem dX0_give_33 : decode cX0_give 33 = .ok (.dup, 1) := by decide +kernel
theorem dX0_give_34 : decode cX0_give 34 = .ok (.ldc 94, 2) := by decide +kernel
theorem dX0_give_36 : decode cX0_give 36 = .ok (.invokespecial 70, 3) := by decide +kernel
theorem dX0_give_39 : decode cX0_give 39 = .ok (.athrow, 1) := by decide +kernel
theorem dX0_give_40 : decode cX0_give 40 = .ok (.aload_n 0, 1) := by decide +kernel
theorem dX0_give_41 : decode cX0_give 41 = .ok (.iload_n 2, 1) := by decide +kernel
theorem dX0_give_42 : decode cX0_give 42 = .ok (.invokevirtual 63, 3) := by decide +kernel
theorem dX0_give_45 : decode cX0_give 45 = .ok (.aload_n 0, 1) := by decide +kernel
theorem dX0_give_46 : decode cX0_give 46 = .ok (.iload_n 3, 1) := by decide +kernel
theorem dX0_give_47 : decode cX0_give 47 = .ok (.iload 4, 2) := by decide +kernel
theorem dX0_give_49 : decode cX0_give 49 = .ok (.iload_n 1, 1) := by decide +kernel
theorem dX0_give_50 : decode cX0_give 50 = .ok (.invokevirtual 96, 3) := by decide +kernel
theorem dX0_give_53 : decode cX0_give 53 = .ok (.iload 5, 2) := by decide +kernel
theorem dX0_give_55 : decode cX0_give 55 = .ok (.if_icmp .ge 13, 3) := by decide +kernel
theorem dX0_give_58 : decode cX0_give 58 = .ok (.new 46, 3) := by decide +kernel
theorem dX0_give_61 : decode cX0_give 61 = .ok (.dup, 1) := by decide +kernel
theorem dX0_give_62 : decode cX0_give 62 = .ok (.ldc 100, 2) := by decide +kernel
theorem dX0_give_64 : decode cX0_give 64 = .ok (.invokespecial 50, 3) := by decide +kernel
theorem dX0_give_67 : decode cX0_give 67 = .ok (.athrow, 1) := by decide +kernel
theorem dX0_give_68 : decode cX0_give 68 = .ok (.aload_n 0, 1) := by decide +kernel
theorem dX0_give_69 : decode cX0_give 69 = .ok (.iload_n 3, 1) := by decide +kernel
theorem dX0_give_70 : decode cX0_give 70 = .ok (.iload 4, 2) := by decide +kernel
theorem dX0_give_72 : decode cX0_give 72 = .ok (.iload_n 1, 1) := by decide +kernel
theorem dX0_give_73 : decode cX0_give 73 = .ok (.iload 5, 2) := by decide +kernel
theorem dX0_give_75 : decode cX0_give 75 = .ok (.ineg, 1) := by decide +kernel
theorem dX0_give_76 : decode cX0_give 76 = .ok (.invokevirtual 90, 3) := by decide +kernel
theorem dX0_give_79 : decode cX0_give 79 = .ok (.aload_n 0, 1) := by decide +kernel
theorem dX0_give_80 : decode cX0_give 80 = .ok (.iload_n 3, 1) := by decide +kernel
theorem dX0_give_81 : decode cX0_give 81 = .ok (.iload 4, 2) := by decide +kernel
theorem dX0_give_83 : decode cX0_give 83 = .ok (.iload_n 2, 1) := by decide +kernel
theorem dX0_give_84 : decode cX0_give 84 = .ok (.iload 5, 2) := by decide +kernel
theorem dX0_give_86 : decode cX0_give 86 = .ok (.invokevirtual 90, 3) := by decide +kernel
theorem dX0_give_89 : decode cX0_give 89 = .ok (.aload_n 0, 1) := by decide +kernel
theorem dX0_give_90 : decode cX0_give 90 = .ok (.iload_n 3, 1) := by decide +kernel
theorem dX0_give_91 : decode cX0_give 91 = .ok (.iload 4, 2) := by decide +kernel
theorem dX0_give_93 : decode cX0_give 93 = .ok (.iload_n 2, 1) := by decide +kernel
theorem dX0_give_94 : decode cX0_give 94 = .ok (.invokevirtual 96, 3) := by decide +kernel
theorem dX0_give_97 : decode cX0_give 97 = .ok (.ireturn, 1) := by decide +kernel
set_option maxRecDepth 20000 in
theorem ggX0_buy_X0_needSale : GoodIn wsX0_buy wsX0_needSale := goodIn_ca (goodIn_r _ [8, 9, 10, 11, 7, 12, 13, 14, 15, 16, 17, 18, 19, 20, 21, 22, 23, 63, 64, 65, 66, 67, 68, 69, 70, 71, 72] (by decide +kernel) (by decide +kernel)) (goodIn_sub (fun _ h => List.mem_cons_of_mem _ (List.mem_append_right _ h)) (by decide +kernel))
set_option maxRecDepth 20000 in
theorem gX0_buy_X0_needSale : GoodIn wsX0_buy (wsV RX0 102 RX0 yX0_needSale wsX0_needSale) := goodIn_app (goodIn_of _ (by decide +kernel)) ggX0_buy_X0_needSale
set_option maxRecDepth 20000 in
theorem ggX0_buy_X0_mayBuy : GoodIn wsX0_buy wsX0_mayBuy := goodIn_r _ [27, 28, 3, 29, 30, 31, 7, 32, 33, 34, 35, 36, 37, 38, 39, 40, 41, 42, 43, 44, 45, 46, 47, 48, 49, 50, 15, 63, 64, 65, 66, 67, 68, 69, 70, 71, 72] (by decide +kernel) (by decide +kernel)
set_option maxRecDepth 20000 in
theorem gX0_buy_X0_mayBuy : GoodIn wsX0_buy (wsV RX0 105 RX0 yX0_mayBuy wsX0_mayBuy) := goodIn_app (goodIn_of _ (by decide +kernel)) ggX0_buy_X0_mayBuy
set_option maxRecDepth 20000 in
theorem ggX0_buy_X0_priceOf : GoodIn wsX0_buy wsX0_priceOf := goodIn_r _ [32, 33, 34, 35, 7, 36, 37, 38, 39, 40, 41, 42, 43, 44, 45, 46, 63, 64, 65, 66, 67, 68, 69, 70, 71, 72] (by decide +kernel) (by decide +kernel)
set_option maxRecDepth 20000 in
theorem gX0_buy_X0_priceOf : GoodIn wsX0_buy (wsV RX0 111 RX0 yX0_priceOf wsX0_priceOf) := goodIn_app (goodIn_of _ (by decide +kernel)) ggX0_buy_X0_priceOf
set_option maxRecDepth 20000 in
theorem ggX0_buy_X0_owns : GoodIn wsX0_buy wsX0_owns := goodIn_r _ [36, 37, 38, 39, 7, 40, 63, 64, 65, 66, 67, 68, 69, 70, 71, 72] (by decide +kernel) (by decide +kernel)
set_option maxRecDepth 20000 in
theorem gX0_buy_X0_owns : GoodIn wsX0_buy (wsV RX0 96 RX0 yX0_owns wsX0_owns) := goodIn_app (goodIn_of _ (by decide +kernel)) ggX0_buy_X0_owns
set_option maxRecDepth 20000 in
theorem ggX0_buy_X0_addCoins : GoodIn wsX0_buy wsX0_addCoins := goodIn_r _ [54, 3, 55, 56, 57, 58, 63, 64, 65, 66, 67, 68, 69, 70, 71, 72] (by decide +kernel) (by decide +kernel)
set_option maxRecDepth 20000 in
theorem gX0_buy_X0_addCoins : GoodIn wsX0_buy (wsV RX0 71 RX0 yX0_addCoins wsX0_addCoins) := goodIn_app (goodIn_of _ (by decide +kernel)) ggX0_buy_X0_addCoins
set_option maxRecDepth 20000 in
theorem ggX0_buy_X0_addShares : GoodIn wsX0_buy wsX0_addShares := goodIn_r _ [62, 37, 38, 39, 7, 40, 63, 64, 65, 66, 67, 68, 69, 70, 71, 72] (by decide +kernel) (by decide +kernel)
set_option maxRecDepth 20000 in
theorem gX0_buy_X0_addShares : GoodIn wsX0_buy (wsV RX0 90 RX0 yX0_addShares wsX0_addShares) := goodIn_app (goodIn_of _ (by decide +kernel)) ggX0_buy_X0_addShares
theorem dX0_buy_0 : decode cX0_buy 0 = .ok (.aload_n 0, 1) := by decide +kernel
theorem dX0_buy_1 : decode cX0_buy 1 = .ok (.iload_n 1, 1) := by decide +kernel
theorem dX0_buy_2 : decode cX0_buy 2 = .ok (.iload_n 2, 1) := by decide +kernel
theorem dX0_buy_3 : decode cX0_buy 3 = .ok (.iload_n 3, 1) := by decide +kernel
theorem dX0_buy_4 : decode cX0_buy 4 = .ok (.iload 4, 2) := by decide +kernel
theorem dX0_buy_6 : decode cX0_buy 6 = .ok (.invokevirtual 102, 3) := by decide +kernel
theorem dX0_buy_9 : decode cX0_buy 9 = .ok (.aload_n 0, 1) := by decide +kernel
theorem dX0_buy_10 : decode cX0_buy 10 = .ok (.iload_n 1, 1) := by decide +kernel
theorem dX0_buy_11 : decode cX0_buy 11 = .ok (.iload_n 2, 1) := by decide +kernel
theorem dX0_buy_12 : decode cX0_buy 12 = .ok (.iload_n 3, 1) := by decide +kernel
theorem dX0_buy_13 : decode cX0_buy 13 = .ok (.iload 4, 2) := by decide +kernel
theorem dX0_buy_15 : decode cX0_buy 15 = .ok (.invokevirtual 105, 3) := by decide +kernel
theorem dX0_buy_18 : decode cX0_buy 18 = .ok (.ifCond .ne 13, 3) := by decide +kernel
theorem dX0_buy_21 : decode cX0_buy 21 = .ok (.new 46, 3) := by decide +kernel
theorem dX0_buy_24 : decode cX0_buy 24 = .ok (.dup, 1) := by decide +kernel
theorem dX0_buy_25 : decode cX0_buy 25 = .ok (.ldc 109, 2) := by decide +kernel
theorem dX0_buy_27 : decode cX0_buy 27 = .ok (.invokespecial 50, 3) := by decide +kernel
theorem dX0_buy_30 : decode cX0_buy 30 = .ok (.athrow, 1) := by decide +kernel
theorem dX0_buy_31 : decode cX0_buy 31 = .ok (.aload_n 0, 1) := by decide +kernel
theorem dX0_buy_32 : decode cX0_buy 32 = .ok (.iload_n 2, 1) := by decide +kernel
theorem dX0_buy_33 : decode cX0_buy 33 = .ok (.iload_n 3, 1) := by decide +kernel
theorem dX0_buy_34 : decode cX0_buy 34 = .ok (.iload 4, 2) := by decide +kernel
theorem dX0_buy_36 : decode cX0_buy 36 = .ok (.invokevirtual 111, 3) := by decide +kernel
theorem dX0_buy_39 : decode cX0_buy 39 = .ok (.istore 5, 2) := by decide +kernel
theorem dX0_buy_41 : decode cX0_buy 41 = .ok (.aload_n 0, 1) := by decide +kernel
theorem dX0_buy_42 : decode cX0_buy 42 = .ok (.iload_n 3, 1) := by decide +kernel
theorem dX0_buy_43 : decode cX0_buy 43 = .ok (.iload 4, 2) := by decide +kernel
theorem dX0_buy_45 : decode cX0_buy 45 = .ok (.iload_n 2, 1) := by decide +kernel
theorem dX0_buy_46 : decode cX0_buy 46 = .ok (.invokevirtual 96, 3) := by decide +kernel
theorem dX0_buy_49 : decode cX0_buy 49 = .ok (.istore 6, 2) := by decide +kernel
theorem dX0_buy_51 : decode cX0_buy 51 = .ok (.aload_n 0, 1) := by decide +kernel
theorem dX0_buy_52 : decode cX0_buy 52 = .ok (.getfield 30, 3) := by decide +kernel
theorem dX0_buy_55 : decode cX0_buy 55 = .ok (.iload_n 1, 1) := by decide +kernel
theorem dX0_buy_56 : decode cX0_buy 56 = .ok (.dup2, 1) := by decide +kernel
theorem dX0_buy_57 : decode cX0_buy 57 = .ok (.iaload, 1) := by decide +kernel
theorem dX0_buy_58 : decode cX0_buy 58 = .ok (.iload 5, 2) := by decide +kernel
theorem dX0_buy_60 : decode cX0_buy 60 = .ok (.isub, 1) := by decide +kernel
theorem dX0_buy_61 : decode cX0_buy 61 = .ok (.iastore, 1) := by decide +kernel
theorem dX0_buy_62 : decode cX0_buy 62 = .ok (.aload_n 0, 1) := by decide +kernel
theorem dX0_buy_63 : decode cX0_buy 63 = .ok (.iload_n 2, 1) := by decide +kernel
theorem dX0_buy_64 : decode cX0_buy 64 = .ok (.iload 5, 2) := by decide +kernel
theorem dX0_buy_66 : decode cX0_buy 66 = .ok (.invokevirtual 71, 3) := by decide +kernel
theorem dX0_buy_69 : decode cX0_buy 69 = .ok (.aload_n 0, 1) := by decide +kernel
theorem dX0_buy_70 : decode cX0_buy 70 = .ok (.iload_n 3, 1) := by decide +kernel
theorem dX0_buy_71 : decode cX0_buy 71 = .ok (.iload 4, 2) := by decide +kernel
theorem dX0_buy_73 : decode cX0_buy 73 = .ok (.iload_n 2, 1) := by decide +kernel
theorem dX0_buy_74 : decode cX0_buy 74 = .ok (.iload 6, 2) := by decide +kernel
theorem dX0_buy_76 : decode cX0_buy 76 = .ok (.ineg, 1) := by decide +kernel
theorem dX0_buy_77 : decode cX0_buy 77 = .ok (.invokevirtual 90, 3) := by decide +kernel
theorem dX0_buy_80 : decode cX0_buy 80 = .ok (.aload_n 0, 1) := by decide +kernel
theorem dX0_buy_81 : decode cX0_buy 81 = .ok (.iload_n 3, 1) := by decide +kernel
theorem dX0_buy_82 : decode cX0_buy 82 = .ok (.iload 4, 2) := by decide +kernel
theorem dX0_buy_84 : decode cX0_buy 84 = .ok (.iload_n 1, 1) := by decide +kernel
theorem dX0_buy_85 : decode cX0_buy 85 = .ok (.iload 6, 2) := by decide +kernel
theorem dX0_buy_87 : decode cX0_buy 87 = .ok (.invokevirtual 90, 3) := by decide +kernel
theorem dX0_buy_90 : decode cX0_buy 90 = .ok (.iload 5, 2) := by decide +kernel
theorem dX0_buy_92 : decode cX0_buy 92 = .ok (.ireturn, 1) := by decide +kernel
set_option maxRecDepth 20000 in
theorem ggX0_setToll_X0_needFerry : GoodIn wsX0_setToll wsX0_needFerry := goodIn_ca (goodIn_r _ [8, 9, 10, 11, 38, 39, 40, 41, 42, 43, 44, 45, 46, 47] (by decide +kernel) (by decide +kernel)) (goodIn_sub (fun _ h => List.mem_cons_of_mem _ (List.mem_append_left _ (List.mem_append_right _ h))) (by decide +kernel))
set_option maxRecDepth 20000 in
theorem gX0_setToll_X0_needFerry : GoodIn wsX0_setToll (wsV RX0 75 RX0 yX0_needFerry wsX0_needFerry) := goodIn_app (goodIn_of _ (by decide +kernel)) ggX0_setToll_X0_needFerry
set_option maxRecDepth 20000 in
theorem ggX0_setToll_X0_needPerson : GoodIn wsX0_setToll wsX0_needPerson := goodIn_ca (goodIn_r _ [15, 9, 10, 16, 38, 39, 40, 41, 42, 43, 44, 45, 46, 47] (by decide +kernel) (by decide +kernel)) (goodIn_sub (fun _ h => List.mem_cons_of_mem _ (List.mem_append_left _ (List.mem_append_right _ h))) (by decide +kernel))
set_option maxRecDepth 20000 in
theorem gX0_setToll_X0_needPerson : GoodIn wsX0_setToll (wsV RX0 60 RX0 yX0_needPerson wsX0_needPerson) := goodIn_app (goodIn_of _ (by decide +kernel)) ggX0_setToll_X0_needPerson
set_option maxRecDepth 20000 in
theorem ggX0_setToll_X0_needToll : GoodIn wsX0_setToll wsX0_needToll := goodIn_ca (goodIn_r _ [19, 20, 21] (by decide +kernel) (by decide +kernel)) (goodIn_sub (fun _ h => List.mem_cons_of_mem _ (List.mem_append_right _ h)) (by decide +kernel))
set_option maxRecDepth 20000 in
theorem gX0_setToll_X0_needToll : GoodIn wsX0_setToll (va_wsS RX0 42 yX0_needToll wsX0_needToll) := goodIn_app (goodIn_of _ (by decide +kernel)) ggX0_setToll_X0_needToll
set_option maxRecDepth 20000 in
theorem ggX0_setToll_X0_findMaster : GoodIn wsX0_setToll wsX0_findMaster := goodIn_r _ [25, 16, 26, 27, 28, 7, 29, 30, 31, 32, 33, 34, 35, 36, 37, 38, 39, 40, 41, 42, 43, 44, 45, 46, 47] (by decide +kernel) (by decide +kernel)
set_option maxRecDepth 20000 in
theorem gX0_setToll_X0_findMaster : GoodIn wsX0_setToll (wsV RX0 114 RX0 yX0_findMaster wsX0_findMaster) := goodIn_app (goodIn_of _ (by decide +kernel)) ggX0_setToll_X0_findMaster
theorem dX0_setToll_0 : decode cX0_setToll 0 = .ok (.aload_n 0, 1) := by decide +kernel
theorem dX0_setToll_1 : decode cX0_setToll 1 = .ok (.iload_n 1, 1) := by decide +kernel
theorem dX0_setToll_2 : decode cX0_setToll 2 = .ok (.invokevirtual 75, 3) := by decide +kernel
theorem dX0_setToll_5 : decode cX0_setToll 5 = .ok (.aload_n 0, 1) := by decide +kernel
theorem dX0_setToll_6 : decode cX0_setToll 6 = .ok (.iload_n 2, 1) := by decide +kernel
theorem dX0_setToll_7 : decode cX0_setToll 7 = .ok (.invokevirtual 60, 3) := by decide +kernel
theorem dX0_setToll_10 : decode cX0_setToll 10 = .ok (.iload_n 3, 1) := by decide +kernel
theorem dX0_setToll_11 : decode cX0_setToll 11 = .ok (.invokestatic 42, 3) := by decide +kernel
theorem dX0_setToll_14 : decode cX0_setToll 14 = .ok (.aload_n 0, 1) := by decide +kernel
theorem dX0_setToll_15 : decode cX0_setToll 15 = .ok (.iload_n 1, 1) := by decide +kernel
theorem dX0_setToll_16 : decode cX0_setToll 16 = .ok (.invokevirtual 114, 3) := by decide +kernel
theorem dX0_setToll_19 : decode cX0_setToll 19 = .ok (.iload_n 2, 1) := by decide +kernel
theorem dX0_setToll_20 : decode cX0_setToll 20 = .ok (.if_icmp .eq 13, 3) := by decide +kernel
theorem dX0_setToll_23 : decode cX0_setToll 23 = .ok (.new 46, 3) := by decide +kernel
theorem dX0_setToll_26 : decode cX0_setToll 26 = .ok (.dup, 1) := by decide +kernel
theorem dX0_setToll_27 : decode cX0_setToll 27 = .ok (.ldc 117, 2) := by decide +kernel
theorem dX0_setToll_29 : decode cX0_setToll 29 = .ok (.invokespecial 50, 3) := by decide +kernel
theorem dX0_setToll_32 : decode cX0_setToll 32 = .ok (.athrow, 1) := by decide +kernel
theorem dX0_setToll_33 : decode cX0_setToll 33 = .ok (.aload_n 0, 1) := by decide +kernel
theorem dX0_setToll_34 : decode cX0_setToll 34 = .ok (.getfield 13, 3) := by decide +kernel
theorem dX0_setToll_37 : decode cX0_setToll 37 = .ok (.iload_n 1, 1) := by decide +kernel
theorem dX0_setToll_38 : decode cX0_setToll 38 = .ok (.iaload, 1) := by decide +kernel
theorem dX0_setToll_39 : decode cX0_setToll 39 = .ok (.istore 4, 2) := by decide +kernel
theorem dX0_setToll_41 : decode cX0_setToll 41 = .ok (.aload_n 0, 1) := by decide +kernel
theorem dX0_setToll_42 : decode cX0_setToll 42 = .ok (.getfield 13, 3) := by decide +kernel
theorem dX0_setToll_45 : decode cX0_setToll 45 = .ok (.iload_n 1, 1) := by decide +kernel
theorem dX0_setToll_46 : decode cX0_setToll 46 = .ok (.iload_n 3, 1) := by decide +kernel
theorem dX0_setToll_47 : decode cX0_setToll 47 = .ok (.iastore, 1) := by decide +kernel
theorem dX0_setToll_48 : decode cX0_setToll 48 = .ok (.iload 4, 2) := by decide +kernel
theorem dX0_setToll_50 : decode cX0_setToll 50 = .ok (.ireturn, 1) := by decide +kernel
set_option maxRecDepth 20000 in
theorem ggX0_carry_X0_needFerry : GoodIn wsX0_carry wsX0_needFerry := goodIn_ca (goodIn_r _ [10, 11, 12, 13, 43, 44, 45, 46, 47, 48, 49, 50, 51, 52] (by decide +kernel) (by decide +kernel)) (goodIn_sub (fun _ h => List.mem_cons_of_mem _ (List.mem_append_left _ (List.mem_append_right _ h))) (by decide +kernel))
set_option maxRecDepth 20000 in
theorem gX0_carry_X0_needFerry : GoodIn wsX0_carry (wsV RX0 75 RX0 yX0_needFerry wsX0_needFerry) := goodIn_app (goodIn_of _ (by decide +kernel)) ggX0_carry_X0_needFerry
set_option maxRecDepth 20000 in
theorem ggX0_carry_X0_needHour : GoodIn wsX0_carry wsX0_needHour := goodIn_ca (goodIn_r _ [16, 11, 12] (by decide +kernel) (by decide +kernel)) (goodIn_sub (fun _ h => List.mem_cons_of_mem _ (List.mem_append_left _ (List.mem_append_right _ h))) (by decide +kernel))
set_option maxRecDepth 20000 in
theorem gX0_carry_X0_needHour : GoodIn wsX0_carry (va_wsS RX0 119 yX0_needHour wsX0_needHour) := goodIn_app (goodIn_of _ (by decide +kernel)) ggX0_carry_X0_needHour
set_option maxRecDepth 20000 in
theorem ggX0_carry_X0_needPassengers : GoodIn wsX0_carry wsX0_needPassengers := goodIn_ca (goodIn_r _ [19, 20, 21] (by decide +kernel) (by decide +kernel)) (goodIn_sub (fun _ h => List.mem_cons_of_mem _ (List.mem_append_right _ h)) (by decide +kernel))
set_option maxRecDepth 20000 in
theorem gX0_carry_X0_needPassengers : GoodIn wsX0_carry (va_wsS RX0 122 yX0_needPassengers wsX0_needPassengers) := goodIn_app (goodIn_of _ (by decide +kernel)) ggX0_carry_X0_needPassengers
set_option maxRecDepth 20000 in
theorem ggX0_carry_X0_fareOf : GoodIn wsX0_carry wsX0_fareOf := goodIn_r _ [25, 1, 26, 27, 28, 9, 29, 30, 31, 32, 33, 43, 44, 45, 46, 47, 48, 49, 50, 51, 52] (by decide +kernel) (by decide +kernel)
set_option maxRecDepth 20000 in
theorem gX0_carry_X0_fareOf : GoodIn wsX0_carry (wsV RX0 125 RX0 yX0_fareOf wsX0_fareOf) := goodIn_app (goodIn_of _ (by decide +kernel)) ggX0_carry_X0_fareOf
set_option maxRecDepth 20000 in
theorem ggX0_carry_X0_addCoins : GoodIn wsX0_carry wsX0_addCoins := goodIn_r _ [37, 38, 39, 40, 41, 42, 43, 44, 45, 46, 47, 48, 49, 50, 51, 52] (by decide +kernel) (by decide +kernel)
set_option maxRecDepth 20000 in
theorem gX0_carry_X0_addCoins : GoodIn wsX0_carry (wsV RX0 71 RX0 yX0_addCoins wsX0_addCoins) := goodIn_app (goodIn_of _ (by decide +kernel)) ggX0_carry_X0_addCoins
theorem dX0_carry_0 : decode cX0_carry 0 = .ok (.aload_n 0, 1) := by decide +kernel
theorem dX0_carry_1 : decode cX0_carry 1 = .ok (.iload_n 1, 1) := by decide +kernel
theorem dX0_carry_2 : decode cX0_carry 2 = .ok (.invokevirtual 75, 3) := by decide +kernel
theorem dX0_carry_5 : decode cX0_carry 5 = .ok (.iload_n 2, 1) := by decide +kernel
theorem dX0_carry_6 : decode cX0_carry 6 = .ok (.invokestatic 119, 3) := by decide +kernel
theorem dX0_carry_9 : decode cX0_carry 9 = .ok (.iload_n 3, 1) := by decide +kernel
theorem dX0_carry_10 : decode cX0_carry 10 = .ok (.invokestatic 122, 3) := by decide +kernel
theorem dX0_carry_13 : decode cX0_carry 13 = .ok (.iload_n 2, 1) := by decide +kernel
theorem dX0_carry_14 : decode cX0_carry 14 = .ok (.bipush 6, 2) := by decide +kernel
theorem dX0_carry_16 : decode cX0_carry 16 = .ok (.idiv, 1) := by decide +kernel
theorem dX0_carry_17 : decode cX0_carry 17 = .ok (.istore 4, 2) := by decide +kernel
theorem dX0_carry_19 : decode cX0_carry 19 = .ok (.aload_n 0, 1) := by decide +kernel
theorem dX0_carry_20 : decode cX0_carry 20 = .ok (.getfield 13, 3) := by decide +kernel
theorem dX0_carry_23 : decode cX0_carry 23 = .ok (.iload_n 1, 1) := by decide +kernel
theorem dX0_carry_24 : decode cX0_carry 24 = .ok (.iaload, 1) := by decide +kernel
theorem dX0_carry_25 : decode cX0_carry 25 = .ok (.iload_n 3, 1) := by decide +kernel
theorem dX0_carry_26 : decode cX0_carry 26 = .ok (.imul, 1) := by decide +kernel
theorem dX0_carry_27 : decode cX0_carry 27 = .ok (.istore 5, 2) := by decide +kernel
theorem dX0_carry_29 : decode cX0_carry 29 = .ok (.iconst 0, 1) := by decide +kernel
theorem dX0_carry_30 : decode cX0_carry 30 = .ok (.istore 6, 2) := by decide +kernel
theorem dX0_carry_32 : decode cX0_carry 32 = .ok (.iload 6, 2) := by decide +kernel
theorem dX0_carry_34 : decode cX0_carry 34 = .ok (.aload_n 0, 1) := by decide +kernel
theorem dX0_carry_35 : decode cX0_carry 35 = .ok (.getfield 23, 3) := by decide +kernel
theorem dX0_carry_38 : decode cX0_carry 38 = .ok (.if_icmp .ge 48, 3) := by decide +kernel
theorem dX0_carry_41 : decode cX0_carry 41 = .ok (.aload_n 0, 1) := by decide +kernel
theorem dX0_carry_42 : decode cX0_carry 42 = .ok (.iload 6, 2) := by decide +kernel
theorem dX0_carry_44 : decode cX0_carry 44 = .ok (.iload_n 1, 1) := by decide +kernel
theorem dX0_carry_45 : decode cX0_carry 45 = .ok (.iload 4, 2) := by decide +kernel
theorem dX0_carry_47 : decode cX0_carry 47 = .ok (.iload_n 3, 1) := by decide +kernel
theorem dX0_carry_48 : decode cX0_carry 48 = .ok (.invokevirtual 125, 3) := by decide +kernel
theorem dX0_carry_51 : decode cX0_carry 51 = .ok (.istore 7, 2) := by decide +kernel
theorem dX0_carry_53 : decode cX0_carry 53 = .ok (.aload_n 0, 1) := by decide +kernel
theorem dX0_carry_54 : decode cX0_carry 54 = .ok (.getfield 33, 3) := by decide +kernel
theorem dX0_carry_57 : decode cX0_carry 57 = .ok (.iload 6, 2) := by decide +kernel
theorem dX0_carry_59 : decode cX0_carry 59 = .ok (.dup2, 1) := by decide +kernel
theorem dX0_carry_60 : decode cX0_carry 60 = .ok (.iaload, 1) := by decide +kernel
theorem dX0_carry_61 : decode cX0_carry 61 = .ok (.iload 7, 2) := by decide +kernel
theorem dX0_carry_63 : decode cX0_carry 63 = .ok (.iadd, 1) := by decide +kernel
theorem dX0_carry_64 : decode cX0_carry 64 = .ok (.iastore, 1) := by decide +kernel
theorem dX0_carry_65 : decode cX0_carry 65 = .ok (.aload_n 0, 1) := by decide +kernel
theorem dX0_carry_66 : decode cX0_carry 66 = .ok (.iload 6, 2) := by decide +kernel
theorem dX0_carry_68 : decode cX0_carry 68 = .ok (.iload 7, 2) := by decide +kernel
theorem dX0_carry_70 : decode cX0_carry 70 = .ok (.invokevirtual 71, 3) := by decide +kernel
theorem dX0_carry_73 : decode cX0_carry 73 = .ok (.iload 5, 2) := by decide +kernel
theorem dX0_carry_75 : decode cX0_carry 75 = .ok (.iload 7, 2) := by decide +kernel
theorem dX0_carry_77 : decode cX0_carry 77 = .ok (.isub, 1) := by decide +kernel
theorem dX0_carry_78 : decode cX0_carry 78 = .ok (.istore 5, 2) := by decide +kernel
theorem dX0_carry_80 : decode cX0_carry 80 = .ok (.iinc 6 1, 3) := by decide +kernel
theorem dX0_carry_83 : decode cX0_carry 83 = .ok (.goto (-51), 3) := by decide +kernel
theorem dX0_carry_86 : decode cX0_carry 86 = .ok (.aload_n 0, 1) := by decide +kernel
theorem dX0_carry_87 : decode cX0_carry 87 = .ok (.dup, 1) := by decide +kernel
theorem dX0_carry_88 : decode cX0_carry 88 = .ok (.getfield 39, 3) := by decide +kernel
theorem dX0_carry_91 : decode cX0_carry 91 = .ok (.iload 5, 2) := by decide +kernel
theorem dX0_carry_93 : decode cX0_carry 93 = .ok (.iadd, 1) := by decide +kernel
theorem dX0_carry_94 : decode cX0_carry 94 = .ok (.putfield 39, 3) := by decide +kernel
theorem dX0_carry_97 : decode cX0_carry 97 = .ok (.aload_n 0, 1) := by decide +kernel
theorem dX0_carry_98 : decode cX0_carry 98 = .ok (.getfield 17, 3) := by decide +kernel
theorem dX0_carry_101 : decode cX0_carry 101 = .ok (.iload_n 1, 1) := by decide +kernel
theorem dX0_carry_102 : decode cX0_carry 102 = .ok (.dup2, 1) := by decide +kernel
theorem dX0_carry_103 : decode cX0_carry 103 = .ok (.iaload, 1) := by decide +kernel
theorem dX0_carry_104 : decode cX0_carry 104 = .ok (.iload_n 3, 1) := by decide +kernel
theorem dX0_carry_105 : decode cX0_carry 105 = .ok (.iadd, 1) := by decide +kernel
theorem dX0_carry_106 : decode cX0_carry 106 = .ok (.iastore, 1) := by decide +kernel
theorem dX0_carry_107 : decode cX0_carry 107 = .ok (.iload 5, 2) := by decide +kernel
theorem dX0_carry_109 : decode cX0_carry 109 = .ok (.ireturn, 1) := by decide +kernel
set_option maxRecDepth 20000 in
theorem ggX0_die_X0_needPerson : GoodIn wsX0_die wsX0_needPerson := goodIn_ca (goodIn_r _ [8, 9, 10, 1, 67, 68, 69, 70, 71, 72, 73, 74, 75, 76] (by decide +kernel) (by decide +kernel)) (goodIn_sub (fun _ h => List.mem_cons_of_mem _ (List.mem_append_left _ (List.mem_append_right _ h))) (by decide +kernel))
set_option maxRecDepth 20000 in
theorem gX0_die_X0_needPerson : GoodIn wsX0_die (wsV RX0 60 RX0 yX0_needPerson wsX0_needPerson) := goodIn_app (goodIn_of _ (by decide +kernel)) ggX0_die_X0_needPerson
set_option maxRecDepth 20000 in
theorem ggX0_die_X0_needAlive : GoodIn wsX0_die wsX0_needAlive := goodIn_ca (goodIn_r _ [14, 15, 16, 17, 67, 68, 69, 70, 71, 72, 73, 74, 75, 76] (by decide +kernel) (by decide +kernel)) (goodIn_sub (fun _ h => List.mem_cons_of_mem _ (List.mem_append_right _ h)) (by decide +kernel))
set_option maxRecDepth 20000 in
theorem gX0_die_X0_needAlive : GoodIn wsX0_die (wsV RX0 63 RX0 yX0_needAlive wsX0_needAlive) := goodIn_app (goodIn_of _ (by decide +kernel)) ggX0_die_X0_needAlive
set_option maxRecDepth 20000 in
theorem ggX0_die_X0_countHeirs : GoodIn wsX0_die wsX0_countHeirs := goodIn_r _ [21, 1, 22, 23, 24, 7, 25, 26, 27, 28, 29, 17, 30, 31, 32, 33, 34, 67, 68, 69, 70, 71, 72, 73, 74, 75, 76] (by decide +kernel) (by decide +kernel)
set_option maxRecDepth 20000 in
theorem gX0_die_X0_countHeirs : GoodIn wsX0_die (wsV RX0 129 RX0 yX0_countHeirs wsX0_countHeirs) := goodIn_app (goodIn_of _ (by decide +kernel)) ggX0_die_X0_countHeirs
set_option maxRecDepth 20000 in
theorem ggX0_die_X0_isHeir : GoodIn wsX0_die wsX0_isHeir := goodIn_r _ [29, 17, 30, 31, 32, 33, 7, 34, 1, 67, 68, 69, 70, 71, 72, 73, 74, 75, 76] (by decide +kernel) (by decide +kernel)
set_option maxRecDepth 20000 in
theorem gX0_die_X0_isHeir : GoodIn wsX0_die (wsV RX0 132 RX0 yX0_isHeir wsX0_isHeir) := goodIn_app (goodIn_of _ (by decide +kernel)) ggX0_die_X0_isHeir
set_option maxRecDepth 20000 in
theorem ggX0_die_X0_hand : GoodIn wsX0_die wsX0_hand := goodIn_r _ [38, 39, 3, 40, 41, 42, 7, 43, 44, 45, 46, 47, 48, 49, 50, 51, 52, 53, 54, 55, 56, 57, 58, 59, 60, 61, 62, 67, 68, 69, 70, 71, 72, 73, 74, 75, 76] (by decide +kernel) (by decide +kernel)
set_option maxRecDepth 20000 in
theorem gX0_die_X0_hand : GoodIn wsX0_die (wsV RX0 136 RX0 yX0_hand wsX0_hand) := goodIn_app (goodIn_of _ (by decide +kernel)) ggX0_die_X0_hand
set_option maxRecDepth 20000 in
theorem ggX0_die_X0_bury : GoodIn wsX0_die wsX0_bury := goodIn_r _ [66, 39, 44, 3, 17, 45, 46, 7, 47, 67, 68, 69, 70, 71, 72, 73, 74, 75, 76] (by decide +kernel) (by decide +kernel)
set_option maxRecDepth 20000 in
theorem gX0_die_X0_bury : GoodIn wsX0_die (wsV RX0 139 RX0 yX0_bury wsX0_bury) := goodIn_app (goodIn_of _ (by decide +kernel)) ggX0_die_X0_bury
theorem dX0_die_0 : decode cX0_die 0 = .ok (.aload_n 0, 1) := by decide +kernel
theorem dX0_die_1 : decode cX0_die 1 = .ok (.iload_n 1, 1) := by decide +kernel
theorem dX0_die_2 : decode cX0_die 2 = .ok (.invokevirtual 60, 3) := by decide +kernel
theorem dX0_die_5 : decode cX0_die 5 = .ok (.aload_n 0, 1) := by decide +kernel
theorem dX0_die_6 : decode cX0_die 6 = .ok (.iload_n 1, 1) := by decide +kernel
theorem dX0_die_7 : decode cX0_die 7 = .ok (.invokevirtual 63, 3) := by decide +kernel
theorem dX0_die_10 : decode cX0_die 10 = .ok (.aload_n 0, 1) := by decide +kernel
theorem dX0_die_11 : decode cX0_die 11 = .ok (.iload_n 1, 1) := by decide +kernel
theorem dX0_die_12 : decode cX0_die 12 = .ok (.invokevirtual 129, 3) := by decide +kernel
theorem dX0_die_15 : decode cX0_die 15 = .ok (.istore_n 2, 1) := by decide +kernel
theorem dX0_die_16 : decode cX0_die 16 = .ok (.iconst 0, 1) := by decide +kernel
theorem dX0_die_17 : decode cX0_die 17 = .ok (.istore_n 3, 1) := by decide +kernel
theorem dX0_die_18 : decode cX0_die 18 = .ok (.iconst 0, 1) := by decide +kernel
theorem dX0_die_19 : decode cX0_die 19 = .ok (.istore 4, 2) := by decide +kernel
theorem dX0_die_21 : decode cX0_die 21 = .ok (.iload 4, 2) := by decide +kernel
theorem dX0_die_23 : decode cX0_die 23 = .ok (.aload_n 0, 1) := by decide +kernel
theorem dX0_die_24 : decode cX0_die 24 = .ok (.getfield 23, 3) := by decide +kernel
theorem dX0_die_27 : decode cX0_die 27 = .ok (.if_icmp .ge 31, 3) := by decide +kernel
theorem dX0_die_30 : decode cX0_die 30 = .ok (.aload_n 0, 1) := by decide +kernel
theorem dX0_die_31 : decode cX0_die 31 = .ok (.iload 4, 2) := by decide +kernel
theorem dX0_die_33 : decode cX0_die 33 = .ok (.iload_n 1, 1) := by decide +kernel
theorem dX0_die_34 : decode cX0_die 34 = .ok (.invokevirtual 132, 3) := by decide +kernel
theorem dX0_die_37 : decode cX0_die 37 = .ok (.ifCond .eq 15, 3) := by decide +kernel
theorem dX0_die_40 : decode cX0_die 40 = .ok (.aload_n 0, 1) := by decide +kernel
theorem dX0_die_41 : decode cX0_die 41 = .ok (.iload_n 1, 1) := by decide +kernel
theorem dX0_die_42 : decode cX0_die 42 = .ok (.iload 4, 2) := by decide +kernel
theorem dX0_die_44 : decode cX0_die 44 = .ok (.iload_n 2, 1) := by decide +kernel
theorem dX0_die_45 : decode cX0_die 45 = .ok (.iload_n 3, 1) := by decide +kernel
theorem dX0_die_46 : decode cX0_die 46 = .ok (.invokevirtual 136, 3) := by decide +kernel
theorem dX0_die_49 : decode cX0_die 49 = .ok (.iinc 3 1, 3) := by decide +kernel
theorem dX0_die_52 : decode cX0_die 52 = .ok (.iinc 4 1, 3) := by decide +kernel
theorem dX0_die_55 : decode cX0_die 55 = .ok (.goto (-34), 3) := by decide +kernel
theorem dX0_die_58 : decode cX0_die 58 = .ok (.iload_n 2, 1) := by decide +kernel
theorem dX0_die_59 : decode cX0_die 59 = .ok (.ifCond .ne 18, 3) := by decide +kernel
theorem dX0_die_62 : decode cX0_die 62 = .ok (.aload_n 0, 1) := by decide +kernel
theorem dX0_die_63 : decode cX0_die 63 = .ok (.dup, 1) := by decide +kernel
theorem dX0_die_64 : decode cX0_die 64 = .ok (.getfield 39, 3) := by decide +kernel
theorem dX0_die_67 : decode cX0_die 67 = .ok (.aload_n 0, 1) := by decide +kernel
theorem dX0_die_68 : decode cX0_die 68 = .ok (.getfield 30, 3) := by decide +kernel
theorem dX0_die_71 : decode cX0_die 71 = .ok (.iload_n 1, 1) := by decide +kernel
theorem dX0_die_72 : decode cX0_die 72 = .ok (.iaload, 1) := by decide +kernel
theorem dX0_die_73 : decode cX0_die 73 = .ok (.iadd, 1) := by decide +kernel
theorem dX0_die_74 : decode cX0_die 74 = .ok (.putfield 39, 3) := by decide +kernel
theorem dX0_die_77 : decode cX0_die 77 = .ok (.aload_n 0, 1) := by decide +kernel
theorem dX0_die_78 : decode cX0_die 78 = .ok (.iload_n 1, 1) := by decide +kernel
theorem dX0_die_79 : decode cX0_die 79 = .ok (.invokevirtual 139, 3) := by decide +kernel
theorem dX0_die_82 : decode cX0_die 82 = .ok (.iload_n 2, 1) := by decide +kernel
theorem dX0_die_83 : decode cX0_die 83 = .ok (.ireturn, 1) := by decide +kernel
theorem dX0_ferries_0 : decode cX0_ferries 0 = .ok (.aload_n 0, 1) := by decide +kernel
theorem dX0_ferries_1 : decode cX0_ferries 1 = .ok (.getfield 9, 3) := by decide +kernel
theorem dX0_ferries_4 : decode cX0_ferries 4 = .ok (.ireturn, 1) := by decide +kernel
set_option maxRecDepth 20000 in
theorem ggX0_toll_X0_needFerry : GoodIn wsX0_toll wsX0_needFerry := goodIn_ca (goodIn_r _ [6, 7, 8, 9, 10, 11, 12, 13, 14, 15, 16, 17, 18, 19] (by decide +kernel) (by decide +kernel)) (goodIn_sub (fun _ h => List.mem_cons_of_mem _ (List.mem_append_right _ h)) (by decide +kernel))
set_option maxRecDepth 20000 in
theorem gX0_toll_X0_needFerry : GoodIn wsX0_toll (wsV RX0 75 RX0 yX0_needFerry wsX0_needFerry) := goodIn_app (goodIn_of _ (by decide +kernel)) ggX0_toll_X0_needFerry
theorem dX0_toll_0 : decode cX0_toll 0 = .ok (.aload_n 0, 1) := by decide +kernel
theorem dX0_toll_1 : decode cX0_toll 1 = .ok (.iload_n 1, 1) := by decide +kernel
theorem dX0_toll_2 : decode cX0_toll 2 = .ok (.invokevirtual 75, 3) := by decide +kernel
theorem dX0_toll_5 : decode cX0_toll 5 = .ok (.aload_n 0, 1) := by decide +kernel
theorem dX0_toll_6 : decode cX0_toll 6 = .ok (.getfield 13, 3) := by decide +kernel
theorem dX0_toll_9 : decode cX0_toll 9 = .ok (.iload_n 1, 1) := by decide +kernel
theorem dX0_toll_10 : decode cX0_toll 10 = .ok (.iaload, 1) := by decide +kernel
theorem dX0_toll_11 : decode cX0_toll 11 = .ok (.ireturn, 1) := by decide +kernel
set_option maxRecDepth 20000 in
theorem ggX0_carried_X0_needFerry : GoodIn wsX0_carried wsX0_needFerry := goodIn_ca (goodIn_r _ [6, 7, 8, 9, 10, 11, 12, 13, 14, 15, 16, 17, 18, 19] (by decide +kernel) (by decide +kernel)) (goodIn_sub (fun _ h => List.mem_cons_of_mem _ (List.mem_append_right _ h)) (by decide +kernel))
set_option maxRecDepth 20000 in
theorem gX0_carried_X0_needFerry : GoodIn wsX0_carried (wsV RX0 75 RX0 yX0_needFerry wsX0_needFerry) := goodIn_app (goodIn_of _ (by decide +kernel)) ggX0_carried_X0_needFerry
theorem dX0_carried_0 : decode cX0_carried 0 = .ok (.aload_n 0, 1) := by decide +kernel
theorem dX0_carried_1 : decode cX0_carried 1 = .ok (.iload_n 1, 1) := by decide +kernel
theorem dX0_carried_2 : decode cX0_carried 2 = .ok (.invokevirtual 75, 3) := by decide +kernel
theorem dX0_carried_5 : decode cX0_carried 5 = .ok (.aload_n 0, 1) := by decide +kernel
theorem dX0_carried_6 : decode cX0_carried 6 = .ok (.getfield 17, 3) := by decide +kernel
theorem dX0_carried_9 : decode cX0_carried 9 = .ok (.iload_n 1, 1) := by decide +kernel
theorem dX0_carried_10 : decode cX0_carried 10 = .ok (.iaload, 1) := by decide +kernel
theorem dX0_carried_11 : decode cX0_carried 11 = .ok (.ireturn, 1) := by decide +kernel
set_option maxRecDepth 20000 in
theorem ggX0_shares_X0_needFerry : GoodIn wsX0_shares wsX0_needFerry := goodIn_ca (goodIn_r _ [5, 6, 7, 8, 25, 26, 27, 28, 29, 30, 31, 32, 33, 34] (by decide +kernel) (by decide +kernel)) (goodIn_sub (fun _ h => List.mem_cons_of_mem _ (List.mem_append_right _ h)) (by decide +kernel))
set_option maxRecDepth 20000 in
theorem gX0_shares_X0_needFerry : GoodIn wsX0_shares (wsV RX0 75 RX0 yX0_needFerry wsX0_needFerry) := goodIn_app (goodIn_of _ (by decide +kernel)) ggX0_shares_X0_needFerry
set_option maxRecDepth 20000 in
theorem ggX0_shares_X0_needWatch : GoodIn wsX0_shares wsX0_needWatch := goodIn_ca (goodIn_r _ [11, 6, 7] (by decide +kernel) (by decide +kernel)) (goodIn_sub (fun _ h => List.mem_cons_of_mem _ (List.mem_append_right _ h)) (by decide +kernel))
set_option maxRecDepth 20000 in
theorem gX0_shares_X0_needWatch : GoodIn wsX0_shares (va_wsS RX0 78 yX0_needWatch wsX0_needWatch) := goodIn_app (goodIn_of _ (by decide +kernel)) ggX0_shares_X0_needWatch
set_option maxRecDepth 20000 in
theorem ggX0_shares_X0_needPerson : GoodIn wsX0_shares wsX0_needPerson := goodIn_ca (goodIn_r _ [15, 6, 7, 16, 25, 26, 27, 28, 29, 30, 31, 32, 33, 34] (by decide +kernel) (by decide +kernel)) (goodIn_sub (fun _ h => List.mem_cons_of_mem _ (List.mem_append_right _ h)) (by decide +kernel))
set_option maxRecDepth 20000 in
theorem gX0_shares_X0_needPerson : GoodIn wsX0_shares (wsV RX0 60 RX0 yX0_needPerson wsX0_needPerson) := goodIn_app (goodIn_of _ (by decide +kernel)) ggX0_shares_X0_needPerson
set_option maxRecDepth 20000 in
theorem ggX0_shares_X0_owns : GoodIn wsX0_shares wsX0_owns := goodIn_r _ [20, 21, 22, 23, 4, 24, 25, 26, 27, 28, 29, 30, 31, 32, 33, 34] (by decide +kernel) (by decide +kernel)
set_option maxRecDepth 20000 in
theorem gX0_shares_X0_owns : GoodIn wsX0_shares (wsV RX0 96 RX0 yX0_owns wsX0_owns) := goodIn_app (goodIn_of _ (by decide +kernel)) ggX0_shares_X0_owns
theorem dX0_shares_0 : decode cX0_shares 0 = .ok (.aload_n 0, 1) := by decide +kernel
theorem dX0_shares_1 : decode cX0_shares 1 = .ok (.iload_n 1, 1) := by decide +kernel
theorem dX0_shares_2 : decode cX0_shares 2 = .ok (.invokevirtual 75, 3) := by decide +kernel
theorem dX0_shares_5 : decode cX0_shares 5 = .ok (.iload_n 2, 1) := by decide +kernel
theorem dX0_shares_6 : decode cX0_shares 6 = .ok (.invokestatic 78, 3) := by decide +kernel
theorem dX0_shares_9 : decode cX0_shares 9 = .ok (.aload_n 0, 1) := by decide +kernel
theorem dX0_shares_10 : decode cX0_shares 10 = .ok (.iload_n 3, 1) := by decide +kernel
theorem dX0_shares_11 : decode cX0_shares 11 = .ok (.invokevirtual 60, 3) := by decide +kernel
theorem dX0_shares_14 : decode cX0_shares 14 = .ok (.aload_n 0, 1) := by decide +kernel
theorem dX0_shares_15 : decode cX0_shares 15 = .ok (.iload_n 1, 1) := by decide +kernel
theorem dX0_shares_16 : decode cX0_shares 16 = .ok (.iload_n 2, 1) := by decide +kernel
theorem dX0_shares_17 : decode cX0_shares 17 = .ok (.iload_n 3, 1) := by decide +kernel
theorem dX0_shares_18 : decode cX0_shares 18 = .ok (.invokevirtual 96, 3) := by decide +kernel
theorem dX0_shares_21 : decode cX0_shares 21 = .ok (.ireturn, 1) := by decide +kernel
set_option maxRecDepth 20000 in
theorem ggX0_crownShares_X0_needFerry : GoodIn wsX0_crownShares wsX0_needFerry := goodIn_ca (goodIn_r _ [5, 6, 7, 8, 25, 26, 27, 28, 29, 30, 31, 32, 33, 34] (by decide +kernel) (by decide +kernel)) (goodIn_sub (fun _ h => List.mem_cons_of_mem _ (List.mem_append_right _ h)) (by decide +kernel))
set_option maxRecDepth 20000 in
theorem gX0_crownShares_X0_needFerry : GoodIn wsX0_crownShares (wsV RX0 75 RX0 yX0_needFerry wsX0_needFerry) := goodIn_app (goodIn_of _ (by decide +kernel)) ggX0_crownShares_X0_needFerry
set_option maxRecDepth 20000 in
theorem ggX0_crownShares_X0_needWatch : GoodIn wsX0_crownShares wsX0_needWatch := goodIn_ca (goodIn_r _ [11, 6, 7] (by decide +kernel) (by decide +kernel)) (goodIn_sub (fun _ h => List.mem_cons_of_mem _ (List.mem_append_right _ h)) (by decide +kernel))
set_option maxRecDepth 20000 in
theorem gX0_crownShares_X0_needWatch : GoodIn wsX0_crownShares (va_wsS RX0 78 yX0_needWatch wsX0_needWatch) := goodIn_app (goodIn_of _ (by decide +kernel)) ggX0_crownShares_X0_needWatch
set_option maxRecDepth 20000 in
theorem ggX0_crownShares_X0_crownOwns : GoodIn wsX0_crownShares wsX0_crownOwns := goodIn_r _ [15, 16, 17, 18, 19, 4, 20, 21, 22, 23, 24, 25, 26, 27, 28, 29, 30, 31, 32, 33, 34] (by decide +kernel) (by decide +kernel)
set_option maxRecDepth 20000 in
theorem gX0_crownShares_X0_crownOwns : GoodIn wsX0_crownShares (wsV RX0 84 RX0 yX0_crownOwns wsX0_crownOwns) := goodIn_app (goodIn_of _ (by decide +kernel)) ggX0_crownShares_X0_crownOwns
theorem dX0_crownShares_0 : decode cX0_crownShares 0 = .ok (.aload_n 0, 1) := by decide +kernel
theorem dX0_crownShares_1 : decode cX0_crownShares 1 = .ok (.iload_n 1, 1) := by decide +kernel
theorem dX0_crownShares_2 : decode cX0_crownShares 2 = .ok (.invokevirtual 75, 3) := by decide +kernel
theorem dX0_crownShares_5 : decode cX0_crownShares 5 = .ok (.iload_n 2, 1) := by decide +kernel
theorem dX0_crownShares_6 : decode cX0_crownShares 6 = .ok (.invokestatic 78, 3) := by decide +kernel
theorem dX0_crownShares_9 : decode cX0_crownShares 9 = .ok (.aload_n 0, 1) := by decide +kernel
theorem dX0_crownShares_10 : decode cX0_crownShares 10 = .ok (.iload_n 1, 1) := by decide +kernel
theorem dX0_crownShares_11 : decode cX0_crownShares 11 = .ok (.iload_n 2, 1) := by decide +kernel
theorem dX0_crownShares_12 : decode cX0_crownShares 12 = .ok (.invokevirtual 84, 3) := by decide +kernel
theorem dX0_crownShares_15 : decode cX0_crownShares 15 = .ok (.ireturn, 1) := by decide +kernel
set_option maxRecDepth 20000 in
theorem ggX0_owners_X0_needFerry : GoodIn wsX0_owners wsX0_needFerry := goodIn_ca (goodIn_r _ [6, 7, 8, 9, 21, 22, 23, 24, 25, 26, 27, 28, 29, 30] (by decide +kernel) (by decide +kernel)) (goodIn_sub (fun _ h => List.mem_cons_of_mem _ (List.mem_append_right _ h)) (by decide +kernel))
set_option maxRecDepth 20000 in
theorem gX0_owners_X0_needFerry : GoodIn wsX0_owners (wsV RX0 75 RX0 yX0_needFerry wsX0_needFerry) := goodIn_app (goodIn_of _ (by decide +kernel)) ggX0_owners_X0_needFerry
set_option maxRecDepth 20000 in
theorem ggX0_owners_X0_needWatch : GoodIn wsX0_owners wsX0_needWatch := goodIn_ca (goodIn_r _ [12, 7, 8] (by decide +kernel) (by decide +kernel)) (goodIn_sub (fun _ h => List.mem_cons_of_mem _ (List.mem_append_right _ h)) (by decide +kernel))
set_option maxRecDepth 20000 in
theorem gX0_owners_X0_needWatch : GoodIn wsX0_owners (va_wsS RX0 78 yX0_needWatch wsX0_needWatch) := goodIn_app (goodIn_of _ (by decide +kernel)) ggX0_owners_X0_needWatch
set_option maxRecDepth 20000 in
theorem ggX0_owners_X0_owns : GoodIn wsX0_owners wsX0_owns := goodIn_r _ [16, 17, 18, 19, 5, 20, 21, 22, 23, 24, 25, 26, 27, 28, 29, 30] (by decide +kernel) (by decide +kernel)
set_option maxRecDepth 20000 in
theorem gX0_owners_X0_owns : GoodIn wsX0_owners (wsV RX0 96 RX0 yX0_owns wsX0_owns) := goodIn_app (goodIn_of _ (by decide +kernel)) ggX0_owners_X0_owns
theorem dX0_owners_0 : decode cX0_owners 0 = .ok (.aload_n 0, 1) := by decide +kernel
theorem dX0_owners_1 : decode cX0_owners 1 = .ok (.iload_n 1, 1) := by decide +kernel
theorem dX0_owners_2 : decode cX0_owners 2 = .ok (.invokevirtual 75, 3) := by decide +kernel
theorem dX0_owners_5 : decode cX0_owners 5 = .ok (.iload_n 2, 1) := by decide +kernel
theorem dX0_owners_6 : decode cX0_owners 6 = .ok (.invokestatic 78, 3) := by decide +kernel
theorem dX0_owners_9 : decode cX0_owners 9 = .ok (.iconst 0, 1) := by decide +kernel
theorem dX0_owners_10 : decode cX0_owners 10 = .ok (.istore_n 3, 1) := by decide +kernel
theorem dX0_owners_11 : decode cX0_owners 11 = .ok (.iconst 0, 1) := by decide +kernel
theorem dX0_owners_12 : decode cX0_owners 12 = .ok (.istore 4, 2) := by decide +kernel
theorem dX0_owners_14 : decode cX0_owners 14 = .ok (.iload 4, 2) := by decide +kernel
theorem dX0_owners_16 : decode cX0_owners 16 = .ok (.aload_n 0, 1) := by decide +kernel
theorem dX0_owners_17 : decode cX0_owners 17 = .ok (.getfield 23, 3) := by decide +kernel
theorem dX0_owners_20 : decode cX0_owners 20 = .ok (.if_icmp .ge 23, 3) := by decide +kernel
theorem dX0_owners_23 : decode cX0_owners 23 = .ok (.aload_n 0, 1) := by decide +kernel
theorem dX0_owners_24 : decode cX0_owners 24 = .ok (.iload_n 1, 1) := by decide +kernel
theorem dX0_owners_25 : decode cX0_owners 25 = .ok (.iload_n 2, 1) := by decide +kernel
theorem dX0_owners_26 : decode cX0_owners 26 = .ok (.iload 4, 2) := by decide +kernel
theorem dX0_owners_28 : decode cX0_owners 28 = .ok (.invokevirtual 96, 3) := by decide +kernel
theorem dX0_owners_31 : decode cX0_owners 31 = .ok (.ifCond .le 6, 3) := by decide +kernel
theorem dX0_owners_34 : decode cX0_owners 34 = .ok (.iinc 3 1, 3) := by decide +kernel
theorem dX0_owners_37 : decode cX0_owners 37 = .ok (.iinc 4 1, 3) := by decide +kernel
theorem dX0_owners_40 : decode cX0_owners 40 = .ok (.goto (-26), 3) := by decide +kernel
theorem dX0_owners_43 : decode cX0_owners 43 = .ok (.iload_n 3, 1) := by decide +kernel
theorem dX0_owners_44 : decode cX0_owners 44 = .ok (.ireturn, 1) := by decide +kernel
set_option maxRecDepth 20000 in
theorem ggX0_holder_X0_needFerry : GoodIn wsX0_holder wsX0_needFerry := goodIn_ca (goodIn_r _ [8, 9, 10, 11, 23, 24, 25, 26, 27, 28, 29, 30, 31, 32] (by decide +kernel) (by decide +kernel)) (goodIn_sub (fun _ h => List.mem_cons_of_mem _ (List.mem_append_right _ h)) (by decide +kernel))
set_option maxRecDepth 20000 in
theorem gX0_holder_X0_needFerry : GoodIn wsX0_holder (wsV RX0 75 RX0 yX0_needFerry wsX0_needFerry) := goodIn_app (goodIn_of _ (by decide +kernel)) ggX0_holder_X0_needFerry
set_option maxRecDepth 20000 in
theorem ggX0_holder_X0_needWatch : GoodIn wsX0_holder wsX0_needWatch := goodIn_ca (goodIn_r _ [14, 9, 10] (by decide +kernel) (by decide +kernel)) (goodIn_sub (fun _ h => List.mem_cons_of_mem _ (List.mem_append_right _ h)) (by decide +kernel))
set_option maxRecDepth 20000 in
theorem gX0_holder_X0_needWatch : GoodIn wsX0_holder (va_wsS RX0 78 yX0_needWatch wsX0_needWatch) := goodIn_app (goodIn_of _ (by decide +kernel)) ggX0_holder_X0_needWatch
set_option maxRecDepth 20000 in
theorem ggX0_holder_X0_owns : GoodIn wsX0_holder wsX0_owns := goodIn_r _ [18, 19, 20, 21, 7, 22, 23, 24, 25, 26, 27, 28, 29, 30, 31, 32] (by decide +kernel) (by decide +kernel)
set_option maxRecDepth 20000 in
theorem gX0_holder_X0_owns : GoodIn wsX0_holder (wsV RX0 96 RX0 yX0_owns wsX0_owns) := goodIn_app (goodIn_of _ (by decide +kernel)) ggX0_holder_X0_owns
theorem dX0_holder_0 : decode cX0_holder 0 = .ok (.aload_n 0, 1) := by decide +kernel
theorem dX0_holder_1 : decode cX0_holder 1 = .ok (.iload_n 1, 1) := by decide +kernel
theorem dX0_holder_2 : decode cX0_holder 2 = .ok (.invokevirtual 75, 3) := by decide +kernel
theorem dX0_holder_5 : decode cX0_holder 5 = .ok (.iload_n 2, 1) := by decide +kernel
theorem dX0_holder_6 : decode cX0_holder 6 = .ok (.invokestatic 78, 3) := by decide +kernel
theorem dX0_holder_9 : decode cX0_holder 9 = .ok (.iconst (-1), 1) := by decide +kernel
theorem dX0_holder_10 : decode cX0_holder 10 = .ok (.istore_n 3, 1) := by decide +kernel
theorem dX0_holder_11 : decode cX0_holder 11 = .ok (.iconst 0, 1) := by decide +kernel
theorem dX0_holder_12 : decode cX0_holder 12 = .ok (.istore 4, 2) := by decide +kernel
theorem dX0_holder_14 : decode cX0_holder 14 = .ok (.iconst 0, 1) := by decide +kernel
theorem dX0_holder_15 : decode cX0_holder 15 = .ok (.istore 5, 2) := by decide +kernel
theorem dX0_holder_17 : decode cX0_holder 17 = .ok (.iload 5, 2) := by decide +kernel
theorem dX0_holder_19 : decode cX0_holder 19 = .ok (.aload_n 0, 1) := by decide +kernel
theorem dX0_holder_20 : decode cX0_holder 20 = .ok (.getfield 23, 3) := by decide +kernel
theorem dX0_holder_23 : decode cX0_holder 23 = .ok (.if_icmp .ge 33, 3) := by decide +kernel
theorem dX0_holder_26 : decode cX0_holder 26 = .ok (.aload_n 0, 1) := by decide +kernel
theorem dX0_holder_27 : decode cX0_holder 27 = .ok (.iload_n 1, 1) := by decide +kernel
theorem dX0_holder_28 : decode cX0_holder 28 = .ok (.iload_n 2, 1) := by decide +kernel
theorem dX0_holder_29 : decode cX0_holder 29 = .ok (.iload 5, 2) := by decide +kernel
theorem dX0_holder_31 : decode cX0_holder 31 = .ok (.invokevirtual 96, 3) := by decide +kernel
theorem dX0_holder_34 : decode cX0_holder 34 = .ok (.istore 6, 2) := by decide +kernel
theorem dX0_holder_36 : decode cX0_holder 36 = .ok (.iload 6, 2) := by decide +kernel
theorem dX0_holder_38 : decode cX0_holder 38 = .ok (.iload 4, 2) := by decide +kernel
theorem dX0_holder_40 : decode cX0_holder 40 = .ok (.if_icmp .le 10, 3) := by decide +kernel
theorem dX0_holder_43 : decode cX0_holder 43 = .ok (.iload 5, 2) := by decide +kernel
theorem dX0_holder_45 : decode cX0_holder 45 = .ok (.istore_n 3, 1) := by decide +kernel
theorem dX0_holder_46 : decode cX0_holder 46 = .ok (.iload 6, 2) := by decide +kernel
theorem dX0_holder_48 : decode cX0_holder 48 = .ok (.istore 4, 2) := by decide +kernel
theorem dX0_holder_50 : decode cX0_holder 50 = .ok (.iinc 5 1, 3) := by decide +kernel
theorem dX0_holder_53 : decode cX0_holder 53 = .ok (.goto (-36), 3) := by decide +kernel
theorem dX0_holder_56 : decode cX0_holder 56 = .ok (.iload_n 3, 1) := by decide +kernel
theorem dX0_holder_57 : decode cX0_holder 57 = .ok (.iconst (-1), 1) := by decide +kernel
theorem dX0_holder_58 : decode cX0_holder 58 = .ok (.if_icmp .ne 13, 3) := by decide +kernel
theorem dX0_holder_61 : decode cX0_holder 61 = .ok (.new 46, 3) := by decide +kernel
theorem dX0_holder_64 : decode cX0_holder 64 = .ok (.dup, 1) := by decide +kernel
theorem dX0_holder_65 : decode cX0_holder 65 = .ok (.ldc 142, 2) := by decide +kernel
theorem dX0_holder_67 : decode cX0_holder 67 = .ok (.invokespecial 50, 3) := by decide +kernel
theorem dX0_holder_70 : decode cX0_holder 70 = .ok (.athrow, 1) := by decide +kernel
theorem dX0_holder_71 : decode cX0_holder 71 = .ok (.iload_n 3, 1) := by decide +kernel
theorem dX0_holder_72 : decode cX0_holder 72 = .ok (.ireturn, 1) := by decide +kernel
set_option maxRecDepth 20000 in
theorem ggX0_master_X0_needFerry : GoodIn wsX0_master wsX0_needFerry := goodIn_ca (goodIn_r _ [7, 8, 9, 10, 28, 29, 30, 31, 32, 33, 34, 35, 36, 37] (by decide +kernel) (by decide +kernel)) (goodIn_sub (fun _ h => List.mem_cons_of_mem _ (List.mem_append_right _ h)) (by decide +kernel))
set_option maxRecDepth 20000 in
theorem gX0_master_X0_needFerry : GoodIn wsX0_master (wsV RX0 75 RX0 yX0_needFerry wsX0_needFerry) := goodIn_app (goodIn_of _ (by decide +kernel)) ggX0_master_X0_needFerry
set_option maxRecDepth 20000 in
theorem ggX0_master_X0_findMaster : GoodIn wsX0_master wsX0_findMaster := goodIn_r _ [14, 15, 16, 17, 18, 6, 19, 20, 21, 22, 23, 24, 25, 26, 27, 28, 29, 30, 31, 32, 33, 34, 35, 36, 37] (by decide +kernel) (by decide +kernel)
set_option maxRecDepth 20000 in
theorem gX0_master_X0_findMaster : GoodIn wsX0_master (wsV RX0 114 RX0 yX0_findMaster wsX0_findMaster) := goodIn_app (goodIn_of _ (by decide +kernel)) ggX0_master_X0_findMaster
theorem dX0_master_0 : decode cX0_master 0 = .ok (.aload_n 0, 1) := by decide +kernel
theorem dX0_master_1 : decode cX0_master 1 = .ok (.iload_n 1, 1) := by decide +kernel
theorem dX0_master_2 : decode cX0_master 2 = .ok (.invokevirtual 75, 3) := by decide +kernel
theorem dX0_master_5 : decode cX0_master 5 = .ok (.aload_n 0, 1) := by decide +kernel
theorem dX0_master_6 : decode cX0_master 6 = .ok (.iload_n 1, 1) := by decide +kernel
theorem dX0_master_7 : decode cX0_master 7 = .ok (.invokevirtual 114, 3) := by decide +kernel
theorem dX0_master_10 : decode cX0_master 10 = .ok (.istore_n 2, 1) := by decide +kernel
theorem dX0_master_11 : decode cX0_master 11 = .ok (.iload_n 2, 1) := by decide +kernel
theorem dX0_master_12 : decode cX0_master 12 = .ok (.iconst (-1), 1) := by decide +kernel
theorem dX0_master_13 : decode cX0_master 13 = .ok (.if_icmp .ne 13, 3) := by decide +kernel
theorem dX0_master_16 : decode cX0_master 16 = .ok (.new 46, 3) := by decide +kernel
theorem dX0_master_19 : decode cX0_master 19 = .ok (.dup, 1) := by decide +kernel
theorem dX0_master_20 : decode cX0_master 20 = .ok (.ldc 144, 2) := by decide +kernel
theorem dX0_master_22 : decode cX0_master 22 = .ok (.invokespecial 50, 3) := by decide +kernel
theorem dX0_master_25 : decode cX0_master 25 = .ok (.athrow, 1) := by decide +kernel
theorem dX0_master_26 : decode cX0_master 26 = .ok (.iload_n 2, 1) := by decide +kernel
theorem dX0_master_27 : decode cX0_master 27 = .ok (.ireturn, 1) := by decide +kernel
set_option maxRecDepth 20000 in
theorem ggX0_hasMaster_X0_needFerry : GoodIn wsX0_hasMaster wsX0_needFerry := goodIn_ca (goodIn_r _ [5, 6, 7, 8, 26, 27, 28, 29, 30, 31, 32, 33, 34, 35] (by decide +kernel) (by decide +kernel)) (goodIn_sub (fun _ h => List.mem_cons_of_mem _ (List.mem_append_right _ h)) (by decide +kernel))
set_option maxRecDepth 20000 in
theorem gX0_hasMaster_X0_needFerry : GoodIn wsX0_hasMaster (wsV RX0 75 RX0 yX0_needFerry wsX0_needFerry) := goodIn_app (goodIn_of _ (by decide +kernel)) ggX0_hasMaster_X0_needFerry
set_option maxRecDepth 20000 in
theorem ggX0_hasMaster_X0_findMaster : GoodIn wsX0_hasMaster wsX0_findMaster := goodIn_r _ [12, 13, 14, 15, 16, 4, 17, 18, 19, 20, 21, 22, 23, 24, 25, 26, 27, 28, 29, 30, 31, 32, 33, 34, 35] (by decide +kernel) (by decide +kernel)
set_option maxRecDepth 20000 in
theorem gX0_hasMaster_X0_findMaster : GoodIn wsX0_hasMaster (wsV RX0 114 RX0 yX0_findMaster wsX0_findMaster) := goodIn_app (goodIn_of _ (by decide +kernel)) ggX0_hasMaster_X0_findMaster
theorem dX0_hasMaster_0 : decode cX0_hasMaster 0 = .ok (.aload_n 0, 1) := by decide +kernel
theorem dX0_hasMaster_1 : decode cX0_hasMaster 1 = .ok (.iload_n 1, 1) := by decide +kernel
theorem dX0_hasMaster_2 : decode cX0_hasMaster 2 = .ok (.invokevirtual 75, 3) := by decide +kernel
theorem dX0_hasMaster_5 : decode cX0_hasMaster 5 = .ok (.aload_n 0, 1) := by decide +kernel
theorem dX0_hasMaster_6 : decode cX0_hasMaster 6 = .ok (.iload_n 1, 1) := by decide +kernel
theorem dX0_hasMaster_7 : decode cX0_hasMaster 7 = .ok (.invokevirtual 114, 3) := by decide +kernel
theorem dX0_hasMaster_10 : decode cX0_hasMaster 10 = .ok (.iconst (-1), 1) := by decide +kernel
theorem dX0_hasMaster_11 : decode cX0_hasMaster 11 = .ok (.if_icmp .eq 7, 3) := by decide +kernel
theorem dX0_hasMaster_14 : decode cX0_hasMaster 14 = .ok (.iconst 1, 1) := by decide +kernel
theorem dX0_hasMaster_15 : decode cX0_hasMaster 15 = .ok (.goto 4, 3) := by decide +kernel
theorem dX0_hasMaster_18 : decode cX0_hasMaster 18 = .ok (.iconst 0, 1) := by decide +kernel
theorem dX0_hasMaster_19 : decode cX0_hasMaster 19 = .ok (.ireturn, 1) := by decide +kernel
set_option maxRecDepth 20000 in
theorem ggX0_shareValue_X0_needFerry : GoodIn wsX0_shareValue wsX0_needFerry := goodIn_ca (goodIn_r _ [5, 6, 7, 8, 18, 19, 20, 21, 22, 23, 24, 25, 26, 27] (by decide +kernel) (by decide +kernel)) (goodIn_sub (fun _ h => List.mem_cons_of_mem _ (List.mem_append_right _ h)) (by decide +kernel))
set_option maxRecDepth 20000 in
theorem gX0_shareValue_X0_needFerry : GoodIn wsX0_shareValue (wsV RX0 75 RX0 yX0_needFerry wsX0_needFerry) := goodIn_app (goodIn_of _ (by decide +kernel)) ggX0_shareValue_X0_needFerry
set_option maxRecDepth 20000 in
theorem ggX0_shareValue_X0_needWatch : GoodIn wsX0_shareValue wsX0_needWatch := goodIn_ca (goodIn_r _ [11, 6, 7] (by decide +kernel) (by decide +kernel)) (goodIn_sub (fun _ h => List.mem_cons_of_mem _ (List.mem_append_right _ h)) (by decide +kernel))
set_option maxRecDepth 20000 in
theorem gX0_shareValue_X0_needWatch : GoodIn wsX0_shareValue (va_wsS RX0 78 yX0_needWatch wsX0_needWatch) := goodIn_app (goodIn_of _ (by decide +kernel)) ggX0_shareValue_X0_needWatch
set_option maxRecDepth 20000 in
theorem ggX0_shareValue_X0_worth : GoodIn wsX0_shareValue wsX0_worth := goodIn_r _ [15, 16, 17, 18, 19, 20, 21, 22, 23, 24, 25, 26, 27] (by decide +kernel) (by decide +kernel)
set_option maxRecDepth 20000 in
theorem gX0_shareValue_X0_worth : GoodIn wsX0_shareValue (wsV RX0 146 RX0 yX0_worth wsX0_worth) := goodIn_app (goodIn_of _ (by decide +kernel)) ggX0_shareValue_X0_worth
theorem dX0_shareValue_0 : decode cX0_shareValue 0 = .ok (.aload_n 0, 1) := by decide +kernel
theorem dX0_shareValue_1 : decode cX0_shareValue 1 = .ok (.iload_n 1, 1) := by decide +kernel
theorem dX0_shareValue_2 : decode cX0_shareValue 2 = .ok (.invokevirtual 75, 3) := by decide +kernel
theorem dX0_shareValue_5 : decode cX0_shareValue 5 = .ok (.iload_n 2, 1) := by decide +kernel
theorem dX0_shareValue_6 : decode cX0_shareValue 6 = .ok (.invokestatic 78, 3) := by decide +kernel
theorem dX0_shareValue_9 : decode cX0_shareValue 9 = .ok (.aload_n 0, 1) := by decide +kernel
theorem dX0_shareValue_10 : decode cX0_shareValue 10 = .ok (.iload_n 1, 1) := by decide +kernel
theorem dX0_shareValue_11 : decode cX0_shareValue 11 = .ok (.iload_n 2, 1) := by decide +kernel
theorem dX0_shareValue_12 : decode cX0_shareValue 12 = .ok (.invokevirtual 146, 3) := by decide +kernel
theorem dX0_shareValue_15 : decode cX0_shareValue 15 = .ok (.ireturn, 1) := by decide +kernel
theorem dX0_people_0 : decode cX0_people 0 = .ok (.aload_n 0, 1) := by decide +kernel
theorem dX0_people_1 : decode cX0_people 1 = .ok (.getfield 23, 3) := by decide +kernel
theorem dX0_people_4 : decode cX0_people 4 = .ok (.ireturn, 1) := by decide +kernel
theorem dX0_living_0 : decode cX0_living 0 = .ok (.iconst 0, 1) := by decide +kernel
theorem dX0_living_1 : decode cX0_living 1 = .ok (.istore_n 1, 1) := by decide +kernel
theorem dX0_living_2 : decode cX0_living 2 = .ok (.iconst 0, 1) := by decide +kernel
theorem dX0_living_3 : decode cX0_living 3 = .ok (.istore_n 2, 1) := by decide +kernel
theorem dX0_living_4 : decode cX0_living 4 = .ok (.iload_n 2, 1) := by decide +kernel
theorem dX0_living_5 : decode cX0_living 5 = .ok (.aload_n 0, 1) := by decide +kernel
theorem dX0_living_6 : decode cX0_living 6 = .ok (.getfield 23, 3) := by decide +kernel
theorem dX0_living_9 : decode cX0_living 9 = .ok (.if_icmp .ge 21, 3) := by decide +kernel
theorem dX0_living_12 : decode cX0_living 12 = .ok (.aload_n 0, 1) := by decide +kernel
theorem dX0_living_13 : decode cX0_living 13 = .ok (.getfield 26, 3) := by decide +kernel
theorem dX0_living_16 : decode cX0_living 16 = .ok (.iload_n 2, 1) := by decide +kernel
theorem dX0_living_17 : decode cX0_living 17 = .ok (.baload, 1) := by decide +kernel
theorem dX0_living_18 : decode cX0_living 18 = .ok (.ifCond .eq 6, 3) := by decide +kernel
theorem dX0_living_21 : decode cX0_living 21 = .ok (.iinc 1 1, 3) := by decide +kernel
theorem dX0_living_24 : decode cX0_living 24 = .ok (.iinc 2 1, 3) := by decide +kernel
theorem dX0_living_27 : decode cX0_living 27 = .ok (.goto (-23), 3) := by decide +kernel
theorem dX0_living_30 : decode cX0_living 30 = .ok (.iload_n 1, 1) := by decide +kernel
theorem dX0_living_31 : decode cX0_living 31 = .ok (.ireturn, 1) := by decide +kernel
set_option maxRecDepth 20000 in
theorem ggX0_isAlive_X0_needPerson : GoodIn wsX0_isAlive wsX0_needPerson := goodIn_ca (goodIn_r _ [6, 7, 8, 9, 10, 11, 12, 13, 14, 15, 16, 17, 18, 19] (by decide +kernel) (by decide +kernel)) (goodIn_sub (fun _ h => List.mem_cons_of_mem _ (List.mem_append_right _ h)) (by decide +kernel))
set_option maxRecDepth 20000 in
theorem gX0_isAlive_X0_needPerson : GoodIn wsX0_isAlive (wsV RX0 60 RX0 yX0_needPerson wsX0_needPerson) := goodIn_app (goodIn_of _ (by decide +kernel)) ggX0_isAlive_X0_needPerson
theorem dX0_isAlive_0 : decode cX0_isAlive 0 = .ok (.aload_n 0, 1) := by decide +kernel
theorem dX0_isAlive_1 : decode cX0_isAlive 1 = .ok (.iload_n 1, 1) := by decide +kernel
theorem dX0_isAlive_2 : decode cX0_isAlive 2 = .ok (.invokevirtual 60, 3) := by decide +kernel
theorem dX0_isAlive_5 : decode cX0_isAlive 5 = .ok (.aload_n 0, 1) := by decide +kernel
theorem dX0_isAlive_6 : decode cX0_isAlive 6 = .ok (.getfield 26, 3) := by decide +kernel
theorem dX0_isAlive_9 : decode cX0_isAlive 9 = .ok (.iload_n 1, 1) := by decide +kernel
theorem dX0_isAlive_10 : decode cX0_isAlive 10 = .ok (.baload, 1) := by decide +kernel
theorem dX0_isAlive_11 : decode cX0_isAlive 11 = .ok (.ireturn, 1) := by decide +kernel
set_option maxRecDepth 20000 in
theorem ggX0_coins_X0_needPerson : GoodIn wsX0_coins wsX0_needPerson := goodIn_ca (goodIn_r _ [6, 7, 8, 9, 10, 11, 12, 13, 14, 15, 16, 17, 18, 19] (by decide +kernel) (by decide +kernel)) (goodIn_sub (fun _ h => List.mem_cons_of_mem _ (List.mem_append_right _ h)) (by decide +kernel))
set_option maxRecDepth 20000 in
theorem gX0_coins_X0_needPerson : GoodIn wsX0_coins (wsV RX0 60 RX0 yX0_needPerson wsX0_needPerson) := goodIn_app (goodIn_of _ (by decide +kernel)) ggX0_coins_X0_needPerson
theorem dX0_coins_0 : decode cX0_coins 0 = .ok (.aload_n 0, 1) := by decide +kernel
theorem dX0_coins_1 : decode cX0_coins 1 = .ok (.iload_n 1, 1) := by decide +kernel
theorem dX0_coins_2 : decode cX0_coins 2 = .ok (.invokevirtual 60, 3) := by decide +kernel
theorem dX0_coins_5 : decode cX0_coins 5 = .ok (.aload_n 0, 1) := by decide +kernel
theorem dX0_coins_6 : decode cX0_coins 6 = .ok (.getfield 30, 3) := by decide +kernel
theorem dX0_coins_9 : decode cX0_coins 9 = .ok (.iload_n 1, 1) := by decide +kernel
theorem dX0_coins_10 : decode cX0_coins 10 = .ok (.iaload, 1) := by decide +kernel
theorem dX0_coins_11 : decode cX0_coins 11 = .ok (.ireturn, 1) := by decide +kernel
set_option maxRecDepth 20000 in
theorem ggX0_earned_X0_needPerson : GoodIn wsX0_earned wsX0_needPerson := goodIn_ca (goodIn_r _ [6, 7, 8, 9, 10, 11, 12, 13, 14, 15, 16, 17, 18, 19] (by decide +kernel) (by decide +kernel)) (goodIn_sub (fun _ h => List.mem_cons_of_mem _ (List.mem_append_right _ h)) (by decide +kernel))
set_option maxRecDepth 20000 in
theorem gX0_earned_X0_needPerson : GoodIn wsX0_earned (wsV RX0 60 RX0 yX0_needPerson wsX0_needPerson) := goodIn_app (goodIn_of _ (by decide +kernel)) ggX0_earned_X0_needPerson
theorem dX0_earned_0 : decode cX0_earned 0 = .ok (.aload_n 0, 1) := by decide +kernel
theorem dX0_earned_1 : decode cX0_earned 1 = .ok (.iload_n 1, 1) := by decide +kernel
theorem dX0_earned_2 : decode cX0_earned 2 = .ok (.invokevirtual 60, 3) := by decide +kernel
theorem dX0_earned_5 : decode cX0_earned 5 = .ok (.aload_n 0, 1) := by decide +kernel
theorem dX0_earned_6 : decode cX0_earned 6 = .ok (.getfield 33, 3) := by decide +kernel
theorem dX0_earned_9 : decode cX0_earned 9 = .ok (.iload_n 1, 1) := by decide +kernel
theorem dX0_earned_10 : decode cX0_earned 10 = .ok (.iaload, 1) := by decide +kernel
theorem dX0_earned_11 : decode cX0_earned 11 = .ok (.ireturn, 1) := by decide +kernel
set_option maxRecDepth 20000 in
theorem ggX0_allShares_X0_needPerson : GoodIn wsX0_allShares wsX0_needPerson := goodIn_ca (goodIn_r _ [5, 6, 7, 8, 26, 27, 28, 29, 30, 31, 32, 33, 34, 35] (by decide +kernel) (by decide +kernel)) (goodIn_sub (fun _ h => List.mem_cons_of_mem _ (List.mem_append_right _ h)) (by decide +kernel))
set_option maxRecDepth 20000 in
theorem gX0_allShares_X0_needPerson : GoodIn wsX0_allShares (wsV RX0 60 RX0 yX0_needPerson wsX0_needPerson) := goodIn_app (goodIn_of _ (by decide +kernel)) ggX0_allShares_X0_needPerson
set_option maxRecDepth 20000 in
theorem ggX0_allShares_X0_countAllShares : GoodIn wsX0_allShares wsX0_countAllShares := goodIn_r _ [12, 13, 14, 15, 16, 4, 17, 18, 19, 20, 21, 22, 23, 24, 25, 26, 27, 28, 29, 30, 31, 32, 33, 34, 35] (by decide +kernel) (by decide +kernel)
set_option maxRecDepth 20000 in
theorem gX0_allShares_X0_countAllShares : GoodIn wsX0_allShares (wsV RX0 149 RX0 yX0_countAllShares wsX0_countAllShares) := goodIn_app (goodIn_of _ (by decide +kernel)) ggX0_allShares_X0_countAllShares
theorem dX0_allShares_0 : decode cX0_allShares 0 = .ok (.aload_n 0, 1) := by decide +kernel
theorem dX0_allShares_1 : decode cX0_allShares 1 = .ok (.iload_n 1, 1) := by decide +kernel
theorem dX0_allShares_2 : decode cX0_allShares 2 = .ok (.invokevirtual 60, 3) := by decide +kernel
theorem dX0_allShares_5 : decode cX0_allShares 5 = .ok (.aload_n 0, 1) := by decide +kernel
theorem dX0_allShares_6 : decode cX0_allShares 6 = .ok (.iload_n 1, 1) := by decide +kernel
theorem dX0_allShares_7 : decode cX0_allShares 7 = .ok (.invokevirtual 149, 3) := by decide +kernel
theorem dX0_allShares_10 : decode cX0_allShares 10 = .ok (.ireturn, 1) := by decide +kernel
set_option maxRecDepth 20000 in
theorem ggX0_hasParent_X0_needPerson : GoodIn wsX0_hasParent wsX0_needPerson := goodIn_ca (goodIn_r _ [6, 7, 8, 9, 10, 11, 12, 13, 14, 15, 16, 17, 18, 19] (by decide +kernel) (by decide +kernel)) (goodIn_sub (fun _ h => List.mem_cons_of_mem _ (List.mem_append_right _ h)) (by decide +kernel))
set_option maxRecDepth 20000 in
theorem gX0_hasParent_X0_needPerson : GoodIn wsX0_hasParent (wsV RX0 60 RX0 yX0_needPerson wsX0_needPerson) := goodIn_app (goodIn_of _ (by decide +kernel)) ggX0_hasParent_X0_needPerson
theorem dX0_hasParent_0 : decode cX0_hasParent 0 = .ok (.aload_n 0, 1) := by decide +kernel
theorem dX0_hasParent_1 : decode cX0_hasParent 1 = .ok (.iload_n 1, 1) := by decide +kernel
theorem dX0_hasParent_2 : decode cX0_hasParent 2 = .ok (.invokevirtual 60, 3) := by decide +kernel
theorem dX0_hasParent_5 : decode cX0_hasParent 5 = .ok (.aload_n 0, 1) := by decide +kernel
theorem dX0_hasParent_6 : decode cX0_hasParent 6 = .ok (.getfield 36, 3) := by decide +kernel
theorem dX0_hasParent_9 : decode cX0_hasParent 9 = .ok (.iload_n 1, 1) := by decide +kernel
theorem dX0_hasParent_10 : decode cX0_hasParent 10 = .ok (.iaload, 1) := by decide +kernel
theorem dX0_hasParent_11 : decode cX0_hasParent 11 = .ok (.iconst (-1), 1) := by decide +kernel
theorem dX0_hasParent_12 : decode cX0_hasParent 12 = .ok (.if_icmp .eq 7, 3) := by decide +kernel
theorem dX0_hasParent_15 : decode cX0_hasParent 15 = .ok (.iconst 1, 1) := by decide +kernel
theorem dX0_hasParent_16 : decode cX0_hasParent 16 = .ok (.goto 4, 3) := by decide +kernel
theorem dX0_hasParent_19 : decode cX0_hasParent 19 = .ok (.iconst 0, 1) := by decide +kernel
theorem dX0_hasParent_20 : decode cX0_hasParent 20 = .ok (.ireturn, 1) := by decide +kernel
set_option maxRecDepth 20000 in
theorem ggX0_parent_X0_needPerson : GoodIn wsX0_parent wsX0_needPerson := goodIn_ca (goodIn_r _ [8, 9, 10, 11, 12, 13, 14, 15, 16, 17, 18, 19, 20, 21] (by decide +kernel) (by decide +kernel)) (goodIn_sub (fun _ h => List.mem_cons_of_mem _ (List.mem_append_right _ h)) (by decide +kernel))
set_option maxRecDepth 20000 in
theorem gX0_parent_X0_needPerson : GoodIn wsX0_parent (wsV RX0 60 RX0 yX0_needPerson wsX0_needPerson) := goodIn_app (goodIn_of _ (by decide +kernel)) ggX0_parent_X0_needPerson
theorem dX0_parent_0 : decode cX0_parent 0 = .ok (.aload_n 0, 1) := by decide +kernel
theorem dX0_parent_1 : decode cX0_parent 1 = .ok (.iload_n 1, 1) := by decide +kernel
theorem dX0_parent_2 : decode cX0_parent 2 = .ok (.invokevirtual 60, 3) := by decide +kernel
theorem dX0_parent_5 : decode cX0_parent 5 = .ok (.aload_n 0, 1) := by decide +kernel
theorem dX0_parent_6 : decode cX0_parent 6 = .ok (.getfield 36, 3) := by decide +kernel
theorem dX0_parent_9 : decode cX0_parent 9 = .ok (.iload_n 1, 1) := by decide +kernel
theorem dX0_parent_10 : decode cX0_parent 10 = .ok (.iaload, 1) := by decide +kernel
theorem dX0_parent_11 : decode cX0_parent 11 = .ok (.iconst (-1), 1) := by decide +kernel
theorem dX0_parent_12 : decode cX0_parent 12 = .ok (.if_icmp .ne 13, 3) := by decide +kernel
theorem dX0_parent_15 : decode cX0_parent 15 = .ok (.new 46, 3) := by decide +kernel
theorem dX0_parent_18 : decode cX0_parent 18 = .ok (.dup, 1) := by decide +kernel
theorem dX0_parent_19 : decode cX0_parent 19 = .ok (.ldc 152, 2) := by decide +kernel
theorem dX0_parent_21 : decode cX0_parent 21 = .ok (.invokespecial 50, 3) := by decide +kernel
theorem dX0_parent_24 : decode cX0_parent 24 = .ok (.athrow, 1) := by decide +kernel
theorem dX0_parent_25 : decode cX0_parent 25 = .ok (.aload_n 0, 1) := by decide +kernel
theorem dX0_parent_26 : decode cX0_parent 26 = .ok (.getfield 36, 3) := by decide +kernel
theorem dX0_parent_29 : decode cX0_parent 29 = .ok (.iload_n 1, 1) := by decide +kernel
theorem dX0_parent_30 : decode cX0_parent 30 = .ok (.iaload, 1) := by decide +kernel
theorem dX0_parent_31 : decode cX0_parent 31 = .ok (.ireturn, 1) := by decide +kernel
set_option maxRecDepth 20000 in
theorem ggX0_children_X0_needPerson : GoodIn wsX0_children wsX0_needPerson := goodIn_ca (goodIn_r _ [5, 6, 7, 8, 14, 15, 16, 17, 18, 19, 20, 21, 22, 23] (by decide +kernel) (by decide +kernel)) (goodIn_sub (fun _ h => List.mem_cons_of_mem _ (List.mem_append_right _ h)) (by decide +kernel))
set_option maxRecDepth 20000 in
theorem gX0_children_X0_needPerson : GoodIn wsX0_children (wsV RX0 60 RX0 yX0_needPerson wsX0_needPerson) := goodIn_app (goodIn_of _ (by decide +kernel)) ggX0_children_X0_needPerson
set_option maxRecDepth 20000 in
theorem ggX0_children_X0_countChildren : GoodIn wsX0_children wsX0_countChildren := goodIn_r _ [12, 8, 13, 14, 15, 16, 17, 18, 19, 20, 21, 22, 23] (by decide +kernel) (by decide +kernel)
set_option maxRecDepth 20000 in
theorem gX0_children_X0_countChildren : GoodIn wsX0_children (wsV RX0 154 RX0 yX0_countChildren wsX0_countChildren) := goodIn_app (goodIn_of _ (by decide +kernel)) ggX0_children_X0_countChildren
theorem dX0_children_0 : decode cX0_children 0 = .ok (.aload_n 0, 1) := by decide +kernel
theorem dX0_children_1 : decode cX0_children 1 = .ok (.iload_n 1, 1) := by decide +kernel
theorem dX0_children_2 : decode cX0_children 2 = .ok (.invokevirtual 60, 3) := by decide +kernel
theorem dX0_children_5 : decode cX0_children 5 = .ok (.aload_n 0, 1) := by decide +kernel
theorem dX0_children_6 : decode cX0_children 6 = .ok (.iload_n 1, 1) := by decide +kernel
theorem dX0_children_7 : decode cX0_children 7 = .ok (.invokevirtual 154, 3) := by decide +kernel
theorem dX0_children_10 : decode cX0_children 10 = .ok (.ireturn, 1) := by decide +kernel
set_option maxRecDepth 20000 in
theorem ggX0_heirs_X0_needPerson : GoodIn wsX0_heirs wsX0_needPerson := goodIn_ca (goodIn_r _ [5, 6, 7, 8, 27, 28, 29, 30, 31, 32, 33, 34, 35, 36] (by decide +kernel) (by decide +kernel)) (goodIn_sub (fun _ h => List.mem_cons_of_mem _ (List.mem_append_right _ h)) (by decide +kernel))
set_option maxRecDepth 20000 in
theorem gX0_heirs_X0_needPerson : GoodIn wsX0_heirs (wsV RX0 60 RX0 yX0_needPerson wsX0_needPerson) := goodIn_app (goodIn_of _ (by decide +kernel)) ggX0_heirs_X0_needPerson
set_option maxRecDepth 20000 in
theorem ggX0_heirs_X0_countHeirs : GoodIn wsX0_heirs wsX0_countHeirs := goodIn_r _ [12, 8, 13, 14, 15, 4, 16, 17, 18, 19, 20, 21, 22, 23, 24, 25, 26, 27, 28, 29, 30, 31, 32, 33, 34, 35, 36] (by decide +kernel) (by decide +kernel)
set_option maxRecDepth 20000 in
theorem gX0_heirs_X0_countHeirs : GoodIn wsX0_heirs (wsV RX0 129 RX0 yX0_countHeirs wsX0_countHeirs) := goodIn_app (goodIn_of _ (by decide +kernel)) ggX0_heirs_X0_countHeirs
theorem dX0_heirs_0 : decode cX0_heirs 0 = .ok (.aload_n 0, 1) := by decide +kernel
theorem dX0_heirs_1 : decode cX0_heirs 1 = .ok (.iload_n 1, 1) := by decide +kernel
theorem dX0_heirs_2 : decode cX0_heirs 2 = .ok (.invokevirtual 60, 3) := by decide +kernel
theorem dX0_heirs_5 : decode cX0_heirs 5 = .ok (.aload_n 0, 1) := by decide +kernel
theorem dX0_heirs_6 : decode cX0_heirs 6 = .ok (.iload_n 1, 1) := by decide +kernel
theorem dX0_heirs_7 : decode cX0_heirs 7 = .ok (.invokevirtual 129, 3) := by decide +kernel
theorem dX0_heirs_10 : decode cX0_heirs 10 = .ok (.ireturn, 1) := by decide +kernel
set_option maxRecDepth 20000 in
theorem ggX0_heir_X0_needPerson : GoodIn wsX0_heir wsX0_needPerson := goodIn_ca (goodIn_r _ [7, 1, 2, 8, 23, 24, 25, 26, 27, 28, 29, 30, 31, 32] (by decide +kernel) (by decide +kernel)) (goodIn_sub (fun _ h => List.mem_cons_of_mem _ (List.mem_append_right _ h)) (by decide +kernel))
set_option maxRecDepth 20000 in
theorem gX0_heir_X0_needPerson : GoodIn wsX0_heir (wsV RX0 60 RX0 yX0_needPerson wsX0_needPerson) := goodIn_app (goodIn_of _ (by decide +kernel)) ggX0_heir_X0_needPerson
set_option maxRecDepth 20000 in
theorem ggX0_heir_X0_findHeir : GoodIn wsX0_heir wsX0_findHeir := goodIn_r _ [12, 8, 13, 14, 15, 6, 16, 17, 18, 19, 20, 21, 22, 23, 24, 25, 26, 27, 28, 29, 30, 31, 32] (by decide +kernel) (by decide +kernel)
set_option maxRecDepth 20000 in
theorem gX0_heir_X0_findHeir : GoodIn wsX0_heir (wsV RX0 157 RX0 yX0_findHeir wsX0_findHeir) := goodIn_app (goodIn_of _ (by decide +kernel)) ggX0_heir_X0_findHeir
theorem dX0_heir_0 : decode cX0_heir 0 = .ok (.aload_n 0, 1) := by decide +kernel
theorem dX0_heir_1 : decode cX0_heir 1 = .ok (.iload_n 1, 1) := by decide +kernel
theorem dX0_heir_2 : decode cX0_heir 2 = .ok (.invokevirtual 60, 3) := by decide +kernel
theorem dX0_heir_5 : decode cX0_heir 5 = .ok (.aload_n 0, 1) := by decide +kernel
theorem dX0_heir_6 : decode cX0_heir 6 = .ok (.iload_n 1, 1) := by decide +kernel
theorem dX0_heir_7 : decode cX0_heir 7 = .ok (.iload_n 2, 1) := by decide +kernel
theorem dX0_heir_8 : decode cX0_heir 8 = .ok (.invokevirtual 157, 3) := by decide +kernel
theorem dX0_heir_11 : decode cX0_heir 11 = .ok (.istore_n 3, 1) := by decide +kernel
theorem dX0_heir_12 : decode cX0_heir 12 = .ok (.iload_n 3, 1) := by decide +kernel
theorem dX0_heir_13 : decode cX0_heir 13 = .ok (.iconst (-1), 1) := by decide +kernel
theorem dX0_heir_14 : decode cX0_heir 14 = .ok (.if_icmp .ne 13, 3) := by decide +kernel
theorem dX0_heir_17 : decode cX0_heir 17 = .ok (.new 160, 3) := by decide +kernel
theorem dX0_heir_20 : decode cX0_heir 20 = .ok (.dup, 1) := by decide +kernel
theorem dX0_heir_21 : decode cX0_heir 21 = .ok (.ldc 162, 2) := by decide +kernel
theorem dX0_heir_23 : decode cX0_heir 23 = .ok (.invokespecial 164, 3) := by decide +kernel
theorem dX0_heir_26 : decode cX0_heir 26 = .ok (.athrow, 1) := by decide +kernel
theorem dX0_heir_27 : decode cX0_heir 27 = .ok (.iload_n 3, 1) := by decide +kernel
theorem dX0_heir_28 : decode cX0_heir 28 = .ok (.ireturn, 1) := by decide +kernel
theorem dX0_crownCoins_0 : decode cX0_crownCoins 0 = .ok (.aload_n 0, 1) := by decide +kernel
theorem dX0_crownCoins_1 : decode cX0_crownCoins 1 = .ok (.getfield 39, 3) := by decide +kernel
theorem dX0_crownCoins_4 : decode cX0_crownCoins 4 = .ok (.ireturn, 1) := by decide +kernel
set_option maxRecDepth 20000 in
theorem ggX0_price_X0_needPerson : GoodIn wsX0_price wsX0_needPerson := goodIn_ca (goodIn_r _ [5, 6, 7, 8, 35, 36, 37, 38, 39, 40, 41, 42, 43, 44] (by decide +kernel) (by decide +kernel)) (goodIn_sub (fun _ h => List.mem_cons_of_mem _ (List.mem_append_right _ h)) (by decide +kernel))
set_option maxRecDepth 20000 in
theorem gX0_price_X0_needPerson : GoodIn wsX0_price (wsV RX0 60 RX0 yX0_needPerson wsX0_needPerson) := goodIn_app (goodIn_of _ (by decide +kernel)) ggX0_price_X0_needPerson
set_option maxRecDepth 20000 in
theorem ggX0_price_X0_needFerry : GoodIn wsX0_price wsX0_needFerry := goodIn_ca (goodIn_r _ [12, 6, 7, 13, 35, 36, 37, 38, 39, 40, 41, 42, 43, 44] (by decide +kernel) (by decide +kernel)) (goodIn_sub (fun _ h => List.mem_cons_of_mem _ (List.mem_append_right _ h)) (by decide +kernel))
set_option maxRecDepth 20000 in
theorem gX0_price_X0_needFerry : GoodIn wsX0_price (wsV RX0 75 RX0 yX0_needFerry wsX0_needFerry) := goodIn_app (goodIn_of _ (by decide +kernel)) ggX0_price_X0_needFerry
set_option maxRecDepth 20000 in
theorem ggX0_price_X0_needWatch : GoodIn wsX0_price wsX0_needWatch := goodIn_ca (goodIn_r _ [16, 6, 7] (by decide +kernel) (by decide +kernel)) (goodIn_sub (fun _ h => List.mem_cons_of_mem _ (List.mem_append_right _ h)) (by decide +kernel))
set_option maxRecDepth 20000 in
theorem gX0_price_X0_needWatch : GoodIn wsX0_price (va_wsS RX0 78 yX0_needWatch wsX0_needWatch) := goodIn_app (goodIn_of _ (by decide +kernel)) ggX0_price_X0_needWatch
set_option maxRecDepth 20000 in
theorem ggX0_price_X0_priceOf : GoodIn wsX0_price wsX0_priceOf := goodIn_r _ [20, 21, 22, 23, 4, 24, 25, 26, 27, 28, 29, 30, 31, 32, 33, 34, 35, 36, 37, 38, 39, 40, 41, 42, 43, 44] (by decide +kernel) (by decide +kernel)
set_option maxRecDepth 20000 in
theorem gX0_price_X0_priceOf : GoodIn wsX0_price (wsV RX0 111 RX0 yX0_priceOf wsX0_priceOf) := goodIn_app (goodIn_of _ (by decide +kernel)) ggX0_price_X0_priceOf
theorem dX0_price_0 : decode cX0_price 0 = .ok (.aload_n 0, 1) := by decide +kernel
theorem dX0_price_1 : decode cX0_price 1 = .ok (.iload_n 1, 1) := by decide +kernel
theorem dX0_price_2 : decode cX0_price 2 = .ok (.invokevirtual 60, 3) := by decide +kernel
theorem dX0_price_5 : decode cX0_price 5 = .ok (.aload_n 0, 1) := by decide +kernel
theorem dX0_price_6 : decode cX0_price 6 = .ok (.iload_n 2, 1) := by decide +kernel
theorem dX0_price_7 : decode cX0_price 7 = .ok (.invokevirtual 75, 3) := by decide +kernel
theorem dX0_price_10 : decode cX0_price 10 = .ok (.iload_n 3, 1) := by decide +kernel
theorem dX0_price_11 : decode cX0_price 11 = .ok (.invokestatic 78, 3) := by decide +kernel
theorem dX0_price_14 : decode cX0_price 14 = .ok (.aload_n 0, 1) := by decide +kernel
theorem dX0_price_15 : decode cX0_price 15 = .ok (.iload_n 1, 1) := by decide +kernel
theorem dX0_price_16 : decode cX0_price 16 = .ok (.iload_n 2, 1) := by decide +kernel
theorem dX0_price_17 : decode cX0_price 17 = .ok (.iload_n 3, 1) := by decide +kernel
theorem dX0_price_18 : decode cX0_price 18 = .ok (.invokevirtual 111, 3) := by decide +kernel
theorem dX0_price_21 : decode cX0_price 21 = .ok (.ireturn, 1) := by decide +kernel
set_option maxRecDepth 20000 in
theorem ggX0_canBuy_X0_needSale : GoodIn wsX0_canBuy wsX0_needSale := goodIn_ca (goodIn_r _ [5, 6, 7, 8, 4, 9, 10, 11, 12, 13, 14, 15, 16, 17, 18, 19, 20, 49, 50, 51, 52, 53, 54, 55, 56, 57, 58] (by decide +kernel) (by decide +kernel)) (goodIn_sub (fun _ h => List.mem_cons_of_mem _ (List.mem_append_right _ h)) (by decide +kernel))
set_option maxRecDepth 20000 in
theorem gX0_canBuy_X0_needSale : GoodIn wsX0_canBuy (wsV RX0 102 RX0 yX0_needSale wsX0_needSale) := goodIn_app (goodIn_of _ (by decide +kernel)) ggX0_canBuy_X0_needSale
set_option maxRecDepth 20000 in
theorem ggX0_canBuy_X0_mayBuy : GoodIn wsX0_canBuy wsX0_mayBuy := goodIn_r _ [24, 25, 26, 27, 28, 29, 4, 30, 31, 32, 33, 34, 35, 36, 37, 38, 39, 40, 41, 42, 43, 44, 45, 46, 47, 48, 12, 49, 50, 51, 52, 53, 54, 55, 56, 57, 58] (by decide +kernel) (by decide +kernel)
set_option maxRecDepth 20000 in
theorem gX0_canBuy_X0_mayBuy : GoodIn wsX0_canBuy (wsV RX0 105 RX0 yX0_mayBuy wsX0_mayBuy) := goodIn_app (goodIn_of _ (by decide +kernel)) ggX0_canBuy_X0_mayBuy
theorem dX0_canBuy_0 : decode cX0_canBuy 0 = .ok (.aload_n 0, 1) := by decide +kernel
theorem dX0_canBuy_1 : decode cX0_canBuy 1 = .ok (.iload_n 1, 1) := by decide +kernel
theorem dX0_canBuy_2 : decode cX0_canBuy 2 = .ok (.iload_n 2, 1) := by decide +kernel
theorem dX0_canBuy_3 : decode cX0_canBuy 3 = .ok (.iload_n 3, 1) := by decide +kernel
theorem dX0_canBuy_4 : decode cX0_canBuy 4 = .ok (.iload 4, 2) := by decide +kernel
theorem dX0_canBuy_6 : decode cX0_canBuy 6 = .ok (.invokevirtual 102, 3) := by decide +kernel
theorem dX0_canBuy_9 : decode cX0_canBuy 9 = .ok (.aload_n 0, 1) := by decide +kernel
theorem dX0_canBuy_10 : decode cX0_canBuy 10 = .ok (.iload_n 1, 1) := by decide +kernel
theorem dX0_canBuy_11 : decode cX0_canBuy 11 = .ok (.iload_n 2, 1) := by decide +kernel
theorem dX0_canBuy_12 : decode cX0_canBuy 12 = .ok (.iload_n 3, 1) := by decide +kernel
theorem dX0_canBuy_13 : decode cX0_canBuy 13 = .ok (.iload 4, 2) := by decide +kernel
theorem dX0_canBuy_15 : decode cX0_canBuy 15 = .ok (.invokevirtual 105, 3) := by decide +kernel
theorem dX0_canBuy_18 : decode cX0_canBuy 18 = .ok (.ireturn, 1) := by decide +kernel
set_option maxRecDepth 20000 in
theorem ggX0_inheritance_X0_needPerson : GoodIn wsX0_inheritance wsX0_needPerson := goodIn_ca (goodIn_r _ [5, 6, 7, 8, 46, 47, 48, 49, 50, 51, 52, 53, 54, 55] (by decide +kernel) (by decide +kernel)) (goodIn_sub (fun _ h => List.mem_cons_of_mem _ (List.mem_append_right _ h)) (by decide +kernel))
set_option maxRecDepth 20000 in
theorem gX0_inheritance_X0_needPerson : GoodIn wsX0_inheritance (wsV RX0 60 RX0 yX0_needPerson wsX0_needPerson) := goodIn_app (goodIn_of _ (by decide +kernel)) ggX0_inheritance_X0_needPerson
set_option maxRecDepth 20000 in
theorem ggX0_inheritance_X0_needFerry : GoodIn wsX0_inheritance wsX0_needFerry := goodIn_ca (goodIn_r _ [12, 6, 7, 13, 46, 47, 48, 49, 50, 51, 52, 53, 54, 55] (by decide +kernel) (by decide +kernel)) (goodIn_sub (fun _ h => List.mem_cons_of_mem _ (List.mem_append_right _ h)) (by decide +kernel))
set_option maxRecDepth 20000 in
theorem gX0_inheritance_X0_needFerry : GoodIn wsX0_inheritance (wsV RX0 75 RX0 yX0_needFerry wsX0_needFerry) := goodIn_app (goodIn_of _ (by decide +kernel)) ggX0_inheritance_X0_needFerry
set_option maxRecDepth 20000 in
theorem ggX0_inheritance_X0_needWatch : GoodIn wsX0_inheritance wsX0_needWatch := goodIn_ca (goodIn_r _ [16, 6, 7] (by decide +kernel) (by decide +kernel)) (goodIn_sub (fun _ h => List.mem_cons_of_mem _ (List.mem_append_right _ h)) (by decide +kernel))
set_option maxRecDepth 20000 in
theorem gX0_inheritance_X0_needWatch : GoodIn wsX0_inheritance (va_wsS RX0 78 yX0_needWatch wsX0_needWatch) := goodIn_app (goodIn_of _ (by decide +kernel)) ggX0_inheritance_X0_needWatch
set_option maxRecDepth 20000 in
theorem ggX0_inheritance_X0_isHeir : GoodIn wsX0_inheritance wsX0_isHeir := goodIn_r _ [20, 21, 22, 23, 24, 25, 4, 26, 8, 46, 47, 48, 49, 50, 51, 52, 53, 54, 55] (by decide +kernel) (by decide +kernel)
set_option maxRecDepth 20000 in
theorem gX0_inheritance_X0_isHeir : GoodIn wsX0_inheritance (wsV RX0 132 RX0 yX0_isHeir wsX0_isHeir) := goodIn_app (goodIn_of _ (by decide +kernel)) ggX0_inheritance_X0_isHeir
set_option maxRecDepth 20000 in
theorem ggX0_inheritance_X0_owns : GoodIn wsX0_inheritance wsX0_owns := goodIn_r _ [30, 31, 32, 33, 4, 34, 46, 47, 48, 49, 50, 51, 52, 53, 54, 55] (by decide +kernel) (by decide +kernel)
set_option maxRecDepth 20000 in
theorem gX0_inheritance_X0_owns : GoodIn wsX0_inheritance (wsV RX0 96 RX0 yX0_owns wsX0_owns) := goodIn_app (goodIn_of _ (by decide +kernel)) ggX0_inheritance_X0_owns
set_option maxRecDepth 20000 in
theorem ggX0_inheritance_X0_countHeirs : GoodIn wsX0_inheritance wsX0_countHeirs := goodIn_r _ [38, 8, 39, 40, 41, 4, 42, 17, 18, 19, 20, 21, 22, 23, 24, 25, 26, 46, 47, 48, 49, 50, 51, 52, 53, 54, 55] (by decide +kernel) (by decide +kernel)
set_option maxRecDepth 20000 in
theorem gX0_inheritance_X0_countHeirs : GoodIn wsX0_inheritance (wsV RX0 129 RX0 yX0_countHeirs wsX0_countHeirs) := goodIn_app (goodIn_of _ (by decide +kernel)) ggX0_inheritance_X0_countHeirs
set_option maxRecDepth 20000 in
theorem ggX0_inheritance_X0_countHeirsBelow : GoodIn wsX0_inheritance wsX0_countHeirsBelow := goodIn_r _ [42, 17, 18, 19, 4, 20, 21, 22, 23, 24, 25, 26, 8, 46, 47, 48, 49, 50, 51, 52, 53, 54, 55] (by decide +kernel) (by decide +kernel)
set_option maxRecDepth 20000 in
theorem gX0_inheritance_X0_countHeirsBelow : GoodIn wsX0_inheritance (wsV RX0 165 RX0 yX0_countHeirsBelow wsX0_countHeirsBelow) := goodIn_app (goodIn_of _ (by decide +kernel)) ggX0_inheritance_X0_countHeirsBelow
set_option maxRecDepth 20000 in
theorem ggX0_inheritance_X0_partOf : GoodIn wsX0_inheritance wsX0_partOf := goodIn_r _ [45] (by decide +kernel) (by decide +kernel)
set_option maxRecDepth 20000 in
theorem gX0_inheritance_X0_partOf : GoodIn wsX0_inheritance (va_wsS RX0 168 yX0_partOf wsX0_partOf) := goodIn_app (goodIn_of _ (by decide +kernel)) ggX0_inheritance_X0_partOf
theorem dX0_inheritance_0 : decode cX0_inheritance 0 = .ok (.aload_n 0, 1) := by decide +kernel
theorem dX0_inheritance_1 : decode cX0_inheritance 1 = .ok (.iload_n 1, 1) := by decide +kernel
theorem dX0_inheritance_2 : decode cX0_inheritance 2 = .ok (.invokevirtual 60, 3) := by decide +kernel
theorem dX0_inheritance_5 : decode cX0_inheritance 5 = .ok (.aload_n 0, 1) := by decide +kernel
theorem dX0_inheritance_6 : decode cX0_inheritance 6 = .ok (.iload_n 2, 1) := by decide +kernel
theorem dX0_inheritance_7 : decode cX0_inheritance 7 = .ok (.invokevirtual 60, 3) := by decide +kernel
theorem dX0_inheritance_10 : decode cX0_inheritance 10 = .ok (.aload_n 0, 1) := by decide +kernel
theorem dX0_inheritance_11 : decode cX0_inheritance 11 = .ok (.iload_n 3, 1) := by decide +kernel
theorem dX0_inheritance_12 : decode cX0_inheritance 12 = .ok (.invokevirtual 75, 3) := by decide +kernel
theorem dX0_inheritance_15 : decode cX0_inheritance 15 = .ok (.iload 4, 2) := by decide +kernel
theorem dX0_inheritance_17 : decode cX0_inheritance 17 = .ok (.invokestatic 78, 3) := by decide +kernel
theorem dX0_inheritance_20 : decode cX0_inheritance 20 = .ok (.aload_n 0, 1) := by decide +kernel
theorem dX0_inheritance_21 : decode cX0_inheritance 21 = .ok (.iload_n 2, 1) := by decide +kernel
theorem dX0_inheritance_22 : decode cX0_inheritance 22 = .ok (.iload_n 1, 1) := by decide +kernel
theorem dX0_inheritance_23 : decode cX0_inheritance 23 = .ok (.invokevirtual 132, 3) := by decide +kernel
theorem dX0_inheritance_26 : decode cX0_inheritance 26 = .ok (.ifCond .ne 5, 3) := by decide +kernel
theorem dX0_inheritance_29 : decode cX0_inheritance 29 = .ok (.iconst 0, 1) := by decide +kernel
theorem dX0_inheritance_30 : decode cX0_inheritance 30 = .ok (.ireturn, 1) := by decide +kernel
theorem dX0_inheritance_31 : decode cX0_inheritance 31 = .ok (.aload_n 0, 1) := by decide +kernel
theorem dX0_inheritance_32 : decode cX0_inheritance 32 = .ok (.iload_n 3, 1) := by decide +kernel
theorem dX0_inheritance_33 : decode cX0_inheritance 33 = .ok (.iload 4, 2) := by decide +kernel
theorem dX0_inheritance_35 : decode cX0_inheritance 35 = .ok (.iload_n 1, 1) := by decide +kernel
theorem dX0_inheritance_36 : decode cX0_inheritance 36 = .ok (.invokevirtual 96, 3) := by decide +kernel
theorem dX0_inheritance_39 : decode cX0_inheritance 39 = .ok (.aload_n 0, 1) := by decide +kernel
theorem dX0_inheritance_40 : decode cX0_inheritance 40 = .ok (.iload_n 1, 1) := by decide +kernel
theorem dX0_inheritance_41 : decode cX0_inheritance 41 = .ok (.invokevirtual 129, 3) := by decide +kernel
theorem dX0_inheritance_44 : decode cX0_inheritance 44 = .ok (.aload_n 0, 1) := by decide +kernel
theorem dX0_inheritance_45 : decode cX0_inheritance 45 = .ok (.iload_n 2, 1) := by decide +kernel
theorem dX0_inheritance_46 : decode cX0_inheritance 46 = .ok (.iload_n 1, 1) := by decide +kernel
theorem dX0_inheritance_47 : decode cX0_inheritance 47 = .ok (.invokevirtual 165, 3) := by decide +kernel
theorem dX0_inheritance_50 : decode cX0_inheritance 50 = .ok (.invokestatic 168, 3) := by decide +kernel
theorem dX0_inheritance_53 : decode cX0_inheritance 53 = .ok (.ireturn, 1) := by decide +kernel
set_option maxRecDepth 20000 in
theorem ggX0_fare_X0_needPerson : GoodIn wsX0_fare wsX0_needPerson := goodIn_ca (goodIn_r _ [5, 6, 7, 8, 35, 36, 37, 38, 39, 40, 41, 42, 43, 44] (by decide +kernel) (by decide +kernel)) (goodIn_sub (fun _ h => List.mem_cons_of_mem _ (List.mem_append_left _ (List.mem_append_right _ h))) (by decide +kernel))
set_option maxRecDepth 20000 in
theorem gX0_fare_X0_needPerson : GoodIn wsX0_fare (wsV RX0 60 RX0 yX0_needPerson wsX0_needPerson) := goodIn_app (goodIn_of _ (by decide +kernel)) ggX0_fare_X0_needPerson
set_option maxRecDepth 20000 in
theorem ggX0_fare_X0_needFerry : GoodIn wsX0_fare wsX0_needFerry := goodIn_ca (goodIn_r _ [12, 6, 7, 13, 35, 36, 37, 38, 39, 40, 41, 42, 43, 44] (by decide +kernel) (by decide +kernel)) (goodIn_sub (fun _ h => List.mem_cons_of_mem _ (List.mem_append_left _ (List.mem_append_right _ h))) (by decide +kernel))
set_option maxRecDepth 20000 in
theorem gX0_fare_X0_needFerry : GoodIn wsX0_fare (wsV RX0 75 RX0 yX0_needFerry wsX0_needFerry) := goodIn_app (goodIn_of _ (by decide +kernel)) ggX0_fare_X0_needFerry
set_option maxRecDepth 20000 in
theorem ggX0_fare_X0_needHour : GoodIn wsX0_fare wsX0_needHour := goodIn_ca (goodIn_r _ [16, 6, 7] (by decide +kernel) (by decide +kernel)) (goodIn_sub (fun _ h => List.mem_cons_of_mem _ (List.mem_append_left _ (List.mem_append_right _ h))) (by decide +kernel))
set_option maxRecDepth 20000 in
theorem gX0_fare_X0_needHour : GoodIn wsX0_fare (va_wsS RX0 119 yX0_needHour wsX0_needHour) := goodIn_app (goodIn_of _ (by decide +kernel)) ggX0_fare_X0_needHour
set_option maxRecDepth 20000 in
theorem ggX0_fare_X0_needPassengers : GoodIn wsX0_fare wsX0_needPassengers := goodIn_ca (goodIn_r _ [19, 20, 21] (by decide +kernel) (by decide +kernel)) (goodIn_sub (fun _ h => List.mem_cons_of_mem _ (List.mem_append_right _ h)) (by decide +kernel))
set_option maxRecDepth 20000 in
theorem gX0_fare_X0_needPassengers : GoodIn wsX0_fare (va_wsS RX0 122 yX0_needPassengers wsX0_needPassengers) := goodIn_app (goodIn_of _ (by decide +kernel)) ggX0_fare_X0_needPassengers
set_option maxRecDepth 20000 in
theorem ggX0_fare_X0_fareOf : GoodIn wsX0_fare wsX0_fareOf := goodIn_r _ [25, 26, 27, 28, 29, 4, 30, 31, 32, 33, 34, 35, 36, 37, 38, 39, 40, 41, 42, 43, 44] (by decide +kernel) (by decide +kernel)
set_option maxRecDepth 20000 in
theorem gX0_fare_X0_fareOf : GoodIn wsX0_fare (wsV RX0 125 RX0 yX0_fareOf wsX0_fareOf) := goodIn_app (goodIn_of _ (by decide +kernel)) ggX0_fare_X0_fareOf
theorem dX0_fare_0 : decode cX0_fare 0 = .ok (.aload_n 0, 1) := by decide +kernel
theorem dX0_fare_1 : decode cX0_fare 1 = .ok (.iload_n 1, 1) := by decide +kernel
theorem dX0_fare_2 : decode cX0_fare 2 = .ok (.invokevirtual 60, 3) := by decide +kernel
theorem dX0_fare_5 : decode cX0_fare 5 = .ok (.aload_n 0, 1) := by decide +kernel
theorem dX0_fare_6 : decode cX0_fare 6 = .ok (.iload_n 2, 1) := by decide +kernel
theorem dX0_fare_7 : decode cX0_fare 7 = .ok (.invokevirtual 75, 3) := by decide +kernel
theorem dX0_fare_10 : decode cX0_fare 10 = .ok (.iload_n 3, 1) := by decide +kernel
theorem dX0_fare_11 : decode cX0_fare 11 = .ok (.invokestatic 119, 3) := by decide +kernel
theorem dX0_fare_14 : decode cX0_fare 14 = .ok (.iload 4, 2) := by decide +kernel
theorem dX0_fare_16 : decode cX0_fare 16 = .ok (.invokestatic 122, 3) := by decide +kernel
theorem dX0_fare_19 : decode cX0_fare 19 = .ok (.aload_n 0, 1) := by decide +kernel
theorem dX0_fare_20 : decode cX0_fare 20 = .ok (.iload_n 1, 1) := by decide +kernel
theorem dX0_fare_21 : decode cX0_fare 21 = .ok (.iload_n 2, 1) := by decide +kernel
theorem dX0_fare_22 : decode cX0_fare 22 = .ok (.iload_n 3, 1) := by decide +kernel
theorem dX0_fare_23 : decode cX0_fare 23 = .ok (.bipush 6, 2) := by decide +kernel
theorem dX0_fare_25 : decode cX0_fare 25 = .ok (.idiv, 1) := by decide +kernel
theorem dX0_fare_26 : decode cX0_fare 26 = .ok (.iload 4, 2) := by decide +kernel
theorem dX0_fare_28 : decode cX0_fare 28 = .ok (.invokevirtual 125, 3) := by decide +kernel
theorem dX0_fare_31 : decode cX0_fare 31 = .ok (.ireturn, 1) := by decide +kernel
theorem dX0_richest_0 : decode cX0_richest 0 = .ok (.iconst (-1), 1) := by decide +kernel
theorem dX0_richest_1 : decode cX0_richest 1 = .ok (.istore_n 1, 1) := by decide +kernel
theorem dX0_richest_2 : decode cX0_richest 2 = .ok (.iconst (-1), 1) := by decide +kernel
theorem dX0_richest_3 : decode cX0_richest 3 = .ok (.istore_n 2, 1) := by decide +kernel
theorem dX0_richest_4 : decode cX0_richest 4 = .ok (.iconst 0, 1) := by decide +kernel
theorem dX0_richest_5 : decode cX0_richest 5 = .ok (.istore_n 3, 1) := by decide +kernel
theorem dX0_richest_6 : decode cX0_richest 6 = .ok (.iload_n 3, 1) := by decide +kernel
theorem dX0_richest_7 : decode cX0_richest 7 = .ok (.aload_n 0, 1) := by decide +kernel
theorem dX0_richest_8 : decode cX0_richest 8 = .ok (.getfield 23, 3) := by decide +kernel
theorem dX0_richest_11 : decode cX0_richest 11 = .ok (.if_icmp .ge 37, 3) := by decide +kernel
theorem dX0_richest_14 : decode cX0_richest 14 = .ok (.aload_n 0, 1) := by decide +kernel
theorem dX0_richest_15 : decode cX0_richest 15 = .ok (.getfield 26, 3) := by decide +kernel
theorem dX0_richest_18 : decode cX0_richest 18 = .ok (.iload_n 3, 1) := by decide +kernel
theorem dX0_richest_19 : decode cX0_richest 19 = .ok (.baload, 1) := by decide +kernel
theorem dX0_richest_20 : decode cX0_richest 20 = .ok (.ifCond .eq 22, 3) := by decide +kernel
theorem dX0_richest_23 : decode cX0_richest 23 = .ok (.aload_n 0, 1) := by decide +kernel
theorem dX0_richest_24 : decode cX0_richest 24 = .ok (.getfield 30, 3) := by decide +kernel
theorem dX0_richest_27 : decode cX0_richest 27 = .ok (.iload_n 3, 1) := by decide +kernel
theorem dX0_richest_28 : decode cX0_richest 28 = .ok (.iaload, 1) := by decide +kernel
theorem dX0_richest_29 : decode cX0_richest 29 = .ok (.iload_n 2, 1) := by decide +kernel
theorem dX0_richest_30 : decode cX0_richest 30 = .ok (.if_icmp .le 12, 3) := by decide +kernel
theorem dX0_richest_33 : decode cX0_richest 33 = .ok (.iload_n 3, 1) := by decide +kernel
theorem dX0_richest_34 : decode cX0_richest 34 = .ok (.istore_n 1, 1) := by decide +kernel
theorem dX0_richest_35 : decode cX0_richest 35 = .ok (.aload_n 0, 1) := by decide +kernel
theorem dX0_richest_36 : decode cX0_richest 36 = .ok (.getfield 30, 3) := by decide +kernel
theorem dX0_richest_39 : decode cX0_richest 39 = .ok (.iload_n 3, 1) := by decide +kernel
theorem dX0_richest_40 : decode cX0_richest 40 = .ok (.iaload, 1) := by decide +kernel
theorem dX0_richest_41 : decode cX0_richest 41 = .ok (.istore_n 2, 1) := by decide +kernel
theorem dX0_richest_42 : decode cX0_richest 42 = .ok (.iinc 3 1, 3) := by decide +kernel
theorem dX0_richest_45 : decode cX0_richest 45 = .ok (.goto (-39), 3) := by decide +kernel
theorem dX0_richest_48 : decode cX0_richest 48 = .ok (.iload_n 1, 1) := by decide +kernel
theorem dX0_richest_49 : decode cX0_richest 49 = .ok (.iconst (-1), 1) := by decide +kernel
theorem dX0_richest_50 : decode cX0_richest 50 = .ok (.if_icmp .ne 13, 3) := by decide +kernel
theorem dX0_richest_53 : decode cX0_richest 53 = .ok (.new 46, 3) := by decide +kernel
theorem dX0_richest_56 : decode cX0_richest 56 = .ok (.dup, 1) := by decide +kernel
theorem dX0_richest_57 : decode cX0_richest 57 = .ok (.ldc 171, 2) := by decide +kernel
theorem dX0_richest_59 : decode cX0_richest 59 = .ok (.invokespecial 50, 3) := by decide +kernel
theorem dX0_richest_62 : decode cX0_richest 62 = .ok (.athrow, 1) := by decide +kernel
theorem dX0_richest_63 : decode cX0_richest 63 = .ok (.iload_n 1, 1) := by decide +kernel
theorem dX0_richest_64 : decode cX0_richest 64 = .ok (.ireturn, 1) := by decide +kernel
theorem dX0_meanCoins_0 : decode cX0_meanCoins 0 = .ok (.iconst 0, 1) := by decide +kernel
theorem dX0_meanCoins_1 : decode cX0_meanCoins 1 = .ok (.istore_n 1, 1) := by decide +kernel
theorem dX0_meanCoins_2 : decode cX0_meanCoins 2 = .ok (.iconst 0, 1) := by decide +kernel
theorem dX0_meanCoins_3 : decode cX0_meanCoins 3 = .ok (.istore_n 2, 1) := by decide +kernel
theorem dX0_meanCoins_4 : decode cX0_meanCoins 4 = .ok (.iconst 0, 1) := by decide +kernel
theorem dX0_meanCoins_5 : decode cX0_meanCoins 5 = .ok (.istore_n 3, 1) := by decide +kernel
theorem dX0_meanCoins_6 : decode cX0_meanCoins 6 = .ok (.iload_n 3, 1) := by decide +kernel
theorem dX0_meanCoins_7 : decode cX0_meanCoins 7 = .ok (.aload_n 0, 1) := by decide +kernel
theorem dX0_meanCoins_8 : decode cX0_meanCoins 8 = .ok (.getfield 23, 3) := by decide +kernel
theorem dX0_meanCoins_11 : decode cX0_meanCoins 11 = .ok (.if_icmp .ge 30, 3) := by decide +kernel
theorem dX0_meanCoins_14 : decode cX0_meanCoins 14 = .ok (.aload_n 0, 1) := by decide +kernel
theorem dX0_meanCoins_15 : decode cX0_meanCoins 15 = .ok (.getfield 26, 3) := by decide +kernel
theorem dX0_meanCoins_18 : decode cX0_meanCoins 18 = .ok (.iload_n 3, 1) := by decide +kernel
theorem dX0_meanCoins_19 : decode cX0_meanCoins 19 = .ok (.baload, 1) := by decide +kernel
theorem dX0_meanCoins_20 : decode cX0_meanCoins 20 = .ok (.ifCond .eq 15, 3) := by decide +kernel
theorem dX0_meanCoins_23 : decode cX0_meanCoins 23 = .ok (.iinc 1 1, 3) := by decide +kernel
theorem dX0_meanCoins_26 : decode cX0_meanCoins 26 = .ok (.iload_n 2, 1) := by decide +kernel
theorem dX0_meanCoins_27 : decode cX0_meanCoins 27 = .ok (.aload_n 0, 1) := by decide +kernel
theorem dX0_meanCoins_28 : decode cX0_meanCoins 28 = .ok (.getfield 30, 3) := by decide +kernel
theorem dX0_meanCoins_31 : decode cX0_meanCoins 31 = .ok (.iload_n 3, 1) := by decide +kernel
theorem dX0_meanCoins_32 : decode cX0_meanCoins 32 = .ok (.iaload, 1) := by decide +kernel
theorem dX0_meanCoins_33 : decode cX0_meanCoins 33 = .ok (.iadd, 1) := by decide +kernel
theorem dX0_meanCoins_34 : decode cX0_meanCoins 34 = .ok (.istore_n 2, 1) := by decide +kernel
theorem dX0_meanCoins_35 : decode cX0_meanCoins 35 = .ok (.iinc 3 1, 3) := by decide +kernel
theorem dX0_meanCoins_38 : decode cX0_meanCoins 38 = .ok (.goto (-32), 3) := by decide +kernel
theorem dX0_meanCoins_41 : decode cX0_meanCoins 41 = .ok (.iload_n 1, 1) := by decide +kernel
theorem dX0_meanCoins_42 : decode cX0_meanCoins 42 = .ok (.ifCond .ne 5, 3) := by decide +kernel
theorem dX0_meanCoins_45 : decode cX0_meanCoins 45 = .ok (.dconst 0, 1) := by decide +kernel
theorem dX0_meanCoins_46 : decode cX0_meanCoins 46 = .ok (.dreturn, 1) := by decide +kernel
theorem dX0_meanCoins_47 : decode cX0_meanCoins 47 = .ok (.iload_n 2, 1) := by decide +kernel
theorem dX0_meanCoins_48 : decode cX0_meanCoins 48 = .ok (.i2d, 1) := by decide +kernel
theorem dX0_meanCoins_49 : decode cX0_meanCoins 49 = .ok (.iload_n 1, 1) := by decide +kernel
theorem dX0_meanCoins_50 : decode cX0_meanCoins 50 = .ok (.i2d, 1) := by decide +kernel
theorem dX0_meanCoins_51 : decode cX0_meanCoins 51 = .ok (.ddiv, 1) := by decide +kernel
theorem dX0_meanCoins_52 : decode cX0_meanCoins 52 = .ok (.dreturn, 1) := by decide +kernel
set_option maxRecDepth 20000 in
theorem ggX0_digest_X0_mix : GoodIn wsX0_digest wsX0_mix := goodIn_r _ [8, 9] (by decide +kernel) (by decide +kernel)
set_option maxRecDepth 20000 in
theorem gX0_digest_X0_mix : GoodIn wsX0_digest (va_wsS RX0 175 yX0_mix wsX0_mix) := goodIn_app (goodIn_of _ (by decide +kernel)) ggX0_digest_X0_mix
set_option maxRecDepth 20000 in
theorem ggX0_digest_X0_living : GoodIn wsX0_digest wsX0_living := goodIn_r _ [13, 3, 14, 64, 65, 66, 67, 68, 69, 70, 71, 72, 73] (by decide +kernel) (by decide +kernel)
set_option maxRecDepth 20000 in
theorem gX0_digest_X0_living : GoodIn wsX0_digest (wsV RX0 179 RX0 yX0_living wsX0_living) := goodIn_app (goodIn_of _ (by decide +kernel)) ggX0_digest_X0_living
set_option maxRecDepth 20000 in
theorem ggX0_digest_X0_mixFerry : GoodIn wsX0_digest wsX0_mixFerry := goodIn_r _ [18, 19, 20, 3, 5, 6, 7, 8, 9, 21, 22, 23, 24, 25, 26, 27, 28, 64, 65, 66, 67, 68, 69, 70, 71, 72, 73] (by decide +kernel) (by decide +kernel)
set_option maxRecDepth 20000 in
theorem gX0_digest_X0_mixFerry : GoodIn wsX0_digest (wsV RX0 183 RX0 yX0_mixFerry wsX0_mixFerry) := goodIn_app (goodIn_of _ (by decide +kernel)) ggX0_digest_X0_mixFerry
set_option maxRecDepth 20000 in
theorem ggX0_digest_X0_mixPerson : GoodIn wsX0_digest wsX0_mixPerson := goodIn_r _ [32, 14, 33, 34, 5, 6, 7, 8, 9, 35, 36, 37, 38, 2, 39, 40, 41, 42, 21, 22, 23, 24, 25, 26, 27, 28, 43, 44, 45, 46, 3, 47, 48, 49, 50, 51, 52, 53, 54, 55, 56, 57, 58, 59, 60, 61, 62, 63, 64, 65, 66, 67, 68, 69, 70, 71, 72, 73] (by decide +kernel) (by decide +kernel)
set_option maxRecDepth 20000 in
theorem gX0_digest_X0_mixPerson : GoodIn wsX0_digest (wsV RX0 187 RX0 yX0_mixPerson wsX0_mixPerson) := goodIn_app (goodIn_of _ (by decide +kernel)) ggX0_digest_X0_mixPerson
theorem dX0_digest_0 : decode cX0_digest 0 = .ok (.ldc2_w 173, 3) := by decide +kernel
theorem dX0_digest_3 : decode cX0_digest 3 = .ok (.lstore_n 1, 1) := by decide +kernel
theorem dX0_digest_4 : decode cX0_digest 4 = .ok (.lload_n 1, 1) := by decide +kernel
theorem dX0_digest_5 : decode cX0_digest 5 = .ok (.aload_n 0, 1) := by decide +kernel
theorem dX0_digest_6 : decode cX0_digest 6 = .ok (.getfield 9, 3) := by decide +kernel
theorem dX0_digest_9 : decode cX0_digest 9 = .ok (.i2l, 1) := by decide +kernel
theorem dX0_digest_10 : decode cX0_digest 10 = .ok (.invokestatic 175, 3) := by decide +kernel
theorem dX0_digest_13 : decode cX0_digest 13 = .ok (.lstore_n 1, 1) := by decide +kernel
theorem dX0_digest_14 : decode cX0_digest 14 = .ok (.lload_n 1, 1) := by decide +kernel
theorem dX0_digest_15 : decode cX0_digest 15 = .ok (.aload_n 0, 1) := by decide +kernel
theorem dX0_digest_16 : decode cX0_digest 16 = .ok (.getfield 23, 3) := by decide +kernel
theorem dX0_digest_19 : decode cX0_digest 19 = .ok (.i2l, 1) := by decide +kernel
theorem dX0_digest_20 : decode cX0_digest 20 = .ok (.invokestatic 175, 3) := by decide +kernel
theorem dX0_digest_23 : decode cX0_digest 23 = .ok (.lstore_n 1, 1) := by decide +kernel
theorem dX0_digest_24 : decode cX0_digest 24 = .ok (.lload_n 1, 1) := by decide +kernel
theorem dX0_digest_25 : decode cX0_digest 25 = .ok (.aload_n 0, 1) := by decide +kernel
theorem dX0_digest_26 : decode cX0_digest 26 = .ok (.invokevirtual 179, 3) := by decide +kernel
theorem dX0_digest_29 : decode cX0_digest 29 = .ok (.i2l, 1) := by decide +kernel
theorem dX0_digest_30 : decode cX0_digest 30 = .ok (.invokestatic 175, 3) := by decide +kernel
theorem dX0_digest_33 : decode cX0_digest 33 = .ok (.lstore_n 1, 1) := by decide +kernel
theorem dX0_digest_34 : decode cX0_digest 34 = .ok (.lload_n 1, 1) := by decide +kernel
theorem dX0_digest_35 : decode cX0_digest 35 = .ok (.aload_n 0, 1) := by decide +kernel
theorem dX0_digest_36 : decode cX0_digest 36 = .ok (.getfield 39, 3) := by decide +kernel
theorem dX0_digest_39 : decode cX0_digest 39 = .ok (.i2l, 1) := by decide +kernel
theorem dX0_digest_40 : decode cX0_digest 40 = .ok (.invokestatic 175, 3) := by decide +kernel
theorem dX0_digest_43 : decode cX0_digest 43 = .ok (.lstore_n 1, 1) := by decide +kernel
theorem dX0_digest_44 : decode cX0_digest 44 = .ok (.iconst 0, 1) := by decide +kernel
theorem dX0_digest_45 : decode cX0_digest 45 = .ok (.istore_n 3, 1) := by decide +kernel
theorem dX0_digest_46 : decode cX0_digest 46 = .ok (.iload_n 3, 1) := by decide +kernel
theorem dX0_digest_47 : decode cX0_digest 47 = .ok (.aload_n 0, 1) := by decide +kernel
theorem dX0_digest_48 : decode cX0_digest 48 = .ok (.getfield 9, 3) := by decide +kernel
theorem dX0_digest_51 : decode cX0_digest 51 = .ok (.if_icmp .ge 16, 3) := by decide +kernel
theorem dX0_digest_54 : decode cX0_digest 54 = .ok (.aload_n 0, 1) := by decide +kernel
theorem dX0_digest_55 : decode cX0_digest 55 = .ok (.lload_n 1, 1) := by decide +kernel
theorem dX0_digest_56 : decode cX0_digest 56 = .ok (.iload_n 3, 1) := by decide +kernel
theorem dX0_digest_57 : decode cX0_digest 57 = .ok (.invokevirtual 183, 3) := by decide +kernel
theorem dX0_digest_60 : decode cX0_digest 60 = .ok (.lstore_n 1, 1) := by decide +kernel
theorem dX0_digest_61 : decode cX0_digest 61 = .ok (.iinc 3 1, 3) := by decide +kernel
theorem dX0_digest_64 : decode cX0_digest 64 = .ok (.goto (-18), 3) := by decide +kernel
theorem dX0_digest_67 : decode cX0_digest 67 = .ok (.iconst 0, 1) := by decide +kernel
theorem dX0_digest_68 : decode cX0_digest 68 = .ok (.istore_n 3, 1) := by decide +kernel
theorem dX0_digest_69 : decode cX0_digest 69 = .ok (.iload_n 3, 1) := by decide +kernel
theorem dX0_digest_70 : decode cX0_digest 70 = .ok (.aload_n 0, 1) := by decide +kernel
theorem dX0_digest_71 : decode cX0_digest 71 = .ok (.getfield 23, 3) := by decide +kernel
theorem dX0_digest_74 : decode cX0_digest 74 = .ok (.if_icmp .ge 16, 3) := by decide +kernel
theorem dX0_digest_77 : decode cX0_digest 77 = .ok (.aload_n 0, 1) := by decide +kernel
theorem dX0_digest_78 : decode cX0_digest 78 = .ok (.lload_n 1, 1) := by decide +kernel
theorem dX0_digest_79 : decode cX0_digest 79 = .ok (.iload_n 3, 1) := by decide +kernel
theorem dX0_digest_80 : decode cX0_digest 80 = .ok (.invokevirtual 187, 3) := by decide +kernel
theorem dX0_digest_83 : decode cX0_digest 83 = .ok (.lstore_n 1, 1) := by decide +kernel
theorem dX0_digest_84 : decode cX0_digest 84 = .ok (.iinc 3 1, 3) := by decide +kernel
theorem dX0_digest_87 : decode cX0_digest 87 = .ok (.goto (-18), 3) := by decide +kernel
theorem dX0_digest_90 : decode cX0_digest 90 = .ok (.lload_n 1, 1) := by decide +kernel
theorem dX0_digest_91 : decode cX0_digest 91 = .ok (.lreturn, 1) := by decide +kernel
theorem dX0_needFerry_0 : decode cX0_needFerry 0 = .ok (.iload_n 1, 1) := by decide +kernel
theorem dX0_needFerry_1 : decode cX0_needFerry 1 = .ok (.ifCond .lt 11, 3) := by decide +kernel
theorem dX0_needFerry_4 : decode cX0_needFerry 4 = .ok (.iload_n 1, 1) := by decide +kernel
theorem dX0_needFerry_5 : decode cX0_needFerry 5 = .ok (.aload_n 0, 1) := by decide +kernel
theorem dX0_needFerry_6 : decode cX0_needFerry 6 = .ok (.getfield 9, 3) := by decide +kernel
theorem dX0_needFerry_9 : decode cX0_needFerry 9 = .ok (.if_icmp .lt 13, 3) := by decide +kernel
theorem dX0_needFerry_12 : decode cX0_needFerry 12 = .ok (.new 160, 3) := by decide +kernel
theorem dX0_needFerry_15 : decode cX0_needFerry 15 = .ok (.dup, 1) := by decide +kernel
theorem dX0_needFerry_16 : decode cX0_needFerry 16 = .ok (.ldc 190, 2) := by decide +kernel
theorem dX0_needFerry_18 : decode cX0_needFerry 18 = .ok (.invokespecial 164, 3) := by decide +kernel
theorem dX0_needFerry_21 : decode cX0_needFerry 21 = .ok (.athrow, 1) := by decide +kernel
theorem dX0_needFerry_22 : decode cX0_needFerry 22 = .ok (.return_, 1) := by decide +kernel
theorem dX0_needWatch_0 : decode cX0_needWatch 0 = .ok (.iload_n 0, 1) := by decide +kernel
theorem dX0_needWatch_1 : decode cX0_needWatch 1 = .ok (.ifCond .lt 8, 3) := by decide +kernel
theorem dX0_needWatch_4 : decode cX0_needWatch 4 = .ok (.iload_n 0, 1) := by decide +kernel
theorem dX0_needWatch_5 : decode cX0_needWatch 5 = .ok (.iconst 4, 1) := by decide +kernel
theorem dX0_needWatch_6 : decode cX0_needWatch 6 = .ok (.if_icmp .lt 13, 3) := by decide +kernel
theorem dX0_needWatch_9 : decode cX0_needWatch 9 = .ok (.new 160, 3) := by decide +kernel
theorem dX0_needWatch_12 : decode cX0_needWatch 12 = .ok (.dup, 1) := by decide +kernel
theorem dX0_needWatch_13 : decode cX0_needWatch 13 = .ok (.ldc 192, 2) := by decide +kernel
theorem dX0_needWatch_15 : decode cX0_needWatch 15 = .ok (.invokespecial 164, 3) := by decide +kernel
theorem dX0_needWatch_18 : decode cX0_needWatch 18 = .ok (.athrow, 1) := by decide +kernel
theorem dX0_needWatch_19 : decode cX0_needWatch 19 = .ok (.return_, 1) := by decide +kernel
theorem dX0_needHour_0 : decode cX0_needHour 0 = .ok (.iload_n 0, 1) := by decide +kernel
theorem dX0_needHour_1 : decode cX0_needHour 1 = .ok (.ifCond .lt 9, 3) := by decide +kernel
theorem dX0_needHour_4 : decode cX0_needHour 4 = .ok (.iload_n 0, 1) := by decide +kernel
theorem dX0_needHour_5 : decode cX0_needHour 5 = .ok (.bipush 24, 2) := by decide +kernel
theorem dX0_needHour_7 : decode cX0_needHour 7 = .ok (.if_icmp .lt 13, 3) := by decide +kernel
theorem dX0_needHour_10 : decode cX0_needHour 10 = .ok (.new 160, 3) := by decide +kernel
theorem dX0_needHour_13 : decode cX0_needHour 13 = .ok (.dup, 1) := by decide +kernel
theorem dX0_needHour_14 : decode cX0_needHour 14 = .ok (.ldc 194, 2) := by decide +kernel
theorem dX0_needHour_16 : decode cX0_needHour 16 = .ok (.invokespecial 164, 3) := by decide +kernel
theorem dX0_needHour_19 : decode cX0_needHour 19 = .ok (.athrow, 1) := by decide +kernel
theorem dX0_needHour_20 : decode cX0_needHour 20 = .ok (.return_, 1) := by decide +kernel
theorem dX0_needPerson_0 : decode cX0_needPerson 0 = .ok (.iload_n 1, 1) := by decide +kernel
theorem dX0_needPerson_1 : decode cX0_needPerson 1 = .ok (.ifCond .lt 11, 3) := by decide +kernel
theorem dX0_needPerson_4 : decode cX0_needPerson 4 = .ok (.iload_n 1, 1) := by decide +kernel
theorem dX0_needPerson_5 : decode cX0_needPerson 5 = .ok (.aload_n 0, 1) := by decide +kernel
theorem dX0_needPerson_6 : decode cX0_needPerson 6 = .ok (.getfield 23, 3) := by decide +kernel
theorem dX0_needPerson_9 : decode cX0_needPerson 9 = .ok (.if_icmp .lt 13, 3) := by decide +kernel
theorem dX0_needPerson_12 : decode cX0_needPerson 12 = .ok (.new 160, 3) := by decide +kernel
theorem dX0_needPerson_15 : decode cX0_needPerson 15 = .ok (.dup, 1) := by decide +kernel
theorem dX0_needPerson_16 : decode cX0_needPerson 16 = .ok (.ldc 196, 2) := by decide +kernel
theorem dX0_needPerson_18 : decode cX0_needPerson 18 = .ok (.invokespecial 164, 3) := by decide +kernel
theorem dX0_needPerson_21 : decode cX0_needPerson 21 = .ok (.athrow, 1) := by decide +kernel
theorem dX0_needPerson_22 : decode cX0_needPerson 22 = .ok (.return_, 1) := by decide +kernel
set_option maxRecDepth 20000 in
theorem ggX0_needSale_X0_needPerson : GoodIn wsX0_needSale wsX0_needPerson := goodIn_ca (goodIn_r _ [5, 6, 7, 8, 17, 18, 19, 20, 21, 22, 23, 24, 25, 26] (by decide +kernel) (by decide +kernel)) (goodIn_sub (fun _ h => List.mem_cons_of_mem _ (List.mem_append_right _ h)) (by decide +kernel))
set_option maxRecDepth 20000 in
theorem gX0_needSale_X0_needPerson : GoodIn wsX0_needSale (wsV RX0 60 RX0 yX0_needPerson wsX0_needPerson) := goodIn_app (goodIn_of _ (by decide +kernel)) ggX0_needSale_X0_needPerson
set_option maxRecDepth 20000 in
theorem ggX0_needSale_X0_needFerry : GoodIn wsX0_needSale wsX0_needFerry := goodIn_ca (goodIn_r _ [12, 6, 7, 13, 17, 18, 19, 20, 21, 22, 23, 24, 25, 26] (by decide +kernel) (by decide +kernel)) (goodIn_sub (fun _ h => List.mem_cons_of_mem _ (List.mem_append_right _ h)) (by decide +kernel))
set_option maxRecDepth 20000 in
theorem gX0_needSale_X0_needFerry : GoodIn wsX0_needSale (wsV RX0 75 RX0 yX0_needFerry wsX0_needFerry) := goodIn_app (goodIn_of _ (by decide +kernel)) ggX0_needSale_X0_needFerry
set_option maxRecDepth 20000 in
theorem ggX0_needSale_X0_needWatch : GoodIn wsX0_needSale wsX0_needWatch := goodIn_ca (goodIn_r _ [16, 6, 7] (by decide +kernel) (by decide +kernel)) (goodIn_sub (fun _ h => List.mem_cons_of_mem _ (List.mem_append_right _ h)) (by decide +kernel))
set_option maxRecDepth 20000 in
theorem gX0_needSale_X0_needWatch : GoodIn wsX0_needSale (va_wsS RX0 78 yX0_needWatch wsX0_needWatch) := goodIn_app (goodIn_of _ (by decide +kernel)) ggX0_needSale_X0_needWatch
theorem dX0_needSale_0 : decode cX0_needSale 0 = .ok (.aload_n 0, 1) := by decide +kernel
theorem dX0_needSale_1 : decode cX0_needSale 1 = .ok (.iload_n 1, 1) := by decide +kernel
theorem dX0_needSale_2 : decode cX0_needSale 2 = .ok (.invokevirtual 60, 3) := by decide +kernel
theorem dX0_needSale_5 : decode cX0_needSale 5 = .ok (.aload_n 0, 1) := by decide +kernel
theorem dX0_needSale_6 : decode cX0_needSale 6 = .ok (.iload_n 2, 1) := by decide +kernel
theorem dX0_needSale_7 : decode cX0_needSale 7 = .ok (.invokevirtual 60, 3) := by decide +kernel
theorem dX0_needSale_10 : decode cX0_needSale 10 = .ok (.aload_n 0, 1) := by decide +kernel
theorem dX0_needSale_11 : decode cX0_needSale 11 = .ok (.iload_n 3, 1) := by decide +kernel
theorem dX0_needSale_12 : decode cX0_needSale 12 = .ok (.invokevirtual 75, 3) := by decide +kernel
theorem dX0_needSale_15 : decode cX0_needSale 15 = .ok (.iload 4, 2) := by decide +kernel
theorem dX0_needSale_17 : decode cX0_needSale 17 = .ok (.invokestatic 78, 3) := by decide +kernel
theorem dX0_needSale_20 : decode cX0_needSale 20 = .ok (.return_, 1) := by decide +kernel
theorem dX0_needToll_0 : decode cX0_needToll 0 = .ok (.iload_n 0, 1) := by decide +kernel
theorem dX0_needToll_1 : decode cX0_needToll 1 = .ok (.ifCond .lt 9, 3) := by decide +kernel
theorem dX0_needToll_4 : decode cX0_needToll 4 = .ok (.iload_n 0, 1) := by decide +kernel
theorem dX0_needToll_5 : decode cX0_needToll 5 = .ok (.bipush 20, 2) := by decide +kernel
theorem dX0_needToll_7 : decode cX0_needToll 7 = .ok (.if_icmp .le 13, 3) := by decide +kernel
theorem dX0_needToll_10 : decode cX0_needToll 10 = .ok (.new 66, 3) := by decide +kernel
theorem dX0_needToll_13 : decode cX0_needToll 13 = .ok (.dup, 1) := by decide +kernel
theorem dX0_needToll_14 : decode cX0_needToll 14 = .ok (.ldc 198, 2) := by decide +kernel
theorem dX0_needToll_16 : decode cX0_needToll 16 = .ok (.invokespecial 70, 3) := by decide +kernel
theorem dX0_needToll_19 : decode cX0_needToll 19 = .ok (.athrow, 1) := by decide +kernel
theorem dX0_needToll_20 : decode cX0_needToll 20 = .ok (.return_, 1) := by decide +kernel
theorem dX0_needShares_0 : decode cX0_needShares 0 = .ok (.iload_n 0, 1) := by decide +kernel
theorem dX0_needShares_1 : decode cX0_needShares 1 = .ok (.iconst 1, 1) := by decide +kernel
theorem dX0_needShares_2 : decode cX0_needShares 2 = .ok (.if_icmp .lt 9, 3) := by decide +kernel
theorem dX0_needShares_5 : decode cX0_needShares 5 = .ok (.iload_n 0, 1) := by decide +kernel
theorem dX0_needShares_6 : decode cX0_needShares 6 = .ok (.bipush 64, 2) := by decide +kernel
theorem dX0_needShares_8 : decode cX0_needShares 8 = .ok (.if_icmp .le 13, 3) := by decide +kernel
theorem dX0_needShares_11 : decode cX0_needShares 11 = .ok (.new 66, 3) := by decide +kernel
theorem dX0_needShares_14 : decode cX0_needShares 14 = .ok (.dup, 1) := by decide +kernel
theorem dX0_needShares_15 : decode cX0_needShares 15 = .ok (.ldc 200, 2) := by decide +kernel
theorem dX0_needShares_17 : decode cX0_needShares 17 = .ok (.invokespecial 70, 3) := by decide +kernel
theorem dX0_needShares_20 : decode cX0_needShares 20 = .ok (.athrow, 1) := by decide +kernel
theorem dX0_needShares_21 : decode cX0_needShares 21 = .ok (.return_, 1) := by decide +kernel
theorem dX0_needPassengers_0 : decode cX0_needPassengers 0 = .ok (.iload_n 0, 1) := by decide +kernel
theorem dX0_needPassengers_1 : decode cX0_needPassengers 1 = .ok (.iconst 1, 1) := by decide +kernel
theorem dX0_needPassengers_2 : decode cX0_needPassengers 2 = .ok (.if_icmp .lt 10, 3) := by decide +kernel
theorem dX0_needPassengers_5 : decode cX0_needPassengers 5 = .ok (.iload_n 0, 1) := by decide +kernel
theorem dX0_needPassengers_6 : decode cX0_needPassengers 6 = .ok (.sipush 200, 3) := by decide +kernel
theorem dX0_needPassengers_9 : decode cX0_needPassengers 9 = .ok (.if_icmp .le 13, 3) := by decide +kernel
theorem dX0_needPassengers_12 : decode cX0_needPassengers 12 = .ok (.new 66, 3) := by decide +kernel
theorem dX0_needPassengers_15 : decode cX0_needPassengers 15 = .ok (.dup, 1) := by decide +kernel
theorem dX0_needPassengers_16 : decode cX0_needPassengers 16 = .ok (.ldc 202, 2) := by decide +kernel
theorem dX0_needPassengers_18 : decode cX0_needPassengers 18 = .ok (.invokespecial 70, 3) := by decide +kernel
theorem dX0_needPassengers_21 : decode cX0_needPassengers 21 = .ok (.athrow, 1) := by decide +kernel
theorem dX0_needPassengers_22 : decode cX0_needPassengers 22 = .ok (.return_, 1) := by decide +kernel
theorem dX0_needAlive_0 : decode cX0_needAlive 0 = .ok (.aload_n 0, 1) := by decide +kernel
theorem dX0_needAlive_1 : decode cX0_needAlive 1 = .ok (.getfield 26, 3) := by decide +kernel
theorem dX0_needAlive_4 : decode cX0_needAlive 4 = .ok (.iload_n 1, 1) := by decide +kernel
theorem dX0_needAlive_5 : decode cX0_needAlive 5 = .ok (.baload, 1) := by decide +kernel
theorem dX0_needAlive_6 : decode cX0_needAlive 6 = .ok (.ifCond .ne 13, 3) := by decide +kernel
theorem dX0_needAlive_9 : decode cX0_needAlive 9 = .ok (.new 46, 3) := by decide +kernel
theorem dX0_needAlive_12 : decode cX0_needAlive 12 = .ok (.dup, 1) := by decide +kernel
theorem dX0_needAlive_13 : decode cX0_needAlive 13 = .ok (.ldc 204, 2) := by decide +kernel
theorem dX0_needAlive_15 : decode cX0_needAlive 15 = .ok (.invokespecial 50, 3) := by decide +kernel
theorem dX0_needAlive_18 : decode cX0_needAlive 18 = .ok (.athrow, 1) := by decide +kernel
theorem dX0_needAlive_19 : decode cX0_needAlive 19 = .ok (.return_, 1) := by decide +kernel
theorem dX0_needRoomForPerson_0 : decode cX0_needRoomForPerson 0 = .ok (.aload_n 0, 1) := by decide +kernel
theorem dX0_needRoomForPerson_1 : decode cX0_needRoomForPerson 1 = .ok (.getfield 23, 3) := by decide +kernel
theorem dX0_needRoomForPerson_4 : decode cX0_needRoomForPerson 4 = .ok (.bipush 12, 2) := by decide +kernel
theorem dX0_needRoomForPerson_6 : decode cX0_needRoomForPerson 6 = .ok (.if_icmp .lt 13, 3) := by decide +kernel
theorem dX0_needRoomForPerson_9 : decode cX0_needRoomForPerson 9 = .ok (.new 46, 3) := by decide +kernel
theorem dX0_needRoomForPerson_12 : decode cX0_needRoomForPerson 12 = .ok (.dup, 1) := by decide +kernel
theorem dX0_needRoomForPerson_13 : decode cX0_needRoomForPerson 13 = .ok (.ldc 206, 2) := by decide +kernel
theorem dX0_needRoomForPerson_15 : decode cX0_needRoomForPerson 15 = .ok (.invokespecial 50, 3) := by decide +kernel
theorem dX0_needRoomForPerson_18 : decode cX0_needRoomForPerson 18 = .ok (.athrow, 1) := by decide +kernel
theorem dX0_needRoomForPerson_19 : decode cX0_needRoomForPerson 19 = .ok (.return_, 1) := by decide +kernel
theorem dX0_settle_0 : decode cX0_settle 0 = .ok (.aload_n 0, 1) := by decide +kernel
theorem dX0_settle_1 : decode cX0_settle 1 = .ok (.getfield 23, 3) := by decide +kernel
theorem dX0_settle_4 : decode cX0_settle 4 = .ok (.istore_n 2, 1) := by decide +kernel
theorem dX0_settle_5 : decode cX0_settle 5 = .ok (.aload_n 0, 1) := by decide +kernel
theorem dX0_settle_6 : decode cX0_settle 6 = .ok (.getfield 26, 3) := by decide +kernel
theorem dX0_settle_9 : decode cX0_settle 9 = .ok (.iload_n 2, 1) := by decide +kernel
theorem dX0_settle_10 : decode cX0_settle 10 = .ok (.iconst 1, 1) := by decide +kernel
theorem dX0_settle_11 : decode cX0_settle 11 = .ok (.bastore, 1) := by decide +kernel
theorem dX0_settle_12 : decode cX0_settle 12 = .ok (.aload_n 0, 1) := by decide +kernel
theorem dX0_settle_13 : decode cX0_settle 13 = .ok (.getfield 36, 3) := by decide +kernel
theorem dX0_settle_16 : decode cX0_settle 16 = .ok (.iload_n 2, 1) := by decide +kernel
theorem dX0_settle_17 : decode cX0_settle 17 = .ok (.iload_n 1, 1) := by decide +kernel
theorem dX0_settle_18 : decode cX0_settle 18 = .ok (.iastore, 1) := by decide +kernel
theorem dX0_settle_19 : decode cX0_settle 19 = .ok (.aload_n 0, 1) := by decide +kernel
theorem dX0_settle_20 : decode cX0_settle 20 = .ok (.iload_n 2, 1) := by decide +kernel
theorem dX0_settle_21 : decode cX0_settle 21 = .ok (.iconst 1, 1) := by decide +kernel
theorem dX0_settle_22 : decode cX0_settle 22 = .ok (.iadd, 1) := by decide +kernel
theorem dX0_settle_23 : decode cX0_settle 23 = .ok (.putfield 23, 3) := by decide +kernel
theorem dX0_settle_26 : decode cX0_settle 26 = .ok (.iload_n 2, 1) := by decide +kernel
theorem dX0_settle_27 : decode cX0_settle 27 = .ok (.ireturn, 1) := by decide +kernel
theorem dX0_addCoins_0 : decode cX0_addCoins 0 = .ok (.aload_n 0, 1) := by decide +kernel
theorem dX0_addCoins_1 : decode cX0_addCoins 1 = .ok (.getfield 30, 3) := by decide +kernel
theorem dX0_addCoins_4 : decode cX0_addCoins 4 = .ok (.iload_n 1, 1) := by decide +kernel
theorem dX0_addCoins_5 : decode cX0_addCoins 5 = .ok (.sipush 9999, 3) := by decide +kernel
theorem dX0_addCoins_8 : decode cX0_addCoins 8 = .ok (.aload_n 0, 1) := by decide +kernel
theorem dX0_addCoins_9 : decode cX0_addCoins 9 = .ok (.getfield 30, 3) := by decide +kernel
theorem dX0_addCoins_12 : decode cX0_addCoins 12 = .ok (.iload_n 1, 1) := by decide +kernel
theorem dX0_addCoins_13 : decode cX0_addCoins 13 = .ok (.iaload, 1) := by decide +kernel
theorem dX0_addCoins_14 : decode cX0_addCoins 14 = .ok (.iload_n 2, 1) := by decide +kernel
theorem dX0_addCoins_15 : decode cX0_addCoins 15 = .ok (.iadd, 1) := by decide +kernel
theorem dX0_addCoins_16 : decode cX0_addCoins 16 = .ok (.invokestatic 208, 3) := by decide +kernel
theorem dX0_addCoins_19 : decode cX0_addCoins 19 = .ok (.iastore, 1) := by decide +kernel
theorem dX0_addCoins_20 : decode cX0_addCoins 20 = .ok (.return_, 1) := by decide +kernel
theorem dX0_countChildren_0 : decode cX0_countChildren 0 = .ok (.iconst 0, 1) := by decide +kernel
theorem dX0_countChildren_1 : decode cX0_countChildren 1 = .ok (.istore_n 2, 1) := by decide +kernel
theorem dX0_countChildren_2 : decode cX0_countChildren 2 = .ok (.iconst 0, 1) := by decide +kernel
theorem dX0_countChildren_3 : decode cX0_countChildren 3 = .ok (.istore_n 3, 1) := by decide +kernel
theorem dX0_countChildren_4 : decode cX0_countChildren 4 = .ok (.iload_n 3, 1) := by decide +kernel
theorem dX0_countChildren_5 : decode cX0_countChildren 5 = .ok (.aload_n 0, 1) := by decide +kernel
theorem dX0_countChildren_6 : decode cX0_countChildren 6 = .ok (.getfield 23, 3) := by decide +kernel
theorem dX0_countChildren_9 : decode cX0_countChildren 9 = .ok (.if_icmp .ge 22, 3) := by decide +kernel
theorem dX0_countChildren_12 : decode cX0_countChildren 12 = .ok (.aload_n 0, 1) := by decide +kernel
theorem dX0_countChildren_13 : decode cX0_countChildren 13 = .ok (.getfield 36, 3) := by decide +kernel
theorem dX0_countChildren_16 : decode cX0_countChildren 16 = .ok (.iload_n 3, 1) := by decide +kernel
theorem dX0_countChildren_17 : decode cX0_countChildren 17 = .ok (.iaload, 1) := by decide +kernel
theorem dX0_countChildren_18 : decode cX0_countChildren 18 = .ok (.iload_n 1, 1) := by decide +kernel
theorem dX0_countChildren_19 : decode cX0_countChildren 19 = .ok (.if_icmp .ne 6, 3) := by decide +kernel
theorem dX0_countChildren_22 : decode cX0_countChildren 22 = .ok (.iinc 2 1, 3) := by decide +kernel
theorem dX0_countChildren_25 : decode cX0_countChildren 25 = .ok (.iinc 3 1, 3) := by decide +kernel
theorem dX0_countChildren_28 : decode cX0_countChildren 28 = .ok (.goto (-24), 3) := by decide +kernel
theorem dX0_countChildren_31 : decode cX0_countChildren 31 = .ok (.iload_n 2, 1) := by decide +kernel
theorem dX0_countChildren_32 : decode cX0_countChildren 32 = .ok (.ireturn, 1) := by decide +kernel
theorem dX0_slot_0 : decode cX0_slot 0 = .ok (.iload_n 0, 1) := by decide +kernel
theorem dX0_slot_1 : decode cX0_slot 1 = .ok (.iconst 4, 1) := by decide +kernel
theorem dX0_slot_2 : decode cX0_slot 2 = .ok (.imul, 1) := by decide +kernel
theorem dX0_slot_3 : decode cX0_slot 3 = .ok (.iload_n 1, 1) := by decide +kernel
theorem dX0_slot_4 : decode cX0_slot 4 = .ok (.iadd, 1) := by decide +kernel
theorem dX0_slot_5 : decode cX0_slot 5 = .ok (.bipush 12, 2) := by decide +kernel
theorem dX0_slot_7 : decode cX0_slot 7 = .ok (.imul, 1) := by decide +kernel
theorem dX0_slot_8 : decode cX0_slot 8 = .ok (.iload_n 2, 1) := by decide +kernel
theorem dX0_slot_9 : decode cX0_slot 9 = .ok (.iadd, 1) := by decide +kernel
theorem dX0_slot_10 : decode cX0_slot 10 = .ok (.ireturn, 1) := by decide +kernel
set_option maxRecDepth 20000 in
theorem ggX0_owns_X0_slot : GoodIn wsX0_owns wsX0_slot := goodIn_r _ [5] (by decide +kernel) (by decide +kernel)
set_option maxRecDepth 20000 in
theorem gX0_owns_X0_slot : GoodIn wsX0_owns (va_wsS RX0 213 yX0_slot wsX0_slot) := goodIn_app (goodIn_of _ (by decide +kernel)) ggX0_owns_X0_slot
theorem dX0_owns_0 : decode cX0_owns 0 = .ok (.aload_n 0, 1) := by decide +kernel
theorem dX0_owns_1 : decode cX0_owns 1 = .ok (.getfield 20, 3) := by decide +kernel
theorem dX0_owns_4 : decode cX0_owns 4 = .ok (.iload_n 1, 1) := by decide +kernel
theorem dX0_owns_5 : decode cX0_owns 5 = .ok (.iload_n 2, 1) := by decide +kernel
theorem dX0_owns_6 : decode cX0_owns 6 = .ok (.iload_n 3, 1) := by decide +kernel
theorem dX0_owns_7 : decode cX0_owns 7 = .ok (.invokestatic 213, 3) := by decide +kernel
theorem dX0_owns_10 : decode cX0_owns 10 = .ok (.iaload, 1) := by decide +kernel
theorem dX0_owns_11 : decode cX0_owns 11 = .ok (.ireturn, 1) := by decide +kernel
set_option maxRecDepth 20000 in
theorem ggX0_addShares_X0_slot : GoodIn wsX0_addShares wsX0_slot := goodIn_r _ [5] (by decide +kernel) (by decide +kernel)
set_option maxRecDepth 20000 in
theorem gX0_addShares_X0_slot : GoodIn wsX0_addShares (va_wsS RX0 213 yX0_slot wsX0_slot) := goodIn_app (goodIn_of _ (by decide +kernel)) ggX0_addShares_X0_slot
theorem dX0_addShares_0 : decode cX0_addShares 0 = .ok (.aload_n 0, 1) := by decide +kernel
theorem dX0_addShares_1 : decode cX0_addShares 1 = .ok (.getfield 20, 3) := by decide +kernel
theorem dX0_addShares_4 : decode cX0_addShares 4 = .ok (.iload_n 1, 1) := by decide +kernel
theorem dX0_addShares_5 : decode cX0_addShares 5 = .ok (.iload_n 2, 1) := by decide +kernel
theorem dX0_addShares_6 : decode cX0_addShares 6 = .ok (.iload_n 3, 1) := by decide +kernel
theorem dX0_addShares_7 : decode cX0_addShares 7 = .ok (.invokestatic 213, 3) := by decide +kernel
theorem dX0_addShares_10 : decode cX0_addShares 10 = .ok (.dup2, 1) := by decide +kernel
theorem dX0_addShares_11 : decode cX0_addShares 11 = .ok (.iaload, 1) := by decide +kernel
theorem dX0_addShares_12 : decode cX0_addShares 12 = .ok (.iload 4, 2) := by decide +kernel
theorem dX0_addShares_14 : decode cX0_addShares 14 = .ok (.iadd, 1) := by decide +kernel
theorem dX0_addShares_15 : decode cX0_addShares 15 = .ok (.iastore, 1) := by decide +kernel
theorem dX0_addShares_16 : decode cX0_addShares 16 = .ok (.return_, 1) := by decide +kernel
set_option maxRecDepth 20000 in
theorem ggX0_crownOwns_X0_owns : GoodIn wsX0_crownOwns wsX0_owns := goodIn_r _ [6, 7, 8, 9, 5, 10, 11, 12, 13, 14, 15, 16, 17, 18, 19, 20] (by decide +kernel) (by decide +kernel)
set_option maxRecDepth 20000 in
theorem gX0_crownOwns_X0_owns : GoodIn wsX0_crownOwns (wsV RX0 96 RX0 yX0_owns wsX0_owns) := goodIn_app (goodIn_of _ (by decide +kernel)) ggX0_crownOwns_X0_owns
theorem dX0_crownOwns_0 : decode cX0_crownOwns 0 = .ok (.bipush 64, 2) := by decide +kernel
theorem dX0_crownOwns_2 : decode cX0_crownOwns 2 = .ok (.istore_n 3, 1) := by decide +kernel
theorem dX0_crownOwns_3 : decode cX0_crownOwns 3 = .ok (.iconst 0, 1) := by decide +kernel
theorem dX0_crownOwns_4 : decode cX0_crownOwns 4 = .ok (.istore 4, 2) := by decide +kernel
theorem dX0_crownOwns_6 : decode cX0_crownOwns 6 = .ok (.iload 4, 2) := by decide +kernel
theorem dX0_crownOwns_8 : decode cX0_crownOwns 8 = .ok (.aload_n 0, 1) := by decide +kernel
theorem dX0_crownOwns_9 : decode cX0_crownOwns 9 = .ok (.getfield 23, 3) := by decide +kernel
theorem dX0_crownOwns_12 : decode cX0_crownOwns 12 = .ok (.if_icmp .ge 20, 3) := by decide +kernel
theorem dX0_crownOwns_15 : decode cX0_crownOwns 15 = .ok (.iload_n 3, 1) := by decide +kernel
theorem dX0_crownOwns_16 : decode cX0_crownOwns 16 = .ok (.aload_n 0, 1) := by decide +kernel
theorem dX0_crownOwns_17 : decode cX0_crownOwns 17 = .ok (.iload_n 1, 1) := by decide +kernel
theorem dX0_crownOwns_18 : decode cX0_crownOwns 18 = .ok (.iload_n 2, 1) := by decide +kernel
theorem dX0_crownOwns_19 : decode cX0_crownOwns 19 = .ok (.iload 4, 2) := by decide +kernel
theorem dX0_crownOwns_21 : decode cX0_crownOwns 21 = .ok (.invokevirtual 96, 3) := by decide +kernel
theorem dX0_crownOwns_24 : decode cX0_crownOwns 24 = .ok (.isub, 1) := by decide +kernel
theorem dX0_crownOwns_25 : decode cX0_crownOwns 25 = .ok (.istore_n 3, 1) := by decide +kernel
theorem dX0_crownOwns_26 : decode cX0_crownOwns 26 = .ok (.iinc 4 1, 3) := by decide +kernel
theorem dX0_crownOwns_29 : decode cX0_crownOwns 29 = .ok (.goto (-23), 3) := by decide +kernel
theorem dX0_crownOwns_32 : decode cX0_crownOwns 32 = .ok (.iload_n 3, 1) := by decide +kernel
theorem dX0_crownOwns_33 : decode cX0_crownOwns 33 = .ok (.ireturn, 1) := by decide +kernel
set_option maxRecDepth 20000 in
theorem ggX0_countSharesOfFerry_X0_owns : GoodIn wsX0_countSharesOfFerry wsX0_owns := goodIn_r _ [5, 6, 7, 8, 4, 9, 10, 11, 12, 13, 14, 15, 16, 17, 18, 19] (by decide +kernel) (by decide +kernel)
set_option maxRecDepth 20000 in
theorem gX0_countSharesOfFerry_X0_owns : GoodIn wsX0_countSharesOfFerry (wsV RX0 96 RX0 yX0_owns wsX0_owns) := goodIn_app (goodIn_of _ (by decide +kernel)) ggX0_countSharesOfFerry_X0_owns
theorem dX0_countSharesOfFerry_0 : decode cX0_countSharesOfFerry 0 = .ok (.iconst 0, 1) := by decide +kernel
theorem dX0_countSharesOfFerry_1 : decode cX0_countSharesOfFerry 1 = .ok (.istore_n 3, 1) := by decide +kernel
theorem dX0_countSharesOfFerry_2 : decode cX0_countSharesOfFerry 2 = .ok (.iconst 0, 1) := by decide +kernel
theorem dX0_countSharesOfFerry_3 : decode cX0_countSharesOfFerry 3 = .ok (.istore 4, 2) := by decide +kernel
theorem dX0_countSharesOfFerry_5 : decode cX0_countSharesOfFerry 5 = .ok (.iload 4, 2) := by decide +kernel
theorem dX0_countSharesOfFerry_7 : decode cX0_countSharesOfFerry 7 = .ok (.iconst 4, 1) := by decide +kernel
theorem dX0_countSharesOfFerry_8 : decode cX0_countSharesOfFerry 8 = .ok (.if_icmp .ge 20, 3) := by decide +kernel
theorem dX0_countSharesOfFerry_11 : decode cX0_countSharesOfFerry 11 = .ok (.iload_n 3, 1) := by decide +kernel
theorem dX0_countSharesOfFerry_12 : decode cX0_countSharesOfFerry 12 = .ok (.aload_n 0, 1) := by decide +kernel
theorem dX0_countSharesOfFerry_13 : decode cX0_countSharesOfFerry 13 = .ok (.iload_n 1, 1) := by decide +kernel
theorem dX0_countSharesOfFerry_14 : decode cX0_countSharesOfFerry 14 = .ok (.iload 4, 2) := by decide +kernel
theorem dX0_countSharesOfFerry_16 : decode cX0_countSharesOfFerry 16 = .ok (.iload_n 2, 1) := by decide +kernel
theorem dX0_countSharesOfFerry_17 : decode cX0_countSharesOfFerry 17 = .ok (.invokevirtual 96, 3) := by decide +kernel
theorem dX0_countSharesOfFerry_20 : decode cX0_countSharesOfFerry 20 = .ok (.iadd, 1) := by decide +kernel
theorem dX0_countSharesOfFerry_21 : decode cX0_countSharesOfFerry 21 = .ok (.istore_n 3, 1) := by decide +kernel
theorem dX0_countSharesOfFerry_22 : decode cX0_countSharesOfFerry 22 = .ok (.iinc 4 1, 3) := by decide +kernel
theorem dX0_countSharesOfFerry_25 : decode cX0_countSharesOfFerry 25 = .ok (.goto (-20), 3) := by decide +kernel
theorem dX0_countSharesOfFerry_28 : decode cX0_countSharesOfFerry 28 = .ok (.iload_n 3, 1) := by decide +kernel
theorem dX0_countSharesOfFerry_29 : decode cX0_countSharesOfFerry 29 = .ok (.ireturn, 1) := by decide +kernel
set_option maxRecDepth 20000 in
theorem ggX0_countAllShares_X0_countSharesOfFerry : GoodIn wsX0_countAllShares wsX0_countSharesOfFerry := goodIn_r _ [6, 7, 8, 9, 5, 10, 11, 12, 13, 14, 15, 16, 17, 18, 19, 20, 21, 22, 23, 24] (by decide +kernel) (by decide +kernel)
set_option maxRecDepth 20000 in
theorem gX0_countAllShares_X0_countSharesOfFerry : GoodIn wsX0_countAllShares (wsV RX0 216 RX0 yX0_countSharesOfFerry wsX0_countSharesOfFerry) := goodIn_app (goodIn_of _ (by decide +kernel)) ggX0_countAllShares_X0_countSharesOfFerry
theorem dX0_countAllShares_0 : decode cX0_countAllShares 0 = .ok (.iconst 0, 1) := by decide +kernel
theorem dX0_countAllShares_1 : decode cX0_countAllShares 1 = .ok (.istore_n 2, 1) := by decide +kernel
theorem dX0_countAllShares_2 : decode cX0_countAllShares 2 = .ok (.iconst 0, 1) := by decide +kernel
theorem dX0_countAllShares_3 : decode cX0_countAllShares 3 = .ok (.istore_n 3, 1) := by decide +kernel
theorem dX0_countAllShares_4 : decode cX0_countAllShares 4 = .ok (.iload_n 3, 1) := by decide +kernel
theorem dX0_countAllShares_5 : decode cX0_countAllShares 5 = .ok (.aload_n 0, 1) := by decide +kernel
theorem dX0_countAllShares_6 : decode cX0_countAllShares 6 = .ok (.getfield 9, 3) := by decide +kernel
theorem dX0_countAllShares_9 : decode cX0_countAllShares 9 = .ok (.if_icmp .ge 18, 3) := by decide +kernel
theorem dX0_countAllShares_12 : decode cX0_countAllShares 12 = .ok (.iload_n 2, 1) := by decide +kernel
theorem dX0_countAllShares_13 : decode cX0_countAllShares 13 = .ok (.aload_n 0, 1) := by decide +kernel
theorem dX0_countAllShares_14 : decode cX0_countAllShares 14 = .ok (.iload_n 3, 1) := by decide +kernel
theorem dX0_countAllShares_15 : decode cX0_countAllShares 15 = .ok (.iload_n 1, 1) := by decide +kernel
theorem dX0_countAllShares_16 : decode cX0_countAllShares 16 = .ok (.invokevirtual 216, 3) := by decide +kernel
theorem dX0_countAllShares_19 : decode cX0_countAllShares 19 = .ok (.iadd, 1) := by decide +kernel
theorem dX0_countAllShares_20 : decode cX0_countAllShares 20 = .ok (.istore_n 2, 1) := by decide +kernel
theorem dX0_countAllShares_21 : decode cX0_countAllShares 21 = .ok (.iinc 3 1, 3) := by decide +kernel
theorem dX0_countAllShares_24 : decode cX0_countAllShares 24 = .ok (.goto (-20), 3) := by decide +kernel
theorem dX0_countAllShares_27 : decode cX0_countAllShares 27 = .ok (.iload_n 2, 1) := by decide +kernel
theorem dX0_countAllShares_28 : decode cX0_countAllShares 28 = .ok (.ireturn, 1) := by decide +kernel
set_option maxRecDepth 20000 in
theorem ggX0_findMaster_X0_countSharesOfFerry : GoodIn wsX0_findMaster wsX0_countSharesOfFerry := goodIn_r _ [6, 7, 8, 9, 5, 10, 11, 12, 13, 14, 15, 16, 17, 18, 19, 20, 21, 22, 23, 24] (by decide +kernel) (by decide +kernel)
set_option maxRecDepth 20000 in
theorem gX0_findMaster_X0_countSharesOfFerry : GoodIn wsX0_findMaster (wsV RX0 216 RX0 yX0_countSharesOfFerry wsX0_countSharesOfFerry) := goodIn_app (goodIn_of _ (by decide +kernel)) ggX0_findMaster_X0_countSharesOfFerry
theorem dX0_findMaster_0 : decode cX0_findMaster 0 = .ok (.iconst 0, 1) := by decide +kernel
theorem dX0_findMaster_1 : decode cX0_findMaster 1 = .ok (.istore_n 2, 1) := by decide +kernel
theorem dX0_findMaster_2 : decode cX0_findMaster 2 = .ok (.iload_n 2, 1) := by decide +kernel
theorem dX0_findMaster_3 : decode cX0_findMaster 3 = .ok (.aload_n 0, 1) := by decide +kernel
theorem dX0_findMaster_4 : decode cX0_findMaster 4 = .ok (.getfield 23, 3) := by decide +kernel
theorem dX0_findMaster_7 : decode cX0_findMaster 7 = .ok (.if_icmp .ge 23, 3) := by decide +kernel
theorem dX0_findMaster_10 : decode cX0_findMaster 10 = .ok (.aload_n 0, 1) := by decide +kernel
theorem dX0_findMaster_11 : decode cX0_findMaster 11 = .ok (.iload_n 1, 1) := by decide +kernel
theorem dX0_findMaster_12 : decode cX0_findMaster 12 = .ok (.iload_n 2, 1) := by decide +kernel
theorem dX0_findMaster_13 : decode cX0_findMaster 13 = .ok (.invokevirtual 216, 3) := by decide +kernel
theorem dX0_findMaster_16 : decode cX0_findMaster 16 = .ok (.sipush 128, 3) := by decide +kernel
theorem dX0_findMaster_19 : decode cX0_findMaster 19 = .ok (.if_icmp .le 5, 3) := by decide +kernel
theorem dX0_findMaster_22 : decode cX0_findMaster 22 = .ok (.iload_n 2, 1) := by decide +kernel
theorem dX0_findMaster_23 : decode cX0_findMaster 23 = .ok (.ireturn, 1) := by decide +kernel
theorem dX0_findMaster_24 : decode cX0_findMaster 24 = .ok (.iinc 2 1, 3) := by decide +kernel
theorem dX0_findMaster_27 : decode cX0_findMaster 27 = .ok (.goto (-25), 3) := by decide +kernel
theorem dX0_findMaster_30 : decode cX0_findMaster 30 = .ok (.iconst (-1), 1) := by decide +kernel
theorem dX0_findMaster_31 : decode cX0_findMaster 31 = .ok (.ireturn, 1) := by decide +kernel
theorem dX0_worth_0 : decode cX0_worth 0 = .ok (.aload_n 0, 1) := by decide +kernel
theorem dX0_worth_1 : decode cX0_worth 1 = .ok (.getfield 13, 3) := by decide +kernel
theorem dX0_worth_4 : decode cX0_worth 4 = .ok (.iload_n 1, 1) := by decide +kernel
theorem dX0_worth_5 : decode cX0_worth 5 = .ok (.iaload, 1) := by decide +kernel
theorem dX0_worth_6 : decode cX0_worth 6 = .ok (.getstatic 219, 3) := by decide +kernel
theorem dX0_worth_9 : decode cX0_worth 9 = .ok (.iload_n 2, 1) := by decide +kernel
theorem dX0_worth_10 : decode cX0_worth 10 = .ok (.iaload, 1) := by decide +kernel
theorem dX0_worth_11 : decode cX0_worth 11 = .ok (.imul, 1) := by decide +kernel
theorem dX0_worth_12 : decode cX0_worth 12 = .ok (.iconst 1, 1) := by decide +kernel
theorem dX0_worth_13 : decode cX0_worth 13 = .ok (.iadd, 1) := by decide +kernel
theorem dX0_worth_14 : decode cX0_worth 14 = .ok (.ireturn, 1) := by decide +kernel
set_option maxRecDepth 20000 in
theorem ggX0_priceOf_X0_owns : GoodIn wsX0_priceOf wsX0_owns := goodIn_r _ [5, 6, 7, 8, 4, 9, 16, 17, 18, 19, 20, 21, 22, 23, 24, 25] (by decide +kernel) (by decide +kernel)
set_option maxRecDepth 20000 in
theorem gX0_priceOf_X0_owns : GoodIn wsX0_priceOf (wsV RX0 96 RX0 yX0_owns wsX0_owns) := goodIn_app (goodIn_of _ (by decide +kernel)) ggX0_priceOf_X0_owns
set_option maxRecDepth 20000 in
theorem ggX0_priceOf_X0_worth : GoodIn wsX0_priceOf wsX0_worth := goodIn_r _ [13, 14, 15, 16, 17, 18, 19, 20, 21, 22, 23, 24, 25] (by decide +kernel) (by decide +kernel)
set_option maxRecDepth 20000 in
theorem gX0_priceOf_X0_worth : GoodIn wsX0_priceOf (wsV RX0 146 RX0 yX0_worth wsX0_worth) := goodIn_app (goodIn_of _ (by decide +kernel)) ggX0_priceOf_X0_worth
theorem dX0_priceOf_0 : decode cX0_priceOf 0 = .ok (.aload_n 0, 1) := by decide +kernel
theorem dX0_priceOf_1 : decode cX0_priceOf 1 = .ok (.iload_n 2, 1) := by decide +kernel
theorem dX0_priceOf_2 : decode cX0_priceOf 2 = .ok (.iload_n 3, 1) := by decide +kernel
theorem dX0_priceOf_3 : decode cX0_priceOf 3 = .ok (.iload_n 1, 1) := by decide +kernel
theorem dX0_priceOf_4 : decode cX0_priceOf 4 = .ok (.invokevirtual 96, 3) := by decide +kernel
theorem dX0_priceOf_7 : decode cX0_priceOf 7 = .ok (.aload_n 0, 1) := by decide +kernel
theorem dX0_priceOf_8 : decode cX0_priceOf 8 = .ok (.iload_n 2, 1) := by decide +kernel
theorem dX0_priceOf_9 : decode cX0_priceOf 9 = .ok (.iload_n 3, 1) := by decide +kernel
theorem dX0_priceOf_10 : decode cX0_priceOf 10 = .ok (.invokevirtual 146, 3) := by decide +kernel
theorem dX0_priceOf_13 : decode cX0_priceOf 13 = .ok (.imul, 1) := by decide +kernel
theorem dX0_priceOf_14 : decode cX0_priceOf 14 = .ok (.ireturn, 1) := by decide +kernel
set_option maxRecDepth 20000 in
theorem ggX0_mayBuy_X0_priceOf : GoodIn wsX0_mayBuy wsX0_priceOf := goodIn_r _ [7, 8, 9, 10, 6, 11, 12, 13, 14, 15, 16, 17, 18, 19, 20, 21, 27, 28, 29, 30, 31, 32, 33, 34, 35, 36] (by decide +kernel) (by decide +kernel)
set_option maxRecDepth 20000 in
theorem gX0_mayBuy_X0_priceOf : GoodIn wsX0_mayBuy (wsV RX0 111 RX0 yX0_priceOf wsX0_priceOf) := goodIn_app (goodIn_of _ (by decide +kernel)) ggX0_mayBuy_X0_priceOf
set_option maxRecDepth 20000 in
theorem ggX0_mayBuy_X0_owns : GoodIn wsX0_mayBuy wsX0_owns := goodIn_r _ [11, 12, 13, 14, 6, 15, 27, 28, 29, 30, 31, 32, 33, 34, 35, 36] (by decide +kernel) (by decide +kernel)
set_option maxRecDepth 20000 in
theorem gX0_mayBuy_X0_owns : GoodIn wsX0_mayBuy (wsV RX0 96 RX0 yX0_owns wsX0_owns) := goodIn_app (goodIn_of _ (by decide +kernel)) ggX0_mayBuy_X0_owns
set_option maxRecDepth 20000 in
theorem ggX0_mayBuy_X0_otherOwnerHas : GoodIn wsX0_mayBuy wsX0_otherOwnerHas := goodIn_r _ [25, 26, 2, 8, 9, 10, 6, 11, 12, 13, 14, 15, 27, 28, 29, 30, 31, 32, 33, 34, 35, 36] (by decide +kernel) (by decide +kernel)
set_option maxRecDepth 20000 in
theorem gX0_mayBuy_X0_otherOwnerHas : GoodIn wsX0_mayBuy (wsV RX0 222 RX0 yX0_otherOwnerHas wsX0_otherOwnerHas) := goodIn_app (goodIn_of _ (by decide +kernel)) ggX0_mayBuy_X0_otherOwnerHas
theorem dX0_mayBuy_0 : decode cX0_mayBuy 0 = .ok (.aload_n 0, 1) := by decide +kernel
theorem dX0_mayBuy_1 : decode cX0_mayBuy 1 = .ok (.iload_n 2, 1) := by decide +kernel
theorem dX0_mayBuy_2 : decode cX0_mayBuy 2 = .ok (.iload_n 3, 1) := by decide +kernel
theorem dX0_mayBuy_3 : decode cX0_mayBuy 3 = .ok (.iload 4, 2) := by decide +kernel
theorem dX0_mayBuy_5 : decode cX0_mayBuy 5 = .ok (.invokevirtual 111, 3) := by decide +kernel
theorem dX0_mayBuy_8 : decode cX0_mayBuy 8 = .ok (.istore 5, 2) := by decide +kernel
theorem dX0_mayBuy_10 : decode cX0_mayBuy 10 = .ok (.aload_n 0, 1) := by decide +kernel
theorem dX0_mayBuy_11 : decode cX0_mayBuy 11 = .ok (.getfield 26, 3) := by decide +kernel
theorem dX0_mayBuy_14 : decode cX0_mayBuy 14 = .ok (.iload_n 1, 1) := by decide +kernel
theorem dX0_mayBuy_15 : decode cX0_mayBuy 15 = .ok (.baload, 1) := by decide +kernel
theorem dX0_mayBuy_16 : decode cX0_mayBuy 16 = .ok (.ifCond .eq 19, 3) := by decide +kernel
theorem dX0_mayBuy_19 : decode cX0_mayBuy 19 = .ok (.iload_n 1, 1) := by decide +kernel
theorem dX0_mayBuy_20 : decode cX0_mayBuy 20 = .ok (.iload_n 2, 1) := by decide +kernel
theorem dX0_mayBuy_21 : decode cX0_mayBuy 21 = .ok (.if_icmp .eq 14, 3) := by decide +kernel
theorem dX0_mayBuy_24 : decode cX0_mayBuy 24 = .ok (.aload_n 0, 1) := by decide +kernel
theorem dX0_mayBuy_25 : decode cX0_mayBuy 25 = .ok (.getfield 30, 3) := by decide +kernel
theorem dX0_mayBuy_28 : decode cX0_mayBuy 28 = .ok (.iload_n 1, 1) := by decide +kernel
theorem dX0_mayBuy_29 : decode cX0_mayBuy 29 = .ok (.iaload, 1) := by decide +kernel
theorem dX0_mayBuy_30 : decode cX0_mayBuy 30 = .ok (.iload 5, 2) := by decide +kernel
theorem dX0_mayBuy_32 : decode cX0_mayBuy 32 = .ok (.if_icmp .ge 5, 3) := by decide +kernel
theorem dX0_mayBuy_35 : decode cX0_mayBuy 35 = .ok (.iconst 0, 1) := by decide +kernel
theorem dX0_mayBuy_36 : decode cX0_mayBuy 36 = .ok (.ireturn, 1) := by decide +kernel
theorem dX0_mayBuy_37 : decode cX0_mayBuy 37 = .ok (.aload_n 0, 1) := by decide +kernel
theorem dX0_mayBuy_38 : decode cX0_mayBuy 38 = .ok (.iload_n 3, 1) := by decide +kernel
theorem dX0_mayBuy_39 : decode cX0_mayBuy 39 = .ok (.iload 4, 2) := by decide +kernel
theorem dX0_mayBuy_41 : decode cX0_mayBuy 41 = .ok (.iload_n 2, 1) := by decide +kernel
theorem dX0_mayBuy_42 : decode cX0_mayBuy 42 = .ok (.invokevirtual 96, 3) := by decide +kernel
theorem dX0_mayBuy_45 : decode cX0_mayBuy 45 = .ok (.ifCond .ne 5, 3) := by decide +kernel
theorem dX0_mayBuy_48 : decode cX0_mayBuy 48 = .ok (.iconst 0, 1) := by decide +kernel
theorem dX0_mayBuy_49 : decode cX0_mayBuy 49 = .ok (.ireturn, 1) := by decide +kernel
theorem dX0_mayBuy_50 : decode cX0_mayBuy 50 = .ok (.aload_n 0, 1) := by decide +kernel
theorem dX0_mayBuy_51 : decode cX0_mayBuy 51 = .ok (.iload_n 3, 1) := by decide +kernel
theorem dX0_mayBuy_52 : decode cX0_mayBuy 52 = .ok (.iload 4, 2) := by decide +kernel
theorem dX0_mayBuy_54 : decode cX0_mayBuy 54 = .ok (.iload_n 1, 1) := by decide +kernel
theorem dX0_mayBuy_55 : decode cX0_mayBuy 55 = .ok (.invokevirtual 96, 3) := by decide +kernel
theorem dX0_mayBuy_58 : decode cX0_mayBuy 58 = .ok (.ifCond .gt 16, 3) := by decide +kernel
theorem dX0_mayBuy_61 : decode cX0_mayBuy 61 = .ok (.aload_n 0, 1) := by decide +kernel
theorem dX0_mayBuy_62 : decode cX0_mayBuy 62 = .ok (.iload 5, 2) := by decide +kernel
theorem dX0_mayBuy_64 : decode cX0_mayBuy 64 = .ok (.iload_n 2, 1) := by decide +kernel
theorem dX0_mayBuy_65 : decode cX0_mayBuy 65 = .ok (.iload_n 3, 1) := by decide +kernel
theorem dX0_mayBuy_66 : decode cX0_mayBuy 66 = .ok (.iload 4, 2) := by decide +kernel
theorem dX0_mayBuy_68 : decode cX0_mayBuy 68 = .ok (.invokevirtual 222, 3) := by decide +kernel
theorem dX0_mayBuy_71 : decode cX0_mayBuy 71 = .ok (.ifCond .ne 7, 3) := by decide +kernel
theorem dX0_mayBuy_74 : decode cX0_mayBuy 74 = .ok (.iconst 1, 1) := by decide +kernel
theorem dX0_mayBuy_75 : decode cX0_mayBuy 75 = .ok (.goto 4, 3) := by decide +kernel
theorem dX0_mayBuy_78 : decode cX0_mayBuy 78 = .ok (.iconst 0, 1) := by decide +kernel
theorem dX0_mayBuy_79 : decode cX0_mayBuy 79 = .ok (.ireturn, 1) := by decide +kernel
set_option maxRecDepth 20000 in
theorem ggX0_otherOwnerHas_X0_owns : GoodIn wsX0_otherOwnerHas wsX0_owns := goodIn_r _ [7, 8, 9, 10, 6, 11, 12, 13, 14, 15, 16, 17, 18, 19, 20, 21] (by decide +kernel) (by decide +kernel)
set_option maxRecDepth 20000 in
theorem gX0_otherOwnerHas_X0_owns : GoodIn wsX0_otherOwnerHas (wsV RX0 96 RX0 yX0_owns wsX0_owns) := goodIn_app (goodIn_of _ (by decide +kernel)) ggX0_otherOwnerHas_X0_owns
theorem dX0_otherOwnerHas_0 : decode cX0_otherOwnerHas 0 = .ok (.iconst 0, 1) := by decide +kernel
theorem dX0_otherOwnerHas_1 : decode cX0_otherOwnerHas 1 = .ok (.istore 5, 2) := by decide +kernel
theorem dX0_otherOwnerHas_3 : decode cX0_otherOwnerHas 3 = .ok (.iload 5, 2) := by decide +kernel
theorem dX0_otherOwnerHas_5 : decode cX0_otherOwnerHas 5 = .ok (.aload_n 0, 1) := by decide +kernel
theorem dX0_otherOwnerHas_6 : decode cX0_otherOwnerHas 6 = .ok (.getfield 23, 3) := by decide +kernel
theorem dX0_otherOwnerHas_9 : decode cX0_otherOwnerHas 9 = .ok (.if_icmp .ge 40, 3) := by decide +kernel
theorem dX0_otherOwnerHas_12 : decode cX0_otherOwnerHas 12 = .ok (.iload 5, 2) := by decide +kernel
theorem dX0_otherOwnerHas_14 : decode cX0_otherOwnerHas 14 = .ok (.iload_n 2, 1) := by decide +kernel
theorem dX0_otherOwnerHas_15 : decode cX0_otherOwnerHas 15 = .ok (.if_icmp .eq 28, 3) := by decide +kernel
theorem dX0_otherOwnerHas_18 : decode cX0_otherOwnerHas 18 = .ok (.aload_n 0, 1) := by decide +kernel
theorem dX0_otherOwnerHas_19 : decode cX0_otherOwnerHas 19 = .ok (.iload_n 3, 1) := by decide +kernel
theorem dX0_otherOwnerHas_20 : decode cX0_otherOwnerHas 20 = .ok (.iload 4, 2) := by decide +kernel
theorem dX0_otherOwnerHas_22 : decode cX0_otherOwnerHas 22 = .ok (.iload 5, 2) := by decide +kernel
theorem dX0_otherOwnerHas_24 : decode cX0_otherOwnerHas 24 = .ok (.invokevirtual 96, 3) := by decide +kernel
theorem dX0_otherOwnerHas_27 : decode cX0_otherOwnerHas 27 = .ok (.ifCond .le 16, 3) := by decide +kernel
theorem dX0_otherOwnerHas_30 : decode cX0_otherOwnerHas 30 = .ok (.aload_n 0, 1) := by decide +kernel
theorem dX0_otherOwnerHas_31 : decode cX0_otherOwnerHas 31 = .ok (.getfield 30, 3) := by decide +kernel
theorem dX0_otherOwnerHas_34 : decode cX0_otherOwnerHas 34 = .ok (.iload 5, 2) := by decide +kernel
theorem dX0_otherOwnerHas_36 : decode cX0_otherOwnerHas 36 = .ok (.iaload, 1) := by decide +kernel
theorem dX0_otherOwnerHas_37 : decode cX0_otherOwnerHas 37 = .ok (.iload_n 1, 1) := by decide +kernel
theorem dX0_otherOwnerHas_38 : decode cX0_otherOwnerHas 38 = .ok (.if_icmp .lt 5, 3) := by decide +kernel
theorem dX0_otherOwnerHas_41 : decode cX0_otherOwnerHas 41 = .ok (.iconst 1, 1) := by decide +kernel
theorem dX0_otherOwnerHas_42 : decode cX0_otherOwnerHas 42 = .ok (.ireturn, 1) := by decide +kernel
theorem dX0_otherOwnerHas_43 : decode cX0_otherOwnerHas 43 = .ok (.iinc 5 1, 3) := by decide +kernel
theorem dX0_otherOwnerHas_46 : decode cX0_otherOwnerHas 46 = .ok (.goto (-43), 3) := by decide +kernel
theorem dX0_otherOwnerHas_49 : decode cX0_otherOwnerHas 49 = .ok (.iconst 0, 1) := by decide +kernel
theorem dX0_otherOwnerHas_50 : decode cX0_otherOwnerHas 50 = .ok (.ireturn, 1) := by decide +kernel
set_option maxRecDepth 20000 in
theorem ggX0_fareOf_X0_owns : GoodIn wsX0_fareOf wsX0_owns := goodIn_r _ [6, 7, 8, 9, 5, 10, 11, 12, 13, 14, 15, 16, 17, 18, 19, 20] (by decide +kernel) (by decide +kernel)
set_option maxRecDepth 20000 in
theorem gX0_fareOf_X0_owns : GoodIn wsX0_fareOf (wsV RX0 96 RX0 yX0_owns wsX0_owns) := goodIn_app (goodIn_of _ (by decide +kernel)) ggX0_fareOf_X0_owns
theorem dX0_fareOf_0 : decode cX0_fareOf 0 = .ok (.aload_n 0, 1) := by decide +kernel
theorem dX0_fareOf_1 : decode cX0_fareOf 1 = .ok (.getfield 13, 3) := by decide +kernel
theorem dX0_fareOf_4 : decode cX0_fareOf 4 = .ok (.iload_n 2, 1) := by decide +kernel
theorem dX0_fareOf_5 : decode cX0_fareOf 5 = .ok (.iaload, 1) := by decide +kernel
theorem dX0_fareOf_6 : decode cX0_fareOf 6 = .ok (.iload 4, 2) := by decide +kernel
theorem dX0_fareOf_8 : decode cX0_fareOf 8 = .ok (.imul, 1) := by decide +kernel
theorem dX0_fareOf_9 : decode cX0_fareOf 9 = .ok (.aload_n 0, 1) := by decide +kernel
theorem dX0_fareOf_10 : decode cX0_fareOf 10 = .ok (.iload_n 2, 1) := by decide +kernel
theorem dX0_fareOf_11 : decode cX0_fareOf 11 = .ok (.iload_n 3, 1) := by decide +kernel
theorem dX0_fareOf_12 : decode cX0_fareOf 12 = .ok (.iload_n 1, 1) := by decide +kernel
theorem dX0_fareOf_13 : decode cX0_fareOf 13 = .ok (.invokevirtual 96, 3) := by decide +kernel
theorem dX0_fareOf_16 : decode cX0_fareOf 16 = .ok (.imul, 1) := by decide +kernel
theorem dX0_fareOf_17 : decode cX0_fareOf 17 = .ok (.bipush 64, 2) := by decide +kernel
theorem dX0_fareOf_19 : decode cX0_fareOf 19 = .ok (.idiv, 1) := by decide +kernel
theorem dX0_fareOf_20 : decode cX0_fareOf 20 = .ok (.ireturn, 1) := by decide +kernel
theorem dX0_hasLivingChild_0 : decode cX0_hasLivingChild 0 = .ok (.iconst 0, 1) := by decide +kernel
theorem dX0_hasLivingChild_1 : decode cX0_hasLivingChild 1 = .ok (.istore_n 2, 1) := by decide +kernel
theorem dX0_hasLivingChild_2 : decode cX0_hasLivingChild 2 = .ok (.iload_n 2, 1) := by decide +kernel
theorem dX0_hasLivingChild_3 : decode cX0_hasLivingChild 3 = .ok (.aload_n 0, 1) := by decide +kernel
theorem dX0_hasLivingChild_4 : decode cX0_hasLivingChild 4 = .ok (.getfield 23, 3) := by decide +kernel
theorem dX0_hasLivingChild_7 : decode cX0_hasLivingChild 7 = .ok (.if_icmp .ge 30, 3) := by decide +kernel
theorem dX0_hasLivingChild_10 : decode cX0_hasLivingChild 10 = .ok (.aload_n 0, 1) := by decide +kernel
theorem dX0_hasLivingChild_11 : decode cX0_hasLivingChild 11 = .ok (.getfield 26, 3) := by decide +kernel
theorem dX0_hasLivingChild_14 : decode cX0_hasLivingChild 14 = .ok (.iload_n 2, 1) := by decide +kernel
theorem dX0_hasLivingChild_15 : decode cX0_hasLivingChild 15 = .ok (.baload, 1) := by decide +kernel
theorem dX0_hasLivingChild_16 : decode cX0_hasLivingChild 16 = .ok (.ifCond .eq 15, 3) := by decide +kernel
theorem dX0_hasLivingChild_19 : decode cX0_hasLivingChild 19 = .ok (.aload_n 0, 1) := by decide +kernel
theorem dX0_hasLivingChild_20 : decode cX0_hasLivingChild 20 = .ok (.getfield 36, 3) := by decide +kernel
theorem dX0_hasLivingChild_23 : decode cX0_hasLivingChild 23 = .ok (.iload_n 2, 1) := by decide +kernel
theorem dX0_hasLivingChild_24 : decode cX0_hasLivingChild 24 = .ok (.iaload, 1) := by decide +kernel
theorem dX0_hasLivingChild_25 : decode cX0_hasLivingChild 25 = .ok (.iload_n 1, 1) := by decide +kernel
theorem dX0_hasLivingChild_26 : decode cX0_hasLivingChild 26 = .ok (.if_icmp .ne 5, 3) := by decide +kernel
theorem dX0_hasLivingChild_29 : decode cX0_hasLivingChild 29 = .ok (.iconst 1, 1) := by decide +kernel
theorem dX0_hasLivingChild_30 : decode cX0_hasLivingChild 30 = .ok (.ireturn, 1) := by decide +kernel
theorem dX0_hasLivingChild_31 : decode cX0_hasLivingChild 31 = .ok (.iinc 2 1, 3) := by decide +kernel
theorem dX0_hasLivingChild_34 : decode cX0_hasLivingChild 34 = .ok (.goto (-32), 3) := by decide +kernel
theorem dX0_hasLivingChild_37 : decode cX0_hasLivingChild 37 = .ok (.iconst 0, 1) := by decide +kernel
theorem dX0_hasLivingChild_38 : decode cX0_hasLivingChild 38 = .ok (.ireturn, 1) := by decide +kernel
set_option maxRecDepth 20000 in
theorem ggX0_isHeir_X0_hasLivingChild : GoodIn wsX0_isHeir wsX0_hasLivingChild := goodIn_r _ [7, 8, 1, 2, 9, 10, 11, 12, 13, 14, 15, 16, 17, 18] (by decide +kernel) (by decide +kernel)
set_option maxRecDepth 20000 in
theorem gX0_isHeir_X0_hasLivingChild : GoodIn wsX0_isHeir (wsV RX0 225 RX0 yX0_hasLivingChild wsX0_hasLivingChild) := goodIn_app (goodIn_of _ (by decide +kernel)) ggX0_isHeir_X0_hasLivingChild
theorem dX0_isHeir_0 : decode cX0_isHeir 0 = .ok (.aload_n 0, 1) := by decide +kernel
theorem dX0_isHeir_1 : decode cX0_isHeir 1 = .ok (.getfield 26, 3) := by decide +kernel
theorem dX0_isHeir_4 : decode cX0_isHeir 4 = .ok (.iload_n 1, 1) := by decide +kernel
theorem dX0_isHeir_5 : decode cX0_isHeir 5 = .ok (.baload, 1) := by decide +kernel
theorem dX0_isHeir_6 : decode cX0_isHeir 6 = .ok (.ifCond .eq 8, 3) := by decide +kernel
theorem dX0_isHeir_9 : decode cX0_isHeir 9 = .ok (.iload_n 1, 1) := by decide +kernel
theorem dX0_isHeir_10 : decode cX0_isHeir 10 = .ok (.iload_n 2, 1) := by decide +kernel
theorem dX0_isHeir_11 : decode cX0_isHeir 11 = .ok (.if_icmp .ne 5, 3) := by decide +kernel
theorem dX0_isHeir_14 : decode cX0_isHeir 14 = .ok (.iconst 0, 1) := by decide +kernel
theorem dX0_isHeir_15 : decode cX0_isHeir 15 = .ok (.ireturn, 1) := by decide +kernel
theorem dX0_isHeir_16 : decode cX0_isHeir 16 = .ok (.aload_n 0, 1) := by decide +kernel
theorem dX0_isHeir_17 : decode cX0_isHeir 17 = .ok (.iload_n 2, 1) := by decide +kernel
theorem dX0_isHeir_18 : decode cX0_isHeir 18 = .ok (.invokevirtual 225, 3) := by decide +kernel
theorem dX0_isHeir_21 : decode cX0_isHeir 21 = .ok (.ifCond .eq 19, 3) := by decide +kernel
theorem dX0_isHeir_24 : decode cX0_isHeir 24 = .ok (.aload_n 0, 1) := by decide +kernel
theorem dX0_isHeir_25 : decode cX0_isHeir 25 = .ok (.getfield 36, 3) := by decide +kernel
theorem dX0_isHeir_28 : decode cX0_isHeir 28 = .ok (.iload_n 1, 1) := by decide +kernel
theorem dX0_isHeir_29 : decode cX0_isHeir 29 = .ok (.iaload, 1) := by decide +kernel
theorem dX0_isHeir_30 : decode cX0_isHeir 30 = .ok (.iload_n 2, 1) := by decide +kernel
theorem dX0_isHeir_31 : decode cX0_isHeir 31 = .ok (.if_icmp .ne 7, 3) := by decide +kernel
theorem dX0_isHeir_34 : decode cX0_isHeir 34 = .ok (.iconst 1, 1) := by decide +kernel
theorem dX0_isHeir_35 : decode cX0_isHeir 35 = .ok (.goto 4, 3) := by decide +kernel
theorem dX0_isHeir_38 : decode cX0_isHeir 38 = .ok (.iconst 0, 1) := by decide +kernel
theorem dX0_isHeir_39 : decode cX0_isHeir 39 = .ok (.ireturn, 1) := by decide +kernel
theorem dX0_isHeir_40 : decode cX0_isHeir 40 = .ok (.aload_n 0, 1) := by decide +kernel
theorem dX0_isHeir_41 : decode cX0_isHeir 41 = .ok (.getfield 36, 3) := by decide +kernel
theorem dX0_isHeir_44 : decode cX0_isHeir 44 = .ok (.iload_n 2, 1) := by decide +kernel
theorem dX0_isHeir_45 : decode cX0_isHeir 45 = .ok (.iaload, 1) := by decide +kernel
theorem dX0_isHeir_46 : decode cX0_isHeir 46 = .ok (.iconst (-1), 1) := by decide +kernel
theorem dX0_isHeir_47 : decode cX0_isHeir 47 = .ok (.if_icmp .eq 22, 3) := by decide +kernel
theorem dX0_isHeir_50 : decode cX0_isHeir 50 = .ok (.aload_n 0, 1) := by decide +kernel
theorem dX0_isHeir_51 : decode cX0_isHeir 51 = .ok (.getfield 36, 3) := by decide +kernel
theorem dX0_isHeir_54 : decode cX0_isHeir 54 = .ok (.iload_n 1, 1) := by decide +kernel
theorem dX0_isHeir_55 : decode cX0_isHeir 55 = .ok (.iaload, 1) := by decide +kernel
theorem dX0_isHeir_56 : decode cX0_isHeir 56 = .ok (.aload_n 0, 1) := by decide +kernel
theorem dX0_isHeir_57 : decode cX0_isHeir 57 = .ok (.getfield 36, 3) := by decide +kernel
theorem dX0_isHeir_60 : decode cX0_isHeir 60 = .ok (.iload_n 2, 1) := by decide +kernel
theorem dX0_isHeir_61 : decode cX0_isHeir 61 = .ok (.iaload, 1) := by decide +kernel
theorem dX0_isHeir_62 : decode cX0_isHeir 62 = .ok (.if_icmp .ne 7, 3) := by decide +kernel
theorem dX0_isHeir_65 : decode cX0_isHeir 65 = .ok (.iconst 1, 1) := by decide +kernel
theorem dX0_isHeir_66 : decode cX0_isHeir 66 = .ok (.goto 4, 3) := by decide +kernel
theorem dX0_isHeir_69 : decode cX0_isHeir 69 = .ok (.iconst 0, 1) := by decide +kernel
theorem dX0_isHeir_70 : decode cX0_isHeir 70 = .ok (.ireturn, 1) := by decide +kernel
set_option maxRecDepth 20000 in
theorem ggX0_countHeirs_X0_countHeirsBelow : GoodIn wsX0_countHeirs wsX0_countHeirsBelow := goodIn_r _ [6, 7, 8, 9, 5, 10, 11, 12, 13, 14, 15, 16, 1, 17, 18, 19, 20, 21, 22, 23, 24, 25, 26] (by decide +kernel) (by decide +kernel)
set_option maxRecDepth 20000 in
theorem gX0_countHeirs_X0_countHeirsBelow : GoodIn wsX0_countHeirs (wsV RX0 165 RX0 yX0_countHeirsBelow wsX0_countHeirsBelow) := goodIn_app (goodIn_of _ (by decide +kernel)) ggX0_countHeirs_X0_countHeirsBelow
theorem dX0_countHeirs_0 : decode cX0_countHeirs 0 = .ok (.aload_n 0, 1) := by decide +kernel
theorem dX0_countHeirs_1 : decode cX0_countHeirs 1 = .ok (.aload_n 0, 1) := by decide +kernel
theorem dX0_countHeirs_2 : decode cX0_countHeirs 2 = .ok (.getfield 23, 3) := by decide +kernel
theorem dX0_countHeirs_5 : decode cX0_countHeirs 5 = .ok (.iload_n 1, 1) := by decide +kernel
theorem dX0_countHeirs_6 : decode cX0_countHeirs 6 = .ok (.invokevirtual 165, 3) := by decide +kernel
theorem dX0_countHeirs_9 : decode cX0_countHeirs 9 = .ok (.ireturn, 1) := by decide +kernel
set_option maxRecDepth 20000 in
theorem ggX0_countHeirsBelow_X0_isHeir : GoodIn wsX0_countHeirsBelow wsX0_isHeir := goodIn_r _ [5, 6, 7, 8, 9, 10, 4, 11, 12, 13, 14, 15, 16, 17, 18, 19, 20, 21, 22] (by decide +kernel) (by decide +kernel)
set_option maxRecDepth 20000 in
theorem gX0_countHeirsBelow_X0_isHeir : GoodIn wsX0_countHeirsBelow (wsV RX0 132 RX0 yX0_isHeir wsX0_isHeir) := goodIn_app (goodIn_of _ (by decide +kernel)) ggX0_countHeirsBelow_X0_isHeir
theorem dX0_countHeirsBelow_0 : decode cX0_countHeirsBelow 0 = .ok (.iconst 0, 1) := by decide +kernel
theorem dX0_countHeirsBelow_1 : decode cX0_countHeirsBelow 1 = .ok (.istore_n 3, 1) := by decide +kernel
theorem dX0_countHeirsBelow_2 : decode cX0_countHeirsBelow 2 = .ok (.iconst 0, 1) := by decide +kernel
theorem dX0_countHeirsBelow_3 : decode cX0_countHeirsBelow 3 = .ok (.istore 4, 2) := by decide +kernel
theorem dX0_countHeirsBelow_5 : decode cX0_countHeirsBelow 5 = .ok (.iload 4, 2) := by decide +kernel
theorem dX0_countHeirsBelow_7 : decode cX0_countHeirsBelow 7 = .ok (.iload_n 1, 1) := by decide +kernel
theorem dX0_countHeirsBelow_8 : decode cX0_countHeirsBelow 8 = .ok (.if_icmp .ge 22, 3) := by decide +kernel
theorem dX0_countHeirsBelow_11 : decode cX0_countHeirsBelow 11 = .ok (.aload_n 0, 1) := by decide +kernel
theorem dX0_countHeirsBelow_12 : decode cX0_countHeirsBelow 12 = .ok (.iload 4, 2) := by decide +kernel
theorem dX0_countHeirsBelow_14 : decode cX0_countHeirsBelow 14 = .ok (.iload_n 2, 1) := by decide +kernel
theorem dX0_countHeirsBelow_15 : decode cX0_countHeirsBelow 15 = .ok (.invokevirtual 132, 3) := by decide +kernel
theorem dX0_countHeirsBelow_18 : decode cX0_countHeirsBelow 18 = .ok (.ifCond .eq 6, 3) := by decide +kernel
theorem dX0_countHeirsBelow_21 : decode cX0_countHeirsBelow 21 = .ok (.iinc 3 1, 3) := by decide +kernel
theorem dX0_countHeirsBelow_24 : decode cX0_countHeirsBelow 24 = .ok (.iinc 4 1, 3) := by decide +kernel
theorem dX0_countHeirsBelow_27 : decode cX0_countHeirsBelow 27 = .ok (.goto (-22), 3) := by decide +kernel
theorem dX0_countHeirsBelow_30 : decode cX0_countHeirsBelow 30 = .ok (.iload_n 3, 1) := by decide +kernel
theorem dX0_countHeirsBelow_31 : decode cX0_countHeirsBelow 31 = .ok (.ireturn, 1) := by decide +kernel
set_option maxRecDepth 20000 in
theorem ggX0_findHeir_X0_isHeir : GoodIn wsX0_findHeir wsX0_isHeir := goodIn_r _ [6, 7, 8, 9, 10, 11, 5, 12, 1, 13, 14, 15, 16, 17, 18, 19, 20, 21, 22] (by decide +kernel) (by decide +kernel)
set_option maxRecDepth 20000 in
theorem gX0_findHeir_X0_isHeir : GoodIn wsX0_findHeir (wsV RX0 132 RX0 yX0_isHeir wsX0_isHeir) := goodIn_app (goodIn_of _ (by decide +kernel)) ggX0_findHeir_X0_isHeir
theorem dX0_findHeir_0 : decode cX0_findHeir 0 = .ok (.iconst 0, 1) := by decide +kernel
theorem dX0_findHeir_1 : decode cX0_findHeir 1 = .ok (.istore_n 3, 1) := by decide +kernel
theorem dX0_findHeir_2 : decode cX0_findHeir 2 = .ok (.iconst 0, 1) := by decide +kernel
theorem dX0_findHeir_3 : decode cX0_findHeir 3 = .ok (.istore 4, 2) := by decide +kernel
theorem dX0_findHeir_5 : decode cX0_findHeir 5 = .ok (.iload 4, 2) := by decide +kernel
theorem dX0_findHeir_7 : decode cX0_findHeir 7 = .ok (.aload_n 0, 1) := by decide +kernel
theorem dX0_findHeir_8 : decode cX0_findHeir 8 = .ok (.getfield 23, 3) := by decide +kernel
theorem dX0_findHeir_11 : decode cX0_findHeir 11 = .ok (.if_icmp .ge 30, 3) := by decide +kernel
theorem dX0_findHeir_14 : decode cX0_findHeir 14 = .ok (.aload_n 0, 1) := by decide +kernel
theorem dX0_findHeir_15 : decode cX0_findHeir 15 = .ok (.iload 4, 2) := by decide +kernel
theorem dX0_findHeir_17 : decode cX0_findHeir 17 = .ok (.iload_n 1, 1) := by decide +kernel
theorem dX0_findHeir_18 : decode cX0_findHeir 18 = .ok (.invokevirtual 132, 3) := by decide +kernel
theorem dX0_findHeir_21 : decode cX0_findHeir 21 = .ok (.ifCond .eq 14, 3) := by decide +kernel
theorem dX0_findHeir_24 : decode cX0_findHeir 24 = .ok (.iload_n 3, 1) := by decide +kernel
theorem dX0_findHeir_25 : decode cX0_findHeir 25 = .ok (.iload_n 2, 1) := by decide +kernel
theorem dX0_findHeir_26 : decode cX0_findHeir 26 = .ok (.if_icmp .ne 6, 3) := by decide +kernel
theorem dX0_findHeir_29 : decode cX0_findHeir 29 = .ok (.iload 4, 2) := by decide +kernel
theorem dX0_findHeir_31 : decode cX0_findHeir 31 = .ok (.ireturn, 1) := by decide +kernel
theorem dX0_findHeir_32 : decode cX0_findHeir 32 = .ok (.iinc 3 1, 3) := by decide +kernel
theorem dX0_findHeir_35 : decode cX0_findHeir 35 = .ok (.iinc 4 1, 3) := by decide +kernel
theorem dX0_findHeir_38 : decode cX0_findHeir 38 = .ok (.goto (-33), 3) := by decide +kernel
theorem dX0_findHeir_41 : decode cX0_findHeir 41 = .ok (.iconst (-1), 1) := by decide +kernel
theorem dX0_findHeir_42 : decode cX0_findHeir 42 = .ok (.ireturn, 1) := by decide +kernel
theorem dX0_partOf_0 : decode cX0_partOf 0 = .ok (.iload_n 1, 1) := by decide +kernel
theorem dX0_partOf_1 : decode cX0_partOf 1 = .ok (.iconst 1, 1) := by decide +kernel
theorem dX0_partOf_2 : decode cX0_partOf 2 = .ok (.if_icmp .gt 5, 3) := by decide +kernel
theorem dX0_partOf_5 : decode cX0_partOf 5 = .ok (.iload_n 0, 1) := by decide +kernel
theorem dX0_partOf_6 : decode cX0_partOf 6 = .ok (.ireturn, 1) := by decide +kernel
theorem dX0_partOf_7 : decode cX0_partOf 7 = .ok (.iload_n 0, 1) := by decide +kernel
theorem dX0_partOf_8 : decode cX0_partOf 8 = .ok (.iconst 2, 1) := by decide +kernel
theorem dX0_partOf_9 : decode cX0_partOf 9 = .ok (.idiv, 1) := by decide +kernel
theorem dX0_partOf_10 : decode cX0_partOf 10 = .ok (.istore_n 3, 1) := by decide +kernel
theorem dX0_partOf_11 : decode cX0_partOf 11 = .ok (.iload_n 2, 1) := by decide +kernel
theorem dX0_partOf_12 : decode cX0_partOf 12 = .ok (.ifCond .ne 7, 3) := by decide +kernel
theorem dX0_partOf_15 : decode cX0_partOf 15 = .ok (.iload_n 0, 1) := by decide +kernel
theorem dX0_partOf_16 : decode cX0_partOf 16 = .ok (.iload_n 3, 1) := by decide +kernel
theorem dX0_partOf_17 : decode cX0_partOf 17 = .ok (.isub, 1) := by decide +kernel
theorem dX0_partOf_18 : decode cX0_partOf 18 = .ok (.ireturn, 1) := by decide +kernel
theorem dX0_partOf_19 : decode cX0_partOf 19 = .ok (.iload_n 1, 1) := by decide +kernel
theorem dX0_partOf_20 : decode cX0_partOf 20 = .ok (.iconst 1, 1) := by decide +kernel
theorem dX0_partOf_21 : decode cX0_partOf 21 = .ok (.isub, 1) := by decide +kernel
theorem dX0_partOf_22 : decode cX0_partOf 22 = .ok (.istore 4, 2) := by decide +kernel
theorem dX0_partOf_24 : decode cX0_partOf 24 = .ok (.iload_n 3, 1) := by decide +kernel
theorem dX0_partOf_25 : decode cX0_partOf 25 = .ok (.iload 4, 2) := by decide +kernel
theorem dX0_partOf_27 : decode cX0_partOf 27 = .ok (.idiv, 1) := by decide +kernel
theorem dX0_partOf_28 : decode cX0_partOf 28 = .ok (.istore 5, 2) := by decide +kernel
theorem dX0_partOf_30 : decode cX0_partOf 30 = .ok (.iload_n 2, 1) := by decide +kernel
theorem dX0_partOf_31 : decode cX0_partOf 31 = .ok (.iconst 1, 1) := by decide +kernel
theorem dX0_partOf_32 : decode cX0_partOf 32 = .ok (.isub, 1) := by decide +kernel
theorem dX0_partOf_33 : decode cX0_partOf 33 = .ok (.iload_n 3, 1) := by decide +kernel
theorem dX0_partOf_34 : decode cX0_partOf 34 = .ok (.iload 4, 2) := by decide +kernel
theorem dX0_partOf_36 : decode cX0_partOf 36 = .ok (.irem, 1) := by decide +kernel
theorem dX0_partOf_37 : decode cX0_partOf 37 = .ok (.if_icmp .ge 10, 3) := by decide +kernel
theorem dX0_partOf_40 : decode cX0_partOf 40 = .ok (.iload 5, 2) := by decide +kernel
theorem dX0_partOf_42 : decode cX0_partOf 42 = .ok (.iconst 1, 1) := by decide +kernel
theorem dX0_partOf_43 : decode cX0_partOf 43 = .ok (.iadd, 1) := by decide +kernel
theorem dX0_partOf_44 : decode cX0_partOf 44 = .ok (.goto 5, 3) := by decide +kernel
theorem dX0_partOf_47 : decode cX0_partOf 47 = .ok (.iload 5, 2) := by decide +kernel
theorem dX0_partOf_49 : decode cX0_partOf 49 = .ok (.ireturn, 1) := by decide +kernel
set_option maxRecDepth 20000 in
theorem ggX0_hand_X0_owns : GoodIn wsX0_hand wsX0_owns := goodIn_r _ [7, 8, 9, 10, 6, 11, 27, 28, 29, 30, 31, 32, 33, 34, 35, 36] (by decide +kernel) (by decide +kernel)
set_option maxRecDepth 20000 in
theorem gX0_hand_X0_owns : GoodIn wsX0_hand (wsV RX0 96 RX0 yX0_owns wsX0_owns) := goodIn_app (goodIn_of _ (by decide +kernel)) ggX0_hand_X0_owns
set_option maxRecDepth 20000 in
theorem ggX0_hand_X0_partOf : GoodIn wsX0_hand wsX0_partOf := goodIn_r _ [14] (by decide +kernel) (by decide +kernel)
set_option maxRecDepth 20000 in
theorem gX0_hand_X0_partOf : GoodIn wsX0_hand (va_wsS RX0 168 yX0_partOf wsX0_partOf) := goodIn_app (goodIn_of _ (by decide +kernel)) ggX0_hand_X0_partOf
set_option maxRecDepth 20000 in
theorem ggX0_hand_X0_addShares : GoodIn wsX0_hand wsX0_addShares := goodIn_r _ [18, 8, 9, 10, 6, 11, 27, 28, 29, 30, 31, 32, 33, 34, 35, 36] (by decide +kernel) (by decide +kernel)
set_option maxRecDepth 20000 in
theorem gX0_hand_X0_addShares : GoodIn wsX0_hand (wsV RX0 90 RX0 yX0_addShares wsX0_addShares) := goodIn_app (goodIn_of _ (by decide +kernel)) ggX0_hand_X0_addShares
set_option maxRecDepth 20000 in
theorem ggX0_hand_X0_addCoins : GoodIn wsX0_hand wsX0_addCoins := goodIn_r _ [22, 2, 23, 24, 25, 26, 27, 28, 29, 30, 31, 32, 33, 34, 35, 36] (by decide +kernel) (by decide +kernel)
set_option maxRecDepth 20000 in
theorem gX0_hand_X0_addCoins : GoodIn wsX0_hand (wsV RX0 71 RX0 yX0_addCoins wsX0_addCoins) := goodIn_app (goodIn_of _ (by decide +kernel)) ggX0_hand_X0_addCoins
theorem dX0_hand_0 : decode cX0_hand 0 = .ok (.iconst 0, 1) := by decide +kernel
theorem dX0_hand_1 : decode cX0_hand 1 = .ok (.istore 5, 2) := by decide +kernel
theorem dX0_hand_3 : decode cX0_hand 3 = .ok (.iload 5, 2) := by decide +kernel
theorem dX0_hand_5 : decode cX0_hand 5 = .ok (.aload_n 0, 1) := by decide +kernel
theorem dX0_hand_6 : decode cX0_hand 6 = .ok (.getfield 9, 3) := by decide +kernel
theorem dX0_hand_9 : decode cX0_hand 9 = .ok (.if_icmp .ge 48, 3) := by decide +kernel
theorem dX0_hand_12 : decode cX0_hand 12 = .ok (.iconst 0, 1) := by decide +kernel
theorem dX0_hand_13 : decode cX0_hand 13 = .ok (.istore 6, 2) := by decide +kernel
theorem dX0_hand_15 : decode cX0_hand 15 = .ok (.iload 6, 2) := by decide +kernel
theorem dX0_hand_17 : decode cX0_hand 17 = .ok (.iconst 4, 1) := by decide +kernel
theorem dX0_hand_18 : decode cX0_hand 18 = .ok (.if_icmp .ge 33, 3) := by decide +kernel
theorem dX0_hand_21 : decode cX0_hand 21 = .ok (.aload_n 0, 1) := by decide +kernel
theorem dX0_hand_22 : decode cX0_hand 22 = .ok (.iload 5, 2) := by decide +kernel
theorem dX0_hand_24 : decode cX0_hand 24 = .ok (.iload 6, 2) := by decide +kernel
theorem dX0_hand_26 : decode cX0_hand 26 = .ok (.iload_n 2, 1) := by decide +kernel
theorem dX0_hand_27 : decode cX0_hand 27 = .ok (.aload_n 0, 1) := by decide +kernel
theorem dX0_hand_28 : decode cX0_hand 28 = .ok (.iload 5, 2) := by decide +kernel
theorem dX0_hand_30 : decode cX0_hand 30 = .ok (.iload 6, 2) := by decide +kernel
theorem dX0_hand_32 : decode cX0_hand 32 = .ok (.iload_n 1, 1) := by decide +kernel
theorem dX0_hand_33 : decode cX0_hand 33 = .ok (.invokevirtual 96, 3) := by decide +kernel
theorem dX0_hand_36 : decode cX0_hand 36 = .ok (.iload_n 3, 1) := by decide +kernel
theorem dX0_hand_37 : decode cX0_hand 37 = .ok (.iload 4, 2) := by decide +kernel
theorem dX0_hand_39 : decode cX0_hand 39 = .ok (.invokestatic 168, 3) := by decide +kernel
theorem dX0_hand_42 : decode cX0_hand 42 = .ok (.invokevirtual 90, 3) := by decide +kernel
theorem dX0_hand_45 : decode cX0_hand 45 = .ok (.iinc 6 1, 3) := by decide +kernel
theorem dX0_hand_48 : decode cX0_hand 48 = .ok (.goto (-33), 3) := by decide +kernel
theorem dX0_hand_51 : decode cX0_hand 51 = .ok (.iinc 5 1, 3) := by decide +kernel
theorem dX0_hand_54 : decode cX0_hand 54 = .ok (.goto (-51), 3) := by decide +kernel
theorem dX0_hand_57 : decode cX0_hand 57 = .ok (.aload_n 0, 1) := by decide +kernel
theorem dX0_hand_58 : decode cX0_hand 58 = .ok (.iload_n 2, 1) := by decide +kernel
theorem dX0_hand_59 : decode cX0_hand 59 = .ok (.aload_n 0, 1) := by decide +kernel
theorem dX0_hand_60 : decode cX0_hand 60 = .ok (.getfield 30, 3) := by decide +kernel
theorem dX0_hand_63 : decode cX0_hand 63 = .ok (.iload_n 1, 1) := by decide +kernel
theorem dX0_hand_64 : decode cX0_hand 64 = .ok (.iaload, 1) := by decide +kernel
theorem dX0_hand_65 : decode cX0_hand 65 = .ok (.iload_n 3, 1) := by decide +kernel
theorem dX0_hand_66 : decode cX0_hand 66 = .ok (.iload 4, 2) := by decide +kernel
theorem dX0_hand_68 : decode cX0_hand 68 = .ok (.invokestatic 168, 3) := by decide +kernel
theorem dX0_hand_71 : decode cX0_hand 71 = .ok (.invokevirtual 71, 3) := by decide +kernel
theorem dX0_hand_74 : decode cX0_hand 74 = .ok (.return_, 1) := by decide +kernel
set_option maxRecDepth 20000 in
theorem ggX0_bury_X0_slot : GoodIn wsX0_bury wsX0_slot := goodIn_r _ [8] (by decide +kernel) (by decide +kernel)
set_option maxRecDepth 20000 in
theorem gX0_bury_X0_slot : GoodIn wsX0_bury (va_wsS RX0 213 yX0_slot wsX0_slot) := goodIn_app (goodIn_of _ (by decide +kernel)) ggX0_bury_X0_slot
theorem dX0_bury_0 : decode cX0_bury 0 = .ok (.iconst 0, 1) := by decide +kernel
theorem dX0_bury_1 : decode cX0_bury 1 = .ok (.istore_n 2, 1) := by decide +kernel
theorem dX0_bury_2 : decode cX0_bury 2 = .ok (.iload_n 2, 1) := by decide +kernel
theorem dX0_bury_3 : decode cX0_bury 3 = .ok (.aload_n 0, 1) := by decide +kernel
theorem dX0_bury_4 : decode cX0_bury 4 = .ok (.getfield 9, 3) := by decide +kernel
theorem dX0_bury_7 : decode cX0_bury 7 = .ok (.if_icmp .ge 34, 3) := by decide +kernel
theorem dX0_bury_10 : decode cX0_bury 10 = .ok (.iconst 0, 1) := by decide +kernel
theorem dX0_bury_11 : decode cX0_bury 11 = .ok (.istore_n 3, 1) := by decide +kernel
theorem dX0_bury_12 : decode cX0_bury 12 = .ok (.iload_n 3, 1) := by decide +kernel
theorem dX0_bury_13 : decode cX0_bury 13 = .ok (.iconst 4, 1) := by decide +kernel
theorem dX0_bury_14 : decode cX0_bury 14 = .ok (.if_icmp .ge 21, 3) := by decide +kernel
theorem dX0_bury_17 : decode cX0_bury 17 = .ok (.aload_n 0, 1) := by decide +kernel
theorem dX0_bury_18 : decode cX0_bury 18 = .ok (.getfield 20, 3) := by decide +kernel
theorem dX0_bury_21 : decode cX0_bury 21 = .ok (.iload_n 2, 1) := by decide +kernel
theorem dX0_bury_22 : decode cX0_bury 22 = .ok (.iload_n 3, 1) := by decide +kernel
theorem dX0_bury_23 : decode cX0_bury 23 = .ok (.iload_n 1, 1) := by decide +kernel
theorem dX0_bury_24 : decode cX0_bury 24 = .ok (.invokestatic 213, 3) := by decide +kernel
theorem dX0_bury_27 : decode cX0_bury 27 = .ok (.iconst 0, 1) := by decide +kernel
theorem dX0_bury_28 : decode cX0_bury 28 = .ok (.iastore, 1) := by decide +kernel
theorem dX0_bury_29 : decode cX0_bury 29 = .ok (.iinc 3 1, 3) := by decide +kernel
theorem dX0_bury_32 : decode cX0_bury 32 = .ok (.goto (-20), 3) := by decide +kernel
theorem dX0_bury_35 : decode cX0_bury 35 = .ok (.iinc 2 1, 3) := by decide +kernel
theorem dX0_bury_38 : decode cX0_bury 38 = .ok (.goto (-36), 3) := by decide +kernel
theorem dX0_bury_41 : decode cX0_bury 41 = .ok (.aload_n 0, 1) := by decide +kernel
theorem dX0_bury_42 : decode cX0_bury 42 = .ok (.getfield 30, 3) := by decide +kernel
theorem dX0_bury_45 : decode cX0_bury 45 = .ok (.iload_n 1, 1) := by decide +kernel
theorem dX0_bury_46 : decode cX0_bury 46 = .ok (.iconst 0, 1) := by decide +kernel
theorem dX0_bury_47 : decode cX0_bury 47 = .ok (.iastore, 1) := by decide +kernel
theorem dX0_bury_48 : decode cX0_bury 48 = .ok (.aload_n 0, 1) := by decide +kernel
theorem dX0_bury_49 : decode cX0_bury 49 = .ok (.getfield 26, 3) := by decide +kernel
theorem dX0_bury_52 : decode cX0_bury 52 = .ok (.iload_n 1, 1) := by decide +kernel
theorem dX0_bury_53 : decode cX0_bury 53 = .ok (.iconst 0, 1) := by decide +kernel
theorem dX0_bury_54 : decode cX0_bury 54 = .ok (.bastore, 1) := by decide +kernel
theorem dX0_bury_55 : decode cX0_bury 55 = .ok (.return_, 1) := by decide +kernel
theorem dX0_mix_0 : decode cX0_mix 0 = .ok (.lload_n 0, 1) := by decide +kernel
theorem dX0_mix_1 : decode cX0_mix 1 = .ok (.ldc2_w 229, 3) := by decide +kernel
theorem dX0_mix_4 : decode cX0_mix 4 = .ok (.lmul, 1) := by decide +kernel
theorem dX0_mix_5 : decode cX0_mix 5 = .ok (.lload_n 2, 1) := by decide +kernel
theorem dX0_mix_6 : decode cX0_mix 6 = .ok (.ladd, 1) := by decide +kernel
theorem dX0_mix_7 : decode cX0_mix 7 = .ok (.lreturn, 1) := by decide +kernel
set_option maxRecDepth 20000 in
theorem ggX0_mixFerry_X0_mix : GoodIn wsX0_mixFerry wsX0_mix := goodIn_r _ [7, 8] (by decide +kernel) (by decide +kernel)
set_option maxRecDepth 20000 in
theorem gX0_mixFerry_X0_mix : GoodIn wsX0_mixFerry (va_wsS RX0 175 yX0_mix wsX0_mix) := goodIn_app (goodIn_of _ (by decide +kernel)) ggX0_mixFerry_X0_mix
set_option maxRecDepth 20000 in
theorem ggX0_mixFerry_X0_owns : GoodIn wsX0_mixFerry wsX0_owns := goodIn_r _ [12, 13, 14, 15, 6, 16, 17, 18, 19, 20, 21, 22, 23, 24, 25, 26] (by decide +kernel) (by decide +kernel)
set_option maxRecDepth 20000 in
theorem gX0_mixFerry_X0_owns : GoodIn wsX0_mixFerry (wsV RX0 96 RX0 yX0_owns wsX0_owns) := goodIn_app (goodIn_of _ (by decide +kernel)) ggX0_mixFerry_X0_owns
theorem dX0_mixFerry_0 : decode cX0_mixFerry 0 = .ok (.lload_n 1, 1) := by decide +kernel
theorem dX0_mixFerry_1 : decode cX0_mixFerry 1 = .ok (.aload_n 0, 1) := by decide +kernel
theorem dX0_mixFerry_2 : decode cX0_mixFerry 2 = .ok (.getfield 13, 3) := by decide +kernel
theorem dX0_mixFerry_5 : decode cX0_mixFerry 5 = .ok (.iload_n 3, 1) := by decide +kernel
theorem dX0_mixFerry_6 : decode cX0_mixFerry 6 = .ok (.iaload, 1) := by decide +kernel
theorem dX0_mixFerry_7 : decode cX0_mixFerry 7 = .ok (.i2l, 1) := by decide +kernel
theorem dX0_mixFerry_8 : decode cX0_mixFerry 8 = .ok (.invokestatic 175, 3) := by decide +kernel
theorem dX0_mixFerry_11 : decode cX0_mixFerry 11 = .ok (.lstore 4, 2) := by decide +kernel
theorem dX0_mixFerry_13 : decode cX0_mixFerry 13 = .ok (.lload 4, 2) := by decide +kernel
theorem dX0_mixFerry_15 : decode cX0_mixFerry 15 = .ok (.aload_n 0, 1) := by decide +kernel
theorem dX0_mixFerry_16 : decode cX0_mixFerry 16 = .ok (.getfield 17, 3) := by decide +kernel
theorem dX0_mixFerry_19 : decode cX0_mixFerry 19 = .ok (.iload_n 3, 1) := by decide +kernel
theorem dX0_mixFerry_20 : decode cX0_mixFerry 20 = .ok (.iaload, 1) := by decide +kernel
theorem dX0_mixFerry_21 : decode cX0_mixFerry 21 = .ok (.i2l, 1) := by decide +kernel
theorem dX0_mixFerry_22 : decode cX0_mixFerry 22 = .ok (.invokestatic 175, 3) := by decide +kernel
theorem dX0_mixFerry_25 : decode cX0_mixFerry 25 = .ok (.lstore 4, 2) := by decide +kernel
theorem dX0_mixFerry_27 : decode cX0_mixFerry 27 = .ok (.iconst 0, 1) := by decide +kernel
theorem dX0_mixFerry_28 : decode cX0_mixFerry 28 = .ok (.istore 6, 2) := by decide +kernel
theorem dX0_mixFerry_30 : decode cX0_mixFerry 30 = .ok (.iload 6, 2) := by decide +kernel
theorem dX0_mixFerry_32 : decode cX0_mixFerry 32 = .ok (.iconst 4, 1) := by decide +kernel
theorem dX0_mixFerry_33 : decode cX0_mixFerry 33 = .ok (.if_icmp .ge 44, 3) := by decide +kernel
theorem dX0_mixFerry_36 : decode cX0_mixFerry 36 = .ok (.iconst 0, 1) := by decide +kernel
theorem dX0_mixFerry_37 : decode cX0_mixFerry 37 = .ok (.istore 7, 2) := by decide +kernel
theorem dX0_mixFerry_39 : decode cX0_mixFerry 39 = .ok (.iload 7, 2) := by decide +kernel
theorem dX0_mixFerry_41 : decode cX0_mixFerry 41 = .ok (.aload_n 0, 1) := by decide +kernel
theorem dX0_mixFerry_42 : decode cX0_mixFerry 42 = .ok (.getfield 23, 3) := by decide +kernel
theorem dX0_mixFerry_45 : decode cX0_mixFerry 45 = .ok (.if_icmp .ge 26, 3) := by decide +kernel
theorem dX0_mixFerry_48 : decode cX0_mixFerry 48 = .ok (.lload 4, 2) := by decide +kernel
theorem dX0_mixFerry_50 : decode cX0_mixFerry 50 = .ok (.aload_n 0, 1) := by decide +kernel
theorem dX0_mixFerry_51 : decode cX0_mixFerry 51 = .ok (.iload_n 3, 1) := by decide +kernel
theorem dX0_mixFerry_52 : decode cX0_mixFerry 52 = .ok (.iload 6, 2) := by decide +kernel
theorem dX0_mixFerry_54 : decode cX0_mixFerry 54 = .ok (.iload 7, 2) := by decide +kernel
theorem dX0_mixFerry_56 : decode cX0_mixFerry 56 = .ok (.invokevirtual 96, 3) := by decide +kernel
theorem dX0_mixFerry_59 : decode cX0_mixFerry 59 = .ok (.i2l, 1) := by decide +kernel
theorem dX0_mixFerry_60 : decode cX0_mixFerry 60 = .ok (.invokestatic 175, 3) := by decide +kernel
theorem dX0_mixFerry_63 : decode cX0_mixFerry 63 = .ok (.lstore 4, 2) := by decide +kernel
theorem dX0_mixFerry_65 : decode cX0_mixFerry 65 = .ok (.iinc 7 1, 3) := by decide +kernel
theorem dX0_mixFerry_68 : decode cX0_mixFerry 68 = .ok (.goto (-29), 3) := by decide +kernel
theorem dX0_mixFerry_71 : decode cX0_mixFerry 71 = .ok (.iinc 6 1, 3) := by decide +kernel
theorem dX0_mixFerry_74 : decode cX0_mixFerry 74 = .ok (.goto (-44), 3) := by decide +kernel
theorem dX0_mixFerry_77 : decode cX0_mixFerry 77 = .ok (.lload 4, 2) := by decide +kernel
theorem dX0_mixFerry_79 : decode cX0_mixFerry 79 = .ok (.lreturn, 1) := by decide +kernel
set_option maxRecDepth 20000 in
theorem ggX0_mixPerson_X0_mix : GoodIn wsX0_mixPerson wsX0_mix := goodIn_r _ [7, 8] (by decide +kernel) (by decide +kernel)
set_option maxRecDepth 20000 in
theorem gX0_mixPerson_X0_mix : GoodIn wsX0_mixPerson (va_wsS RX0 175 yX0_mix wsX0_mix) := goodIn_app (goodIn_of _ (by decide +kernel)) ggX0_mixPerson_X0_mix
set_option maxRecDepth 20000 in
theorem ggX0_mixPerson_X0_countAllShares : GoodIn wsX0_mixPerson wsX0_countAllShares := goodIn_r _ [12, 13, 14, 15, 16, 6, 17, 18, 19, 20, 21, 22, 23, 24, 25, 48, 49, 50, 51, 52, 53, 54, 55, 56, 57] (by decide +kernel) (by decide +kernel)
set_option maxRecDepth 20000 in
theorem gX0_mixPerson_X0_countAllShares : GoodIn wsX0_mixPerson (wsV RX0 149 RX0 yX0_countAllShares wsX0_countAllShares) := goodIn_app (goodIn_of _ (by decide +kernel)) ggX0_mixPerson_X0_countAllShares
set_option maxRecDepth 20000 in
theorem ggX0_mixPerson_X0_countChildren : GoodIn wsX0_mixPerson wsX0_countChildren := goodIn_r _ [29, 30, 31, 48, 49, 50, 51, 52, 53, 54, 55, 56, 57] (by decide +kernel) (by decide +kernel)
set_option maxRecDepth 20000 in
theorem gX0_mixPerson_X0_countChildren : GoodIn wsX0_mixPerson (wsV RX0 154 RX0 yX0_countChildren wsX0_countChildren) := goodIn_app (goodIn_of _ (by decide +kernel)) ggX0_mixPerson_X0_countChildren
set_option maxRecDepth 20000 in
theorem ggX0_mixPerson_X0_countHeirs : GoodIn wsX0_mixPerson wsX0_countHeirs := goodIn_r _ [35, 30, 36, 37, 38, 6, 39, 40, 41, 42, 43, 1, 31, 44, 45, 46, 47, 48, 49, 50, 51, 52, 53, 54, 55, 56, 57] (by decide +kernel) (by decide +kernel)
set_option maxRecDepth 20000 in
theorem gX0_mixPerson_X0_countHeirs : GoodIn wsX0_mixPerson (wsV RX0 129 RX0 yX0_countHeirs wsX0_countHeirs) := goodIn_app (goodIn_of _ (by decide +kernel)) ggX0_mixPerson_X0_countHeirs
theorem dX0_mixPerson_0 : decode cX0_mixPerson 0 = .ok (.lload_n 1, 1) := by decide +kernel
theorem dX0_mixPerson_1 : decode cX0_mixPerson 1 = .ok (.aload_n 0, 1) := by decide +kernel
theorem dX0_mixPerson_2 : decode cX0_mixPerson 2 = .ok (.getfield 26, 3) := by decide +kernel
theorem dX0_mixPerson_5 : decode cX0_mixPerson 5 = .ok (.iload_n 3, 1) := by decide +kernel
theorem dX0_mixPerson_6 : decode cX0_mixPerson 6 = .ok (.baload, 1) := by decide +kernel
theorem dX0_mixPerson_7 : decode cX0_mixPerson 7 = .ok (.ifCond .eq 7, 3) := by decide +kernel
theorem dX0_mixPerson_10 : decode cX0_mixPerson 10 = .ok (.lconst 1, 1) := by decide +kernel
theorem dX0_mixPerson_11 : decode cX0_mixPerson 11 = .ok (.goto 4, 3) := by decide +kernel
theorem dX0_mixPerson_14 : decode cX0_mixPerson 14 = .ok (.lconst 0, 1) := by decide +kernel
theorem dX0_mixPerson_15 : decode cX0_mixPerson 15 = .ok (.invokestatic 175, 3) := by decide +kernel
theorem dX0_mixPerson_18 : decode cX0_mixPerson 18 = .ok (.lstore 4, 2) := by decide +kernel
theorem dX0_mixPerson_20 : decode cX0_mixPerson 20 = .ok (.lload 4, 2) := by decide +kernel
theorem dX0_mixPerson_22 : decode cX0_mixPerson 22 = .ok (.aload_n 0, 1) := by decide +kernel
theorem dX0_mixPerson_23 : decode cX0_mixPerson 23 = .ok (.getfield 30, 3) := by decide +kernel
theorem dX0_mixPerson_26 : decode cX0_mixPerson 26 = .ok (.iload_n 3, 1) := by decide +kernel
theorem dX0_mixPerson_27 : decode cX0_mixPerson 27 = .ok (.iaload, 1) := by decide +kernel
theorem dX0_mixPerson_28 : decode cX0_mixPerson 28 = .ok (.i2l, 1) := by decide +kernel
theorem dX0_mixPerson_29 : decode cX0_mixPerson 29 = .ok (.invokestatic 175, 3) := by decide +kernel
theorem dX0_mixPerson_32 : decode cX0_mixPerson 32 = .ok (.lstore 4, 2) := by decide +kernel
theorem dX0_mixPerson_34 : decode cX0_mixPerson 34 = .ok (.lload 4, 2) := by decide +kernel
theorem dX0_mixPerson_36 : decode cX0_mixPerson 36 = .ok (.aload_n 0, 1) := by decide +kernel
theorem dX0_mixPerson_37 : decode cX0_mixPerson 37 = .ok (.getfield 33, 3) := by decide +kernel
theorem dX0_mixPerson_40 : decode cX0_mixPerson 40 = .ok (.iload_n 3, 1) := by decide +kernel
theorem dX0_mixPerson_41 : decode cX0_mixPerson 41 = .ok (.iaload, 1) := by decide +kernel
theorem dX0_mixPerson_42 : decode cX0_mixPerson 42 = .ok (.i2l, 1) := by decide +kernel
theorem dX0_mixPerson_43 : decode cX0_mixPerson 43 = .ok (.invokestatic 175, 3) := by decide +kernel
theorem dX0_mixPerson_46 : decode cX0_mixPerson 46 = .ok (.lstore 4, 2) := by decide +kernel
theorem dX0_mixPerson_48 : decode cX0_mixPerson 48 = .ok (.lload 4, 2) := by decide +kernel
theorem dX0_mixPerson_50 : decode cX0_mixPerson 50 = .ok (.aload_n 0, 1) := by decide +kernel
theorem dX0_mixPerson_51 : decode cX0_mixPerson 51 = .ok (.iload_n 3, 1) := by decide +kernel
theorem dX0_mixPerson_52 : decode cX0_mixPerson 52 = .ok (.invokevirtual 149, 3) := by decide +kernel
theorem dX0_mixPerson_55 : decode cX0_mixPerson 55 = .ok (.i2l, 1) := by decide +kernel
theorem dX0_mixPerson_56 : decode cX0_mixPerson 56 = .ok (.invokestatic 175, 3) := by decide +kernel
theorem dX0_mixPerson_59 : decode cX0_mixPerson 59 = .ok (.lstore 4, 2) := by decide +kernel
theorem dX0_mixPerson_61 : decode cX0_mixPerson 61 = .ok (.lload 4, 2) := by decide +kernel
theorem dX0_mixPerson_63 : decode cX0_mixPerson 63 = .ok (.aload_n 0, 1) := by decide +kernel
theorem dX0_mixPerson_64 : decode cX0_mixPerson 64 = .ok (.iload_n 3, 1) := by decide +kernel
theorem dX0_mixPerson_65 : decode cX0_mixPerson 65 = .ok (.invokevirtual 154, 3) := by decide +kernel
theorem dX0_mixPerson_68 : decode cX0_mixPerson 68 = .ok (.i2l, 1) := by decide +kernel
theorem dX0_mixPerson_69 : decode cX0_mixPerson 69 = .ok (.invokestatic 175, 3) := by decide +kernel
theorem dX0_mixPerson_72 : decode cX0_mixPerson 72 = .ok (.lstore 4, 2) := by decide +kernel
theorem dX0_mixPerson_74 : decode cX0_mixPerson 74 = .ok (.lload 4, 2) := by decide +kernel
theorem dX0_mixPerson_76 : decode cX0_mixPerson 76 = .ok (.aload_n 0, 1) := by decide +kernel
theorem dX0_mixPerson_77 : decode cX0_mixPerson 77 = .ok (.iload_n 3, 1) := by decide +kernel
theorem dX0_mixPerson_78 : decode cX0_mixPerson 78 = .ok (.invokevirtual 129, 3) := by decide +kernel
theorem dX0_mixPerson_81 : decode cX0_mixPerson 81 = .ok (.i2l, 1) := by decide +kernel
theorem dX0_mixPerson_82 : decode cX0_mixPerson 82 = .ok (.invokestatic 175, 3) := by decide +kernel
theorem dX0_mixPerson_85 : decode cX0_mixPerson 85 = .ok (.lreturn, 1) := by decide +kernel
end
section
/-! PART 05: the surroundings of a method (statics, strings, casts), the two worlds, and the rows for calls of methods that write nothing, that write their world alone, that throw. -/
section BASE
def trf : Nat → Int32 := fun w => match w with | 0 => 2 | 1 => 4 | 2 => 3 | _ => 1
def xIA : String := "java/lang/IllegalArgumentException"
def xIS : String := "java/lang/IllegalStateException"
def xIO : String := "java/lang/IndexOutOfBoundsException"
def exs3 : List String := [xIA, xIS, xIO]
def dnm : List String := ["java/lang/RuntimeException", "java/lang/Exception", Bundle.tN]
def strs : List (Nat × String) := [(48, "there are 6 ferries"), (68, "coins is not 1 to 9999"), (88, "the crown has not so many shares"), (94, "both people are the same"), (100, "the one who gives has not so many shares"), (109, "this buyer cannot buy them"), (117, "this person is not the master of the ferry"), (142, "nobody owns any share of it"), (144, "this ferry has no master"), (152, "this person has no parent"), (162, "no such place among the heirs"), (171, "nobody is alive"), (190, "no such ferry"), (192, "no such watch"), (194, "hour is not 0 to 23"), (196, "no such person"), (198, "toll is not 0 to 20"), (200, "shares is not 1 to 64"), (202, "passengers is not 1 to 200"), (204, "this person is dead"), (206, "there are 12 people")]
/-- the tables' words for arrays of arrays -/
def AOs (U : State) : Prop := (Cond.arrayOver (.array .int)).before #[] U = true ∧ (Cond.arrayOver (.array (.array .int))).before #[] U = true
theorem AO_moved {t : FieldType} {u U : State} (hvm : u.vm.Alike U.vm) (h : (Cond.arrayOver (.array t)).before #[] u = true) : (Cond.arrayOver (.array t)).before #[] U = true := by
  obtain ⟨comp, c, k, h1, h2, h3, h4, h5⟩ := arrayOverA_spec h
  obtain ⟨k', hk', he⟩ := hvm.2.2 _ _ h3
  have e1 : U.vm.findClass (FieldType.array t).toString = some comp := by rw [hvm.findClass]; exact h1
  have e5 : U.vm.findClass ("[" ++ (FieldType.array t).toString) = some c := by rw [hvm.findClass]; exact h5
  have e2 : (U.vm.classes.findIdx? fun x => match x.kind with | .array component _ => component == comp | _ => false) = some c := by rw [hvm.findIdx?_eq _ (fun _ => rfl)]; exact h2
  have e4 : k'.kind = .array comp (.array t) := by rw [he]; exact h4
  unfold Cond.before Cond.holds
  simp only [Cond.value]
  rw [e1, Option.bind_some]
  refine (congrArg (fun o : Option Nat => (o.bind (fun c => (U.vm.classes[c]?).map fun (k : Class) => match k.kind with | .array _ ty => decide (ty = FieldType.array t) && decide (U.vm.findClass ("[" ++ (FieldType.array t).toString) = some c) | _ => false) == some true)) e2).trans ?_
  simp [hk', e4, e5]
theorem AOs.moved {u U : State} (hvm : u.vm.Alike U.vm) (h : AOs u) : AOs U := ⟨AO_moved hvm h.1, AO_moved hvm h.2⟩
/-- what the methods need of the surroundings: the statics, the strings, the casts of the exceptions to themselves -/
def EV (A : Nat → Prop) (U : State) (H : Heap) : Prop :=
  (vx_Zq Bundle.tN "UNASSIGNED_STACK" Bundle.steD A U H ∧ vx_Zq Bundle.tN "SUPPRESSED_SENTINEL" Bundle.listD A U H) ∧
  ((∀ x ∈ exs3, va_Nw (.castable x x) U) ∧ (∀ x ∈ dnm, va_Nw (.declares (Bundle.initS x)) U)) ∧ (∀ x ∈ strs, ∃ sa : Nat, vk_R RX0 x.1 x.2 sa U) ∧
  (∃ t : Nat, va_Z RX0 "TRAFFIC" "[I" (.ref t) A U H ∧ va_T .int t 4 (fun j => .int (trf j)) A U H) ∧
  AOs U
theorem EV.mv {A : Nat → Prop} {s U : State} {H H1 : Heap} (hW : s.WarmedH U.vm) (h : EV A s H) (hk : ∀ a : Nat, a < H.size → ¬ A a → H1[a]? = H[a]?) : EV A U H1 := by
  obtain ⟨⟨h1, h2⟩, ⟨h3, hd⟩, h4, ⟨t5, h5, h5'⟩, h6⟩ := h
  refine ⟨⟨vx_Zq.moved hW.alike (h1.kept hk), vx_Zq.moved hW.alike (h2.kept hk)⟩, ⟨fun x hx => va_Nw.warmC hW (h3 x hx), fun x hx => va_Nw.warmD hW (hd x hx)⟩, fun x hx => ?_, ⟨t5, va_Z.moved hW.alike (h5.kept hk), va_T.moved hW.alike (h5'.kept hk)⟩, h6.moved hW.alike⟩
  obtain ⟨sa, h⟩ := h4 x hx
  exact ⟨sa, vk_R.warm hW h⟩
theorem EV.nar {A B : Nat → Prop} {U : State} {H : Heap} (h : EV A U H) (hAB : ∀ q, B q → A q) : EV B U H := by
  obtain ⟨⟨h1, h2⟩, h3, h4, ⟨t5, h5, h5'⟩, h6⟩ := h
  exact ⟨⟨h1.narrow hAB, h2.narrow hAB⟩, h3, h4, ⟨t5, h5.narrow hAB, h5'.narrow hAB⟩, h6⟩
/-- the addresses q 0 .. q (N-1), and that they are apart -/
def aw (q : Nat → Nat) (N : Nat) : Nat → Prop := fun a => ∃ k, k < N ∧ a = q k
def DQ (q : Nat → Nat) (N : Nat) : Prop := ∀ i j, i < N → j < N → q i = q j → i = j
def tyL (ci cz : ClassId) (cj : ClassId × ClassId) : List (ClassId × FieldType) := [(ci, .int), (cz, .boolean), (cj.1, .array .int), (cj.2, .array (.array .int))]
/-- who is alive, out of who is dead -/
def alv (P : Nat) (d : Nat → Int32) : Nat → Int32 := fun p => if p < P then (if d p = 0 then 1 else 0) else 0
/-- the world of a FerryRights; g: 0 tolls, 1 carried, 2 shares, 3 dead, 4 coins, 5 earned, 6 parents, 7 the crown's coins -/
def w0r (ci cz : ClassId) (q : Nat → Nat) (F P : Nat) (al : Nat → Int32) (g : Nat → Nat → Int32) : va_W := [(q 0, .inr (0, [.int (nI F), .ref (q 1), .ref (q 2), .ref (q 3), .int (nI P), .ref (q 4), .ref (q 5), .ref (q 6), .ref (q 7), .int (g 7 0)])), (q 1, .inl (ci, 6, .inl (g 0))), (q 2, .inl (ci, 6, .inl (g 1))), (q 3, .inl (ci, 288, .inl (g 2))), (q 4, .inl (cz, 12, .inl al)), (q 5, .inl (ci, 12, .inl (g 4))), (q 6, .inl (ci, 12, .inl (g 5))), (q 7, .inl (ci, 12, .inl (g 6)))]
def w0 (ci cz : ClassId) (q : Nat → Nat) (F P : Nat) (g : Nat → Nat → Int32) : va_W := w0r ci cz q F P (alv P (g 3)) g
theorem w0r_fst {ci cz : ClassId} {q : Nat → Nat} {F P : Nat} {al : Nat → Int32} {g : Nat → Nat → Int32} {k : Nat} {r : Nat × va_E} (h : (w0r ci cz q F P al g)[k]? = some r) : k < 8 ∧ r.1 = q k := by
  have hk : k < 8 := (List.getElem?_eq_some_iff.mp h).1
  refine ⟨hk, ?_⟩
  rcases (show k = 0 ∨ k = 1 ∨ k = 2 ∨ k = 3 ∨ k = 4 ∨ k = 5 ∨ k = 6 ∨ k = 7 by omega) with rfl | rfl | rfl | rfl | rfl | rfl | rfl | rfl <;> exact (congrArg Prod.fst (Option.some.inj h)).symm
theorem dst {q : Nat → Nat} {N : Nat} {ws : va_W} (hq : DQ q N) (h : ∀ k r, ws[k]? = some r → k < N ∧ r.1 = q k) : va_D (aw q N) ws :=
  ⟨fun i j x y hi hj hxy => hq i j (h i x hi).1 (h j y hj).1 (by rw [← (h i x hi).2, ← (h j y hj).2]; exact hxy), fun k r hk => ⟨k, (h k r hk).1, (h k r hk).2⟩⟩
theorem d0 {ci cz : ClassId} {q : Nat → Nat} {F P : Nat} {al : Nat → Int32} {g : Nat → Nat → Int32} (hq : DQ q 8) : va_D (aw q 8) (w0r ci cz q F P al g) := dst hq fun _ _ h => w0r_fst h
/-- a world, and its surroundings -/
def BW (D : va_G) (ci cz : ClassId) (cj : ClassId × ClassId) (q : Nat → Nat) (N : Nat) (ws : va_W) (U : State) : Prop := va_P D vwCl ws U.heap ∧ va_K D vwCl (tyL ci cz cj) U ∧ EV (aw q N) U U.heap
def B0 (D : va_G) (ci cz : ClassId) (cj : ClassId × ClassId) (q : Nat → Nat) (F P : Nat) (g : Nat → Nat → Int32) : State → Prop := BW D ci cz cj q 8 (w0 ci cz q F P g)
theorem BW.bl {D : va_G} {ci cz : ClassId} {cj : ClassId × ClassId} {q : Nat → Nat} {N : Nat} {ws : va_W} (U : State) (g : JFrame) (mk : MethodId) (a : Array Value) (h : BW D ci cz cj q N ws U) : BW D ci cz cj q N ws (U.calling g mk a) :=
  ⟨h.1, va_K.moved (u := U) (U := U.calling g mk a) (Vm.Alike.refl U.vm) h.2.1, EV.mv (s := U) (U := U.calling g mk a) (State.WarmedH.refl U) h.2.2 (fun _ _ _ => rfl)⟩
theorem BW.at {D : va_G} {ci cz : ClassId} {cj : ClassId × ClassId} {q : Nat → Nat} {N : Nat} {ws : va_W} {s : State} {H : Heap} {locs : List Loc} (hP : va_P D vwCl ws H) (hK : va_K D vwCl (tyL ci cz cj) s) (hE : EV (aw q N) s s.heap) (hS : va_S (aw q N) s.heap H locs) (U : State) (hU : U.heap = H) (hW : s.WarmedH U.vm) : BW D ci cz cj q N ws U :=
  ⟨by rw [hU]; exact hP, va_K.moved hW.alike hK, EV.mv hW hE (fun a h1 h2 => by rw [hU]; exact hS.2.1 a h1 h2)⟩
/-- ends: nothing is written -/
def RQ (v : Option Value) : Array Value → State → Outcome → State → Prop := fun _ st o t => o = .returned v ∧ t.heap = st.heap
/-- ends: of the old cells those of the set alone may have changed -/
def WQ (v : Option Value) (P1 : Heap → Prop) (Ad : Nat → Prop) : Array Value → State → Outcome → State → Prop := fun _ st o t => o = .returned v ∧ P1 t.heap ∧ va_F Ad st t
def FF : Array Value → State → Outcome → State → Prop := fun _ _ _ _ => False
def hkep (H H1 : Heap) : Prop := H.size ≤ H1.size ∧ ∀ a : Nat, a < H.size → H1[a]? = H[a]?
/-- throws an E; old cells stay -/
def XQ (E : String) : String → State → State → Prop := fun E' st t => E' = E ∧ hkep st.heap t.heap
def none_ : Nat → Prop := fun _ => False
end BASE
section ROWS
variable {p : Program} {l : Launch} {e : Env} {R : Room} {s : State} {m : MethodId} {args : Array Value} {below : List Frame} {meth : Method} {c : Code} {H : Heap} {locs : List Loc} {cells slots : Nat} {Q : State → Prop}
variable {y : MethodName} {bytes cc : ByteArray} {maxL nL mc ms n index pc : Nat} {ret : Option FieldType} {ws : List Cond} {rm : Room} {Ts : List Cond} {own C : String} {b : Nat} {As rest st0 : List Value} {ls : Array Slot} {Pr : State → Prop}
theorem Met.ofR {ws' : List Cond} {av : List Value} {v : Option Value} (hy : plainName y.cls = true) (hw : ws = Cond.code y cc maxL ret :: ws') (hlen : (lg_sl av).length ≤ maxL)
    (body : ∀ (p : Program) (e : Env) (s : State) (m : MethodId) (below : List Frame) (meth : Method) (c : Code) (ls : Array Slot), CallFix p m c cc maxL s av.toArray ws y.cls → meth.sig.returnType = ret → meth.locks = false → Pr s → lv_has ls maxL (lv_args 0 av) →
      W p l e rm s m av.toArray below meth c s.heap [] 0 0 (MQ below (RQ v) av.toArray s 0 0 none_) (F0 m 0 ls [])) : Met l y ws rm (va_Pc av Pr) (RQ v) 0 0 none_ := by
  refine Met.ofW (cc := cc) (maxL := maxL) (ret := ret) hy hw ?_
  intro p e s m args below meth c s₁ B hml hv
  obtain ⟨rfl, hv⟩ := hv
  rw [lg_entry_eq]
  exact body p e s m below meth c _ ⟨B.exec, B.bytes, hml, findClass_of_methodNamed B.named, atoms_spec (ws := ws) B.pre⟩ B.returns B.notSynchronized hv (lv_entry av hlen)
theorem Met.ofWr {ws' : List Cond} {av : List Value} {v : Option Value} {P1 : Heap → Prop} {Ad : Nat → Prop} (hy : plainName y.cls = true) (hw : ws = Cond.code y cc maxL ret :: ws') (hlen : (lg_sl av).length ≤ maxL)
    (body : ∀ (p : Program) (e : Env) (s : State) (m : MethodId) (below : List Frame) (meth : Method) (c : Code) (ls : Array Slot), CallFix p m c cc maxL s av.toArray ws y.cls → meth.sig.returnType = ret → meth.locks = false → Pr s → lv_has ls maxL (lv_args 0 av) →
      W p l e rm s m av.toArray below meth c s.heap [] 0 0 (MQ below (WQ v P1 Ad) av.toArray s 0 0 Ad) (F0 m 0 ls [])) : Met l y ws rm (va_Pc av Pr) (WQ v P1 Ad) 0 0 Ad := by
  refine Met.ofW (cc := cc) (maxL := maxL) (ret := ret) hy hw ?_
  intro p e s m args below meth c s₁ B hml hv
  obtain ⟨rfl, hv⟩ := hv
  rw [lg_entry_eq]
  exact body p e s m below meth c _ ⟨B.exec, B.bytes, hml, findClass_of_methodNamed B.named, atoms_spec (ws := ws) B.pre⟩ B.returns B.notSynchronized hv (lv_entry av hlen)
theorem vx_ofX {ws' : List Cond} {av : List Value} {Qc : Array Value → State → Outcome → State → Prop} {XC : String → State → State → Prop} {Ad : Nat → Prop} (hy : plainName y.cls = true) (hw : ws = Cond.code y cc maxL ret :: ws') (hlen : (lg_sl av).length ≤ maxL)
    (body : ∀ (p : Program) (e : Env) (s : State) (m : MethodId) (below : List Frame) (meth : Method) (c : Code) (ls : Array Slot), CallFix p m c cc maxL s av.toArray ws y.cls → meth.sig.returnType = ret → meth.locks = false → (∀ x ∈ c.exceptionTable.toList, False) → Pr s → lv_has ls maxL (lv_args 0 av) →
      W p l e rm s m av.toArray below meth c s.heap [] 0 0 (vx_MQ below Qc XC av.toArray s 1 6 Ad) (F0 m 0 ls [])) : vx_Met l y ws rm (va_Pc av Pr) Qc XC 1 6 Ad := by
  refine vx_ofW (cc := cc) (maxL := maxL) (ret := ret) hy hw ?_
  intro p e s m args below meth c s₁ B hml hex hv
  obtain ⟨rfl, hv⟩ := hv
  rw [lg_entry_eq]
  exact body p e s m below meth c _ ⟨B.exec, B.bytes, hml, findClass_of_methodNamed B.named, atoms_spec (ws := ws) B.pre⟩ B.returns B.notSynchronized hex hv (lv_entry av hlen)
theorem nil_of {L : List Loc} (h : ∀ q ∈ L, none_ q.base) : L = [] := by
  cases L with
  | nil => rfl
  | cons x t => exact (h x List.mem_cons_self).elim
/-- a call of a method of an object that writes nothing -/
theorem r_callR {v : Option Value} (F : CallFix p m c cc nL s args Ts own) (hM : Met l y ws rm (va_Pc (.ref b :: As) Pr) (RQ v) 0 0 none_) (cw : CallW R s args own C index y bytes maxL ret ws rm 0 0 n) (hbl : ∀ U g mk a, Pr U → Pr (U.calling g mk a))
    (hrec : ∃ cellB : Cell, H[b]? = some cellB ∧ cellB.vm.isStatics = false ∧ s.vm.findClass C = some cellB.cls) (hpre : ∀ U : State, U.heap = H → s.WarmedH U.vm → Pr U) (hn : As.length = n) (hsize : ls.size = nL) (hst : st0 = As.reverse ++ .ref b :: rest) (hW : (rest.map fun v => v.category).sum ≤ 8)
    (hdg : decode cc pc = .ok (.invokevirtual index, 3)) (hf : cells ≤ R.cells ∧ slots ≤ R.slots) (kk : W p l e R s m args below meth c H locs cells slots Q (F0 m (pc + 3) ls (v.toList ++ rest))) : W p l e R s m args below meth c H locs cells slots Q (F0 m pc ls st0) := by
  intro T hT X
  obtain ⟨v', st₀, t, T', L, h0, X', hL, e1, e2, ⟨hv, hh⟩, st⟩ := va_runV F hM cw ⟨fun a U g mk hq => ⟨hq.1, hbl U g mk a hq.2⟩, hrec, fun U hU hW => ⟨rfl, hpre U hU hW⟩⟩ (g := F0 m pc ls st0) rfl hn hsize hst (lv_room hW) hdg hf T hT X
  cases hv
  have hL0 := nil_of hL
  subst hL0
  rw [List.append_nil] at X'
  obtain ⟨t2, a1, b1⟩ := kk T' (by rw [e1, hh, h0]) X'
  exact ⟨t2, st t2 a1, b1⟩
/-- .. of a static method -/
theorem r_callRS {v : Option Value} (F : CallFix p m c cc nL s args Ts own) (hM : Met l y ws rm (va_Pc As Pr) (RQ v) 0 0 none_) (cw : CallB R s args own index y bytes maxL ret ws rm 0 0 n ∧ (Cond.static y).before args s = true) (hbl : ∀ U g mk a, Pr U → Pr (U.calling g mk a))
    (hpre : ∀ U : State, U.heap = H → s.WarmedH U.vm → Pr U) (hn : As.length = n) (hsize : ls.size = nL) (hst : st0 = As.reverse ++ rest) (hW : (rest.map fun v => v.category).sum ≤ 8)
    (hdg : decode cc pc = .ok (.invokestatic index, 3)) (hf : cells ≤ R.cells ∧ slots ≤ R.slots) (kk : W p l e R s m args below meth c H locs cells slots Q (F0 m (pc + 3) ls (v.toList ++ rest))) : W p l e R s m args below meth c H locs cells slots Q (F0 m pc ls st0) := by
  intro T hT X
  obtain ⟨v', st₀, t, T', L, h0, X', hL, e1, e2, ⟨hv, hh⟩, st⟩ := va_runS F hM cw ⟨fun a U g mk hq => ⟨hq.1, hbl U g mk a hq.2⟩, fun U hU hW => ⟨rfl, hpre U hU hW⟩⟩ (g := F0 m pc ls st0) rfl hn hsize hst (lv_room hW) hdg hf T hT X
  cases hv
  have hL0 := nil_of hL
  subst hL0
  rw [List.append_nil] at X'
  obtain ⟨t2, a1, b1⟩ := kk T' (by rw [e1, hh, h0]) X'
  exact ⟨t2, st t2 a1, b1⟩
/-- a call of a method that writes its world alone -/
theorem r_callW {v : Option Value} {P1 : Heap → Prop} {Ad A0 : Nat → Prop} {H0 : Heap} (F : CallFix p m c cc nL s args Ts own) (hM : Met l y ws rm (va_Pc (.ref b :: As) Pr) (WQ v P1 Ad) 0 0 Ad) (cw : CallW R s args own C index y bytes maxL ret ws rm 0 0 n) (hbl : ∀ U g mk a, Pr U → Pr (U.calling g mk a))
    (hrec : ∃ cellB : Cell, H[b]? = some cellB ∧ cellB.vm.isStatics = false ∧ s.vm.findClass C = some cellB.cls) (hpre : ∀ U : State, U.heap = H → s.WarmedH U.vm → Pr U) (hn : As.length = n) (hsize : ls.size = nL) (hst : st0 = As.reverse ++ .ref b :: rest) (hW : (rest.map fun v => v.category).sum ≤ 8)
    (hdg : decode cc pc = .ok (.invokevirtual index, 3)) (hf : cells ≤ R.cells ∧ slots ≤ R.slots) (hS : va_S A0 H0 H locs) (hA : ∀ q, Ad q → A0 q)
    (kk : ∀ (H1 : Heap) (locs1 : List Loc), P1 H1 → va_S A0 H0 H1 locs1 → H.size ≤ H1.size → (∀ q : Nat, q < H.size → ¬ Ad q → H1[q]? = H[q]?) → W p l e R s m args below meth c H1 locs1 cells slots Q (F0 m (pc + 3) ls (v.toList ++ rest))) : W p l e R s m args below meth c H locs cells slots Q (F0 m pc ls st0) := by
  intro T hT X
  obtain ⟨v', st₀, t, T', L, h0, X', hL, e1, e2, ⟨hv, hp, hF⟩, st⟩ := va_runV F hM cw ⟨fun a U g mk hq => ⟨hq.1, hbl U g mk a hq.2⟩, hrec, fun U hU hW => ⟨rfl, hpre U hU hW⟩⟩ (g := F0 m pc ls st0) rfl hn hsize hst (lv_room hW) hdg hf T hT X
  cases hv
  obtain ⟨k1, k2, k3⟩ := vx_keep h0 e1 hS (fun q _ h => hA q h) hA hL hF
  obtain ⟨t2, a1, b1⟩ := kk T'.heap (locs ++ L) (by rw [e1]; exact hp) k3 k1 k2 T' rfl X'
  exact ⟨t2, st t2 a1, b1⟩
/-- a call of a method that throws an E -/
theorem r_callX {E : String} (F : CallFix p m c cc nL s args Ts own) (hM : vx_Met l y ws rm (va_Pc (.ref b :: As) Pr) FF (XQ E) 1 6 none_) (cw : CallW R s args own C index y bytes maxL ret ws rm 1 6 n) (hbl : ∀ U g mk a, Pr U → Pr (U.calling g mk a))
    (hrec : ∃ cellB : Cell, H[b]? = some cellB ∧ cellB.vm.isStatics = false ∧ s.vm.findClass C = some cellB.cls) (hpre : ∀ U : State, U.heap = H → s.WarmedH U.vm → Pr U) (hn : As.length = n) (hsize : ls.size = nL) (hst : st0 = As.reverse ++ .ref b :: rest) (hW : (rest.map fun v => v.category).sum ≤ 8)
    (hdg : decode cc pc = .ok (.invokevirtual index, 3)) (hf : cells + 1 ≤ R.cells ∧ slots + 6 ≤ R.slots)
    (kx : ∀ (ce : Cell) (q9 : Addr) (H1 : Heap), hkep H H1 → H1[q9]? = some ce → ce.vm = .none → s.vm.findClass E = some ce.cls → vx_W p l e R s m args below meth c H1 locs (cells + 1) (slots + 6) Q (F0 m pc ls rest) q9) : W p l e R s m args below meth c H locs cells slots Q (F0 m pc ls st0) := by
  intro T hT X
  rcases vx_runV F hM cw ⟨fun a U g mk hq => ⟨hq.1, hbl U g mk a hq.2⟩, hrec, fun U hU hW => ⟨rfl, hpre U hU hW⟩⟩ (g := F0 m pc ls st0) rfl hn hsize hst (lv_room hW) hdg hf T hT X with ⟨v', st₀, t, T', L, h0, X', hL, e1, e2, hq, st⟩ | ⟨q, st₀, t, T', L, E', ce, h0, X', hL, e1, e2, ⟨hE, hh⟩, hce, hcv, hcl, st⟩
  · exact hq.elim
  · subst hE
    have hL0 := nil_of hL
    subst hL0
    rw [List.append_nil] at X'
    rw [h0, ← e1] at hh
    obtain ⟨t2, a1, b1⟩ := kx ce q T'.heap hh (by rw [e1]; exact hce) hcv hcl T' rfl X'
    exact ⟨t2, st.trans a1, b1⟩
theorem r_callXS {E : String} (F : CallFix p m c cc nL s args Ts own) (hM : vx_Met l y ws rm (va_Pc As Pr) FF (XQ E) 1 6 none_) (cw : CallB R s args own index y bytes maxL ret ws rm 1 6 n ∧ (Cond.static y).before args s = true) (hbl : ∀ U g mk a, Pr U → Pr (U.calling g mk a))
    (hpre : ∀ U : State, U.heap = H → s.WarmedH U.vm → Pr U) (hn : As.length = n) (hsize : ls.size = nL) (hst : st0 = As.reverse ++ rest) (hW : (rest.map fun v => v.category).sum ≤ 8)
    (hdg : decode cc pc = .ok (.invokestatic index, 3)) (hf : cells + 1 ≤ R.cells ∧ slots + 6 ≤ R.slots)
    (kx : ∀ (ce : Cell) (q9 : Addr) (H1 : Heap), hkep H H1 → H1[q9]? = some ce → ce.vm = .none → s.vm.findClass E = some ce.cls → vx_W p l e R s m args below meth c H1 locs (cells + 1) (slots + 6) Q (F0 m pc ls rest) q9) : W p l e R s m args below meth c H locs cells slots Q (F0 m pc ls st0) := by
  intro T hT X
  rcases vx_runS F hM cw ⟨fun a U g mk hq => ⟨hq.1, hbl U g mk a hq.2⟩, fun U hU hW => ⟨rfl, hpre U hU hW⟩⟩ (g := F0 m pc ls st0) rfl hn hsize hst (lv_room hW) hdg hf T hT X with ⟨v', st₀, t, T', L, h0, X', hL, e1, e2, hq, st⟩ | ⟨q, st₀, t, T', L, E', ce, h0, X', hL, e1, e2, ⟨hE, hh⟩, hce, hcv, hcl, st⟩
  · exact hq.elim
  · subst hE
    have hL0 := nil_of hL
    subst hL0
    rw [List.append_nil] at X'
    rw [h0, ← e1] at hh
    obtain ⟨t2, a1, b1⟩ := kx ce q T'.heap hh (by rw [e1]; exact hce) hcv hcl T' rfl X'
    exact ⟨t2, st.trans a1, b1⟩
/-- fields -/
theorem r_get {D : va_G} {wd : va_W} {tys : List (ClassId × FieldType)} {T : u_T} {N : Nat} {a : Nat} {fs : List Value} {v : Value} (F : CallFix p m c cc nL s args Ts own) (hin : ∀ w ∈ u_ws C T N, w ∈ Ts) (hK : va_K D vwCl tys s) (hP : va_P D vwCl wd H) (ci : Nat) (hc : vwCl[ci]? = some (C, T, N)) (k : Nat) (hk : k < N) (hm : Cond.fieldLink own index (T k).1 (T k).2.1 (T k).2.2.1 ∈ Ts) (he : wd[0]? = some (a, .inr (ci, fs))) (hv : fs[k]? = some v)
    (hdg : decode cc pc = .ok (.getfield index, 3)) (kk : W p l e R s m args below meth c H locs cells slots Q (F0 m (pc + 3) ls (v :: rest))) : W p l e R s m args below meth c H locs cells slots Q (F0 m pc ls (.ref a :: rest)) :=
  va_get F.1 F.2.1 F.2.2.2.2 hin F.2.2.2.1 hK hP 0 he hc k hk (F.2.2.2.2 _ hm) (fun _ h => h) hv hdg kk
theorem r_put {D : va_G} {wd : va_W} {tys : List (ClassId × FieldType)} {T : u_T} {N : Nat} {a : Nat} {fs : List Value} {x : Int32} {A : Nat → Prop} {H0 : Heap} (F : CallFix p m c cc nL s args Ts own) (hin : ∀ w ∈ u_ws C T N, w ∈ Ts) (ty0 : Nat → FieldType) (hty : ∀ k, k < N → parseFieldDescriptor (T k).2.2.1 = some (ty0 k)) (hnm : ∀ a, a < N → ∀ b, b < N → a ≠ b → (T a).2.1 ≠ (T b).2.1) (hK : va_K D vwCl tys s) (hP : va_P D vwCl wd H) (hD : va_D A wd) (hS : va_S A H0 H locs) (ci : Nat) (hc : vwCl[ci]? = some (C, T, N)) (k : Nat) (hk : k < N) (hm : Cond.fieldLink own index (T k).1 (T k).2.1 (T k).2.2.1 ∈ Ts) (hfin : (T k).2.2.2 = false) (hd : parseFieldDescriptor (T k).2.2.1 = some .int) (he : wd[0]? = some (a, .inr (ci, fs))) (hl : k < fs.length)
    (hdg : decode cc pc = .ok (.putfield index, 3)) (kk : ∀ (H1 : Heap) (locs1 : List Loc), va_P D vwCl (wd.set 0 (a, .inr (ci, fs.set k (.int x)))) H1 → va_S A H0 H1 locs1 → W p l e R s m args below meth c H1 locs1 cells slots Q (F0 m (pc + 3) ls rest)) : W p l e R s m args below meth c H locs cells slots Q (F0 m pc ls (.int x :: .ref a :: rest)) :=
  va_put F.1 F.2.1 F.2.2.2.2 hin ty0 hty hnm F.2.2.2.1 hK hP hD hS 0 he hc k hk (F.2.2.2.2 _ hm) (fun _ h => h) hfin hd rfl rfl hl hdg (fun H1 l1 h1 _ h3 => kk H1 l1 h1 h3)
/-- arrays, by an index that is a number -/
theorem r_iald {D : va_G} {wd : va_W} {tys : List (ClassId × FieldType)} {a N : Nat} {cA : ClassId} {f : Nat → Int32} (F : CallFix p m c cc nL s args Ts own) (hK : va_K D vwCl tys s) (hP : va_P D vwCl wd H) (q0 t0 : Nat) (ha : wd[q0]? = some (a, .inl (cA, N, .inl f))) (ht : tys[t0]? = some (cA, .int)) {i : Nat} (hi : i < N) (hN : N < 2 ^ 31) (hdg : decode cc pc = .ok (.iaload, 1))
    (kk : W p l e R s m args below meth c H locs cells slots Q (F0 m (pc + 1) ls (.int (f i) :: rest))) : W p l e R s m args below meth c H locs cells slots Q (F0 m pc ls (.int (nI i) :: .ref a :: rest)) := by
  refine va_iald F.1 F.2.1 hK hP q0 t0 ha ht (vp_in_nI hi hN) hdg ?_
  rw [nI_clamp (by omega)]
  exact kk
theorem r_zald {D : va_G} {wd : va_W} {tys : List (ClassId × FieldType)} {a N : Nat} {cA : ClassId} {f : Nat → Int32} (F : CallFix p m c cc nL s args Ts own) (hK : va_K D vwCl tys s) (hP : va_P D vwCl wd H) (q0 t0 : Nat) (ha : wd[q0]? = some (a, .inl (cA, N, .inl f))) (ht : tys[t0]? = some (cA, .boolean)) {i : Nat} (hi : i < N) (hN : N < 2 ^ 31) (hdg : decode cc pc = .ok (.baload, 1))
    (kk : W p l e R s m args below meth c H locs cells slots Q (F0 m (pc + 1) ls (.int (f i) :: rest))) : W p l e R s m args below meth c H locs cells slots Q (F0 m pc ls (.int (nI i) :: .ref a :: rest)) := by
  refine va_zald F.1 F.2.1 hK hP q0 t0 ha ht (vp_in_nI hi hN) hdg ?_
  rw [nI_clamp (by omega)]
  exact kk
theorem r_iast {D : va_G} {wd : va_W} {tys : List (ClassId × FieldType)} {a N : Nat} {cA : ClassId} {f : Nat → Int32} {x : Int32} {A : Nat → Prop} {H0 : Heap} (F : CallFix p m c cc nL s args Ts own) (hK : va_K D vwCl tys s) (hP : va_P D vwCl wd H) (hD : va_D A wd) (hS : va_S A H0 H locs) (q0 t0 : Nat) (ha : wd[q0]? = some (a, .inl (cA, N, .inl f))) (ht : tys[t0]? = some (cA, .int)) {i : Nat} (hi : i < N) (hN : N < 2 ^ 31) (hdg : decode cc pc = .ok (.iastore, 1))
    (kk : ∀ (H1 : Heap) (locs1 : List Loc), va_P D vwCl (wd.set q0 (a, .inl (cA, N, .inl (upd f i x)))) H1 → va_S A H0 H1 locs1 → W p l e R s m args below meth c H1 locs1 cells slots Q (F0 m (pc + 1) ls rest)) : W p l e R s m args below meth c H locs cells slots Q (F0 m pc ls (.int x :: .int (nI i) :: .ref a :: rest)) := by
  refine va_iast F.1 F.2.1 hK hP hD hS q0 t0 ha ht (vp_in_nI hi hN) hdg (fun H1 l1 h1 _ h3 => ?_)
  rw [nI_clamp (by omega)] at h1
  exact kk H1 l1 h1 h3
end ROWS
end
section
/-! PART 06: what the methods answer, as functions of the state g (0 tolls, 1 carried, 2 shares, 3 dead, 4 coins, 5 earned, 6 parents, 7 the crown's coins), of F ferries and P people. -/
section SPEC
def bI (b : Bool) : Int32 := if b then nI 1 else nI 0
def sl (f w p : Nat) : Nat := (f * 4 + w) * 12 + p
theorem sl_lt {f w p : Nat} (hf : f < 6) (hw : w < 4) (hp : p < 12) : sl f w p < 288 := by unfold sl; omega
def own (g : Nat → Nat → Int32) (f w p : Nat) : Int32 := g 2 (sl f w p)
/-- sums and differences, from the first on -/
def sm (f : Nat → Int32) : Nat → Int32 | 0 => nI 0 | n + 1 => sm f n + f n
def sd (x : Int32) (f : Nat → Int32) : Nat → Int32 | 0 => x | n + 1 => sd x f n - f n
def cn (b : Nat → Bool) : Nat → Nat | 0 => 0 | n + 1 => if b n then cn b n + 1 else cn b n
/-- the first of n from i on, or -1; whether there is one -/
def ff (b : Nat → Bool) : Nat → Nat → Int32 | 0, _ => -1 | n + 1, i => if b i then nI i else ff b n (i + 1)
def an (b : Nat → Bool) : Nat → Nat → Bool | 0, _ => false | n + 1, i => if b i then true else an b n (i + 1)
theorem cn_le (b : Nat → Bool) (n : Nat) : cn b n ≤ n := by
  induction n with
  | zero => exact Nat.le_refl _
  | succ n ih => unfold cn; split <;> omega
def lv (g : Nat → Nat → Int32) (p : Nat) : Bool := decide (g 3 p = 0)
def sCro (g : Nat → Nat → Int32) (P f w : Nat) : Int32 := sd (nI 64) (fun p => own g f w p) P
def sFer (g : Nat → Nat → Int32) (f p : Nat) : Int32 := sm (fun w => own g f w p) 4
def sAll (g : Nat → Nat → Int32) (F p : Nat) : Int32 := sm (fun f => sFer g f p) F
def sMas (g : Nat → Nat → Int32) (P f : Nat) : Int32 := ff (fun p => decide (nI 128 < sFer g f p)) P 0
def sWor (g : Nat → Nat → Int32) (f w : Nat) : Int32 := g 0 f * trf w + nI 1
def sPri (g : Nat → Nat → Int32) (f w s : Nat) : Int32 := own g f w s * sWor g f w
def sOth (g : Nat → Nat → Int32) (P s f w : Nat) (x : Int32) : Bool := an (fun p => decide (p ≠ s) && (decide (0 < own g f w p) && decide (x ≤ g 4 p))) P 0
def sMay (g : Nat → Nat → Int32) (P b s f w : Nat) : Bool := lv g b && (decide (b ≠ s) && (decide (¬ g 4 b < sPri g f w s) && (decide (own g f w s ≠ 0) && (decide (0 < own g f w b) || !(sOth g P s f w (sPri g f w s))))))
def sFar (g : Nat → Nat → Int32) (f w p : Nat) (n : Int32) : Int32 := g 0 f * n * own g f w p / nI 64
def sHlc (g : Nat → Nat → Int32) (P p : Nat) : Bool := an (fun k => lv g k && decide (g 6 k = nI p)) P 0
def sIsH (g : Nat → Nat → Int32) (P o p : Nat) : Bool := lv g o && (decide (o ≠ p) && (if sHlc g P p then decide (g 6 o = nI p) else (decide (g 6 p ≠ -1) && decide (g 6 o = g 6 p))))
def sCHB (g : Nat → Nat → Int32) (P n p : Nat) : Nat := cn (fun o => sIsH g P o p) n
def sCHe (g : Nat → Nat → Int32) (P p : Nat) : Nat := sCHB g P P p
def sFH (g : Nat → Nat → Int32) (P p : Nat) (x : Int32) : Int32 := ff (fun o => sIsH g P o p && decide (nI (cn (fun o => sIsH g P o p) o) = x)) P 0
def sPar (e : Int32) (c k : Nat) : Int32 := if c ≤ 1 then e else if k = 0 then e - e / nI 2 else if nI (k - 1) < e / nI 2 - e / nI 2 / nI (c - 1) * nI (c - 1) then e / nI 2 / nI (c - 1) + nI 1 else e / nI 2 / nI (c - 1)
def sChi (g : Nat → Nat → Int32) (P p : Nat) : Nat := cn (fun k => decide (g 6 k = nI p)) P
def sLiv (g : Nat → Nat → Int32) (P : Nat) : Nat := cn (fun k => lv g k) P
end SPEC
end
section
/-! PART 07: rows over numbers, loops, ends. -/
section ROWS2
variable {p : Program} {l : Launch} {e : Env} {R : Room} {s : State} {m : MethodId} {args : Array Value} {below : List Frame} {meth : Method} {c : Code} {H : Heap} {locs : List Loc} {cells slots : Nat} {Q : State → Prop}
variable {cc : ByteArray} {nL pc : Nat} {rest : List Value} {ls : Array Slot} {Ts : List Cond} {own : String}
theorem nI_inc (i k : Nat) (h : Int32.ofInt (k : Int) = nI k := by rfl) : nI i + Int32.ofInt (k : Int) = nI (i + k) := by rw [h]; exact nI_add i k
theorem r_iadd_n (hexec : p.tables.exec = Jvm.exec) (hb : c.code = cc) {x y : Nat} (hdg : decode cc pc = .ok (.iadd, 1)) (k : W p l e R s m args below meth c H locs cells slots Q (F0 m (pc + 1) ls (.int (nI (x + y)) :: rest))) : W p l e R s m args below meth c H locs cells slots Q (F0 m pc ls (.int (nI y) :: .int (nI x) :: rest)) := by
  refine lv_iadd hexec hb hdg ?_
  rw [nI_add]
  exact k
theorem r_imul_n (hexec : p.tables.exec = Jvm.exec) (hb : c.code = cc) {x y : Nat} (hdg : decode cc pc = .ok (.imul, 1)) (k : W p l e R s m args below meth c H locs cells slots Q (F0 m (pc + 1) ls (.int (nI (x * y)) :: rest))) : W p l e R s m args below meth c H locs cells slots Q (F0 m pc ls (.int (nI y) :: .int (nI x) :: rest)) := by
  refine lv_imul hexec hb hdg ?_
  rw [pk_mul]
  exact k
theorem r_isub_n (hexec : p.tables.exec = Jvm.exec) (hb : c.code = cc) {x y : Nat} (h : y ≤ x) (hdg : decode cc pc = .ok (.isub, 1)) (k : W p l e R s m args below meth c H locs cells slots Q (F0 m (pc + 1) ls (.int (nI (x - y)) :: rest))) : W p l e R s m args below meth c H locs cells slots Q (F0 m pc ls (.int (nI y) :: .int (nI x) :: rest)) := by
  refine lv_isub hexec hb hdg ?_
  rw [pk_sub h]
  exact k
theorem r_idiv_n (hexec : p.tables.exec = Jvm.exec) (hb : c.code = cc) {x y : Nat} (hx : x < 2 ^ 31) (h0 : 0 < y) (hy : y < 2 ^ 31) (hdg : decode cc pc = .ok (.idiv, 1)) (k : W p l e R s m args below meth c H locs cells slots Q (F0 m (pc + 1) ls (.int (nI (x / y)) :: rest))) : W p l e R s m args below meth c H locs cells slots Q (F0 m pc ls (.int (nI y) :: .int (nI x) :: rest)) := by
  refine lv_idiv hexec hb hdg (nI_ne0 h0 hy) ?_
  rw [pk_div hx h0 hy]
  exact k
theorem n_icmp_ge (hexec : p.tables.exec = Jvm.exec) (hb : c.code = cc) {x y : Nat} {off : Int} {tgt : Nat} (hx : x < 2 ^ 31) (hy : y < 2 ^ 31) (hdg : decode cc pc = .ok (.if_icmp .ge off, 3)) (ht : (pc : Int) + off = (tgt : Int)) (kt : y ≤ x → W p l e R s m args below meth c H locs cells slots Q (F0 m tgt ls rest)) (kf : x < y → W p l e R s m args below meth c H locs cells slots Q (F0 m (pc + 3) ls rest)) : W p l e R s m args below meth c H locs cells slots Q (F0 m pc ls (.int (nI y) :: .int (nI x) :: rest)) :=
  lv_icmp_ge hexec hb hdg ht (fun h => kt ((nI_leI hy hx).mp h)) (fun h => kf (Nat.lt_of_not_le fun g => h ((nI_leI hy hx).mpr g)))
theorem n_icmp_lt (hexec : p.tables.exec = Jvm.exec) (hb : c.code = cc) {x y : Nat} {off : Int} {tgt : Nat} (hx : x < 2 ^ 31) (hy : y < 2 ^ 31) (hdg : decode cc pc = .ok (.if_icmp .lt off, 3)) (ht : (pc : Int) + off = (tgt : Int)) (kt : x < y → W p l e R s m args below meth c H locs cells slots Q (F0 m tgt ls rest)) (kf : y ≤ x → W p l e R s m args below meth c H locs cells slots Q (F0 m (pc + 3) ls rest)) : W p l e R s m args below meth c H locs cells slots Q (F0 m pc ls (.int (nI y) :: .int (nI x) :: rest)) :=
  lv_icmp_lt hexec hb hdg ht (fun h => kt ((nI_ltI hx hy).mp h)) (fun h => kf (Nat.le_of_not_lt fun g => h ((nI_ltI hx hy).mpr g)))
theorem n_icmp_gt (hexec : p.tables.exec = Jvm.exec) (hb : c.code = cc) {x y : Nat} {off : Int} {tgt : Nat} (hx : x < 2 ^ 31) (hy : y < 2 ^ 31) (hdg : decode cc pc = .ok (.if_icmp .gt off, 3)) (ht : (pc : Int) + off = (tgt : Int)) (kt : y < x → W p l e R s m args below meth c H locs cells slots Q (F0 m tgt ls rest)) (kf : x ≤ y → W p l e R s m args below meth c H locs cells slots Q (F0 m (pc + 3) ls rest)) : W p l e R s m args below meth c H locs cells slots Q (F0 m pc ls (.int (nI y) :: .int (nI x) :: rest)) :=
  lv_icmp_gt hexec hb hdg ht (fun h => kt ((nI_ltI hy hx).mp h)) (fun h => kf (Nat.le_of_not_lt fun g => h ((nI_ltI hy hx).mpr g)))
theorem n_icmp_le (hexec : p.tables.exec = Jvm.exec) (hb : c.code = cc) {x y : Nat} {off : Int} {tgt : Nat} (hx : x < 2 ^ 31) (hy : y < 2 ^ 31) (hdg : decode cc pc = .ok (.if_icmp .le off, 3)) (ht : (pc : Int) + off = (tgt : Int)) (kt : x ≤ y → W p l e R s m args below meth c H locs cells slots Q (F0 m tgt ls rest)) (kf : y < x → W p l e R s m args below meth c H locs cells slots Q (F0 m (pc + 3) ls rest)) : W p l e R s m args below meth c H locs cells slots Q (F0 m pc ls (.int (nI y) :: .int (nI x) :: rest)) :=
  lv_icmp_le hexec hb hdg ht (fun h => kt ((nI_leI hx hy).mp h)) (fun h => kf (Nat.lt_of_not_le fun g => h ((nI_leI hx hy).mpr g)))
theorem n_icmp_eq (hexec : p.tables.exec = Jvm.exec) (hb : c.code = cc) {x y : Nat} {off : Int} {tgt : Nat} (hx : x < 2 ^ 31) (hy : y < 2 ^ 31) (hdg : decode cc pc = .ok (.if_icmp .eq off, 3)) (ht : (pc : Int) + off = (tgt : Int)) (kt : x = y → W p l e R s m args below meth c H locs cells slots Q (F0 m tgt ls rest)) (kf : x ≠ y → W p l e R s m args below meth c H locs cells slots Q (F0 m (pc + 3) ls rest)) : W p l e R s m args below meth c H locs cells slots Q (F0 m pc ls (.int (nI y) :: .int (nI x) :: rest)) :=
  lv_icmp_eq hexec hb hdg ht (fun h => kt ((nI_eq hx hy).mp h)) (fun h => kf fun g => h ((nI_eq hx hy).mpr g))
theorem n_icmp_ne (hexec : p.tables.exec = Jvm.exec) (hb : c.code = cc) {x y : Nat} {off : Int} {tgt : Nat} (hx : x < 2 ^ 31) (hy : y < 2 ^ 31) (hdg : decode cc pc = .ok (.if_icmp .ne off, 3)) (ht : (pc : Int) + off = (tgt : Int)) (kt : x ≠ y → W p l e R s m args below meth c H locs cells slots Q (F0 m tgt ls rest)) (kf : x = y → W p l e R s m args below meth c H locs cells slots Q (F0 m (pc + 3) ls rest)) : W p l e R s m args below meth c H locs cells slots Q (F0 m pc ls (.int (nI y) :: .int (nI x) :: rest)) :=
  lv_icmp_ne hexec hb hdg ht (fun h => kt fun g => h ((nI_eq hx hy).mpr g)) (fun h => kf ((nI_eq hx hy).mp h))
theorem n_if_ne (hexec : p.tables.exec = Jvm.exec) (hb : c.code = cc) {x : Nat} {off : Int} {tgt : Nat} (hx : x < 2 ^ 31) (hdg : decode cc pc = .ok (.ifCond .ne off, 3)) (ht : (pc : Int) + off = (tgt : Int)) (kt : x ≠ 0 → W p l e R s m args below meth c H locs cells slots Q (F0 m tgt ls rest)) (kf : x = 0 → W p l e R s m args below meth c H locs cells slots Q (F0 m (pc + 3) ls rest)) : W p l e R s m args below meth c H locs cells slots Q (F0 m pc ls (.int (nI x) :: rest)) :=
  lv_if_ne hexec hb hdg ht (fun h => kt fun g => h (by rw [g]; rfl)) (fun h => kf ((nI_eq hx (by decide)).mp (h.trans nI_0.symm)))
theorem n_if_eq (hexec : p.tables.exec = Jvm.exec) (hb : c.code = cc) {x : Nat} {off : Int} {tgt : Nat} (hx : x < 2 ^ 31) (hdg : decode cc pc = .ok (.ifCond .eq off, 3)) (ht : (pc : Int) + off = (tgt : Int)) (kt : x = 0 → W p l e R s m args below meth c H locs cells slots Q (F0 m tgt ls rest)) (kf : x ≠ 0 → W p l e R s m args below meth c H locs cells slots Q (F0 m (pc + 3) ls rest)) : W p l e R s m args below meth c H locs cells slots Q (F0 m pc ls (.int (nI x) :: rest)) :=
  lv_if_eq hexec hb hdg ht (fun h => kt ((nI_eq hx (by decide)).mp (h.trans nI_0.symm))) (fun h => kf fun g => h (by rw [g]; rfl))
theorem n_if_le (hexec : p.tables.exec = Jvm.exec) (hb : c.code = cc) {x : Nat} {off : Int} {tgt : Nat} (hx : x < 2 ^ 31) (hdg : decode cc pc = .ok (.ifCond .le off, 3)) (ht : (pc : Int) + off = (tgt : Int)) (kt : x = 0 → W p l e R s m args below meth c H locs cells slots Q (F0 m tgt ls rest)) (kf : x ≠ 0 → W p l e R s m args below meth c H locs cells slots Q (F0 m (pc + 3) ls rest)) : W p l e R s m args below meth c H locs cells slots Q (F0 m pc ls (.int (nI x) :: rest)) :=
  lv_if_le hexec hb hdg ht (fun h => kt (by
    rcases Nat.eq_zero_or_pos x with g | g
    · exact g
    · exact absurd h (nI_nle g hx))) (fun h => kf fun g => h (by rw [g]; decide))
theorem bI_0 (b : Bool) : bI b = 0 ↔ b = false := by cases b <;> decide
theorem b_if_eq (hexec : p.tables.exec = Jvm.exec) (hb : c.code = cc) {x : Bool} {off : Int} {tgt : Nat} (hdg : decode cc pc = .ok (.ifCond .eq off, 3)) (ht : (pc : Int) + off = (tgt : Int)) (kt : x = false → W p l e R s m args below meth c H locs cells slots Q (F0 m tgt ls rest)) (kf : x = true → W p l e R s m args below meth c H locs cells slots Q (F0 m (pc + 3) ls rest)) : W p l e R s m args below meth c H locs cells slots Q (F0 m pc ls (.int (bI x) :: rest)) :=
  lv_if_eq hexec hb hdg ht (fun h => kt ((bI_0 x).mp h)) (fun h => kf (by cases x with | true => rfl | false => exact absurd ((bI_0 false).mpr rfl) h))
theorem b_if_ne (hexec : p.tables.exec = Jvm.exec) (hb : c.code = cc) {x : Bool} {off : Int} {tgt : Nat} (hdg : decode cc pc = .ok (.ifCond .ne off, 3)) (ht : (pc : Int) + off = (tgt : Int)) (kt : x = true → W p l e R s m args below meth c H locs cells slots Q (F0 m tgt ls rest)) (kf : x = false → W p l e R s m args below meth c H locs cells slots Q (F0 m (pc + 3) ls rest)) : W p l e R s m args below meth c H locs cells slots Q (F0 m pc ls (.int (bI x) :: rest)) :=
  lv_if_ne hexec hb hdg ht (fun h => kt (by cases x with | true => rfl | false => exact absurd ((bI_0 false).mpr rfl) h)) (fun h => kf ((bI_0 x).mp h))
/-- a loop over i = 0 .. N-1 that writes nothing; L: the locals, I: what else holds -/
theorem rloop {N : Nat} (I : Nat → Prop) (L : Nat → List (Nat × Value)) (h0 : I 0) (hl : lv_has ls nL (L 0))
    (hx : I N → ∀ ls : Array Slot, lv_has ls nL (L N) → W p l e R s m args below meth c H locs cells slots Q (F0 m pc ls rest))
    (hs : ∀ i : Nat, i < N → I i → (I (i + 1) → ∀ ls : Array Slot, lv_has ls nL (L (i + 1)) → W p l e R s m args below meth c H locs cells slots Q (F0 m pc ls rest)) → ∀ ls : Array Slot, lv_has ls nL (L i) → W p l e R s m args below meth c H locs cells slots Q (F0 m pc ls rest)) :
    W p l e R s m args below meth c H locs cells slots Q (F0 m pc ls rest) := by
  have key : ∀ n i : Nat, i + n = N → I i → ∀ ls : Array Slot, lv_has ls nL (L i) → W p l e R s m args below meth c H locs cells slots Q (F0 m pc ls rest) := by
    intro n
    induction n with
    | zero =>
      intro i hi h ls hl
      have : i = N := by omega
      subst this
      exact hx h ls hl
    | succ n ih =>
      intro i hi h ls hl
      exact hs i (by omega) h (fun h ls hl => ih (i + 1) (by omega) h ls hl) ls hl
  exact key N 0 (by omega) h0 ls hl
/-- .. that writes: Pw: the world -/
theorem wloop {N : Nat} {A0 : Nat → Prop} {H0 : Heap} (I : Nat → Prop) (L : Nat → List (Nat × Value)) (Pw : Nat → Heap → Prop) (h0 : I 0) (hp0 : Pw 0 H) (hS0 : va_S A0 H0 H locs) (hl : lv_has ls nL (L 0))
    (hx : I N → ∀ (H : Heap) (locs : List Loc) (ls : Array Slot), Pw N H → va_S A0 H0 H locs → lv_has ls nL (L N) → W p l e R s m args below meth c H locs cells slots Q (F0 m pc ls rest))
    (hs : ∀ i : Nat, i < N → I i → (I (i + 1) → ∀ (H : Heap) (locs : List Loc) (ls : Array Slot), Pw (i + 1) H → va_S A0 H0 H locs → lv_has ls nL (L (i + 1)) → W p l e R s m args below meth c H locs cells slots Q (F0 m pc ls rest)) → ∀ (H : Heap) (locs : List Loc) (ls : Array Slot), Pw i H → va_S A0 H0 H locs → lv_has ls nL (L i) → W p l e R s m args below meth c H locs cells slots Q (F0 m pc ls rest)) :
    W p l e R s m args below meth c H locs cells slots Q (F0 m pc ls rest) := by
  have key : ∀ n i : Nat, i + n = N → I i → ∀ (H : Heap) (locs : List Loc) (ls : Array Slot), Pw i H → va_S A0 H0 H locs → lv_has ls nL (L i) → W p l e R s m args below meth c H locs cells slots Q (F0 m pc ls rest) := by
    intro n
    induction n with
    | zero =>
      intro i hi h H locs ls hp hS hl
      have : i = N := by omega
      subst this
      exact hx h H locs ls hp hS hl
    | succ n ih =>
      intro i hi h H locs ls hp hS hl
      exact hs i (by omega) h (fun h H locs ls hp hS hl => ih (i + 1) (by omega) h H locs ls hp hS hl) H locs ls hp hS hl
  exact key N 0 (by omega) h0 H locs ls hp0 hS0 hl
theorem nin {P : Loc → Prop} : ∀ q ∈ ([] : List Loc), P q := fun _ h => absurd h List.not_mem_nil
theorem r_iret {v x : Int32} (hexec : p.tables.exec = Jvm.exec) (hb : c.code = cc) (hr : meth.sig.returnType = some .int) (hlocks : meth.locks = false) (h : x = v) (hdg : decode cc pc = .ok (.ireturn, 1)) : W p l e R s m args below meth c s.heap [] 0 0 (MQ below (RQ (some (.int v))) args s 0 0 none_) (F0 m pc ls [.int x]) := by
  subst h
  exact W.iret hexec hb hr (fun t ht _ => ⟨rfl, ht⟩) nin hdg hlocks
theorem nar_bI (b : Bool) : narrow .boolean (.int (bI b)) = .int (bI b) := by cases b <;> rfl
theorem r_zret {b : Bool} {x : Int32} (hexec : p.tables.exec = Jvm.exec) (hb : c.code = cc) (hr : meth.sig.returnType = some .boolean) (hlocks : meth.locks = false) (h : x = bI b) (hdg : decode cc pc = .ok (.ireturn, 1)) : W p l e R s m args below meth c s.heap [] 0 0 (MQ below (RQ (some (.int (bI b)))) args s 0 0 none_) (F0 m pc ls [.int x]) := by
  subst h
  exact W.zret hexec hb hr (nar_bI b) (fun t ht _ => ⟨rfl, ht⟩) nin hdg hlocks
theorem r_lret {v x : Int64} (hexec : p.tables.exec = Jvm.exec) (hb : c.code = cc) (hr : meth.sig.returnType = some .long) (hlocks : meth.locks = false) (h : x = v) (hdg : decode cc pc = .ok (.lreturn, 1)) : W p l e R s m args below meth c s.heap [] 0 0 (MQ below (RQ (some (.long v))) args s 0 0 none_) (F0 m pc ls [.long x]) := by
  subst h
  exact W.lret hexec hb hr (fun t ht _ => ⟨rfl, ht⟩) nin hdg hlocks
theorem r_vret (hexec : p.tables.exec = Jvm.exec) (hb : c.code = cc) (hr : meth.sig.returnType = none) (hlocks : meth.locks = false) (hdg : decode cc pc = .ok (.return_, 1)) : W p l e R s m args below meth c s.heap [] 0 0 (MQ below (RQ none) args s 0 0 none_) (F0 m pc ls []) :=
  W.vret hexec hb hr (fun t ht _ => ⟨rfl, ht⟩) nin hdg hlocks
/-- ends of methods that write -/
theorem w_iret {v x : Int32} {P1 : Heap → Prop} {Ad : Nat → Prop} (hexec : p.tables.exec = Jvm.exec) (hb : c.code = cc) (hr : meth.sig.returnType = some .int) (hlocks : meth.locks = false) (hS : va_S Ad s.heap H locs) (hp : P1 H) (h : x = v) (hdg : decode cc pc = .ok (.ireturn, 1)) : W p l e R s m args below meth c H locs 0 0 (MQ below (WQ (some (.int v)) P1 Ad) args s 0 0 Ad) (F0 m pc ls [.int x]) := by
  subst h
  exact W.iret hexec hb hr (fun t ht _ => ⟨rfl, by rw [ht]; exact hp, hS.F ht⟩) hS.2.2 hdg hlocks
theorem w_zret {b : Bool} {x : Int32} {P1 : Heap → Prop} {Ad : Nat → Prop} (hexec : p.tables.exec = Jvm.exec) (hb : c.code = cc) (hr : meth.sig.returnType = some .boolean) (hlocks : meth.locks = false) (hS : va_S Ad s.heap H locs) (hp : P1 H) (h : x = bI b) (hdg : decode cc pc = .ok (.ireturn, 1)) : W p l e R s m args below meth c H locs 0 0 (MQ below (WQ (some (.int (bI b))) P1 Ad) args s 0 0 Ad) (F0 m pc ls [.int x]) := by
  subst h
  exact W.zret hexec hb hr (nar_bI b) (fun t ht _ => ⟨rfl, by rw [ht]; exact hp, hS.F ht⟩) hS.2.2 hdg hlocks
theorem w_lret {v x : Int64} {P1 : Heap → Prop} {Ad : Nat → Prop} (hexec : p.tables.exec = Jvm.exec) (hb : c.code = cc) (hr : meth.sig.returnType = some .long) (hlocks : meth.locks = false) (hS : va_S Ad s.heap H locs) (hp : P1 H) (h : x = v) (hdg : decode cc pc = .ok (.lreturn, 1)) : W p l e R s m args below meth c H locs 0 0 (MQ below (WQ (some (.long v)) P1 Ad) args s 0 0 Ad) (F0 m pc ls [.long x]) := by
  subst h
  exact W.lret hexec hb hr (fun t ht _ => ⟨rfl, by rw [ht]; exact hp, hS.F ht⟩) hS.2.2 hdg hlocks
theorem w_vret {P1 : Heap → Prop} {Ad : Nat → Prop} (hexec : p.tables.exec = Jvm.exec) (hb : c.code = cc) (hr : meth.sig.returnType = none) (hlocks : meth.locks = false) (hS : va_S Ad s.heap H locs) (hp : P1 H) (hdg : decode cc pc = .ok (.return_, 1)) : W p l e R s m args below meth c H locs 0 0 (MQ below (WQ none P1 Ad) args s 0 0 Ad) (F0 m pc ls []) :=
  W.vret hexec hb hr (fun t ht _ => ⟨rfl, by rw [ht]; exact hp, hS.F ht⟩) hS.2.2 hdg hlocks
/-- ends of the face's methods, which return or throw: k: 0 or the number of what is thrown -/
def PQ (k : Nat) (v : Option Value) (P1 : Heap → Prop) (Ad : Nat → Prop) : Array Value → State → Outcome → State → Prop := fun _ st o t => k = 0 ∧ o = .returned v ∧ P1 t.heap ∧ va_F Ad st t
def PX (k : Nat) (xs : List String) : String → State → State → Prop := fun E st t => (∃ j, k = j + 1 ∧ xs[j]? = some E) ∧ hkep st.heap t.heap
variable {k : Nat} {P1 : Heap → Prop} {Ad : Nat → Prop} {xs : List String}
theorem p_iret {v x : Int32} (hexec : p.tables.exec = Jvm.exec) (hb : c.code = cc) (hr : meth.sig.returnType = some .int) (hlocks : meth.locks = false) (hS : va_S Ad s.heap H locs) (hp : P1 H) (hk : k = 0) (h : x = v) (hc : cells ≤ 1) (hs : slots ≤ 6) (hdg : decode cc pc = .ok (.ireturn, 1)) : W p l e R s m args below meth c H locs cells slots (vx_MQ below (PQ k (some (.int v)) P1 Ad) (PX k xs) args s 1 6 Ad) (F0 m pc ls [.int x]) := by
  subst h
  exact W.widen hc hs (vx_ret (W.iret hexec hb hr (fun t ht _ => ⟨hk, rfl, by rw [ht]; exact hp, hS.F ht⟩) hS.2.2 hdg hlocks))
theorem p_zret {b : Bool} {x : Int32} (hexec : p.tables.exec = Jvm.exec) (hb : c.code = cc) (hr : meth.sig.returnType = some .boolean) (hlocks : meth.locks = false) (hS : va_S Ad s.heap H locs) (hp : P1 H) (hk : k = 0) (h : x = bI b) (hc : cells ≤ 1) (hs : slots ≤ 6) (hdg : decode cc pc = .ok (.ireturn, 1)) : W p l e R s m args below meth c H locs cells slots (vx_MQ below (PQ k (some (.int (bI b))) P1 Ad) (PX k xs) args s 1 6 Ad) (F0 m pc ls [.int x]) := by
  subst h
  exact W.widen hc hs (vx_ret (W.zret hexec hb hr (nar_bI b) (fun t ht _ => ⟨hk, rfl, by rw [ht]; exact hp, hS.F ht⟩) hS.2.2 hdg hlocks))
/-- what a callee has thrown goes on to the caller; nothing was written so far -/
theorem p_out {Qc : Array Value → State → Outcome → State → Prop} {E : String} {ce : Cell} {q9 : Addr} {H1 : Heap} (hex : ∀ x ∈ c.exceptionTable.toList, False) (hlocks : meth.locks = false) (hh : hkep s.heap H1) (hce : H1[q9]? = some ce) (hcv : ce.vm = .none) (hcl : s.vm.findClass E = some ce.cls) (hk : ∃ j, k = j + 1 ∧ xs[j]? = some E) (hc : cells ≤ 1) (hs : slots ≤ 6) :
    vx_W p l e R s m args below meth c H1 [] cells slots (vx_MQ below Qc (PX k xs) args s 1 6 Ad) (F0 m pc ls rest) q9 :=
  vx_out (fun x h => (hex x h).elim) hlocks hce hcv hcl (fun t ht _ => ⟨hk, by rw [ht]; exact hh⟩) nin hc hs
theorem x_out {E : String} {ce : Cell} {q9 : Addr} {H1 : Heap} (hex : ∀ x ∈ c.exceptionTable.toList, False) (hlocks : meth.locks = false) (hh : hkep s.heap H1) (hce : H1[q9]? = some ce) (hcv : ce.vm = .none) (hcl : s.vm.findClass E = some ce.cls) (hc : cells ≤ 1) (hs : slots ≤ 6) :
    vx_W p l e R s m args below meth c H1 [] cells slots (vx_MQ below FF (XQ E) args s 1 6 none_) (F0 m pc ls rest) q9 :=
  vx_out (fun x h => (hex x h).elim) hlocks hce hcv hcl (fun t ht _ => ⟨rfl, by rw [ht]; exact hh⟩) nin hc hs
end ROWS2
end
section
/-! PART 08: 'throw new E("text")' in a method of FerryRights. -/
section THROW
abbrev inR (a : Int32) (N : Nat) : Prop := 0 ≤ a ∧ a < nI N
theorem inR_of {a : Int32} {N : Nat} (h : inR a N) (hN : N < 2 ^ 31) : ∃ j : Nat, j < N ∧ a = nI j := by
  obtain ⟨j, h1, h2⟩ := nI_of (x := a) (fun g => absurd h.1 (Int32.not_le.mpr g))
  subst h2
  exact ⟨j, (nI_ltI h1 hN).mp h.2, rfl⟩
theorem inR_nI {j N : Nat} (h : j < N) (hN : N < 2 ^ 31) : inR (nI j) N := ⟨nI_pos' (by omega), nI_lt h hN⟩
def nms : List String := ["java/lang/RuntimeException", "java/lang/Exception"]
def ics : List (Nat × String) := [(50, xIS), (70, xIA), (164, xIO)]
theorem ics_fit : ∀ x ∈ ics, Bundle.fit x.2 = true ∧ x.2 ∈ exs3 := by decide +kernel
theorem nms_fit : ∀ x ∈ nms, Bundle.fit x = true := by decide +kernel
theorem ics_ot : ∀ x ∈ ics, ∀ w ∈ vx_atS RX0 x.1 x.2 nms, vx_ot w = true := by decide +kernel
theorem ics_ng : ∀ x ∈ ics, ∀ w ∈ (vx_atS RX0 x.1 x.2 nms).filter (fun w => !goodWord w), w ∈ Cond.castable x.2 x.2 :: dnm.map (fun n => Cond.declares (Bundle.initS n)) := by decide +kernel
variable {p : Program} {l : Launch} {e : Env} {R : Room} {s : State} {m : MethodId} {args : Array Value} {below : List Frame} {meth : Method} {c : Code} {H : Heap} {locs : List Loc} {cells slots : Nat} {Q : State → Prop}
variable {cc : ByteArray} {nL pc : Nat} {rest : List Value} {ls : Array Slot} {Ts : List Cond} {own : String}
theorem x0_throw {Qc : Array Value → State → Outcome → State → Prop} {XC : String → State → State → Prop} {A free : Nat → Prop} {ik is ic : Nat} {cls text : String} (F : CallFix p m c cc nL s args Ts RX0) (hl : l.stackTraces = false) (hE : EV A s s.heap) (hS : va_S A s.heap H locs) (hex : ∀ x ∈ c.exceptionTable.toList, False) (hlocks : meth.locks = false)
    (hic : (ic, cls) ∈ ics) (hstr : (is, text) ∈ strs) (hmk : Cond.classLink RX0 ik cls ∈ Ts) (hmi : Cond.initialized cls ∈ Ts) (hat : ∀ w ∈ (vx_atS RX0 ic cls nms).filter goodWord, w ∈ Ts) (hsize : ls.size = nL)
    (d0 : decode cc pc = .ok (.new ik, 3)) (d3 : decode cc (pc + 3) = .ok (.dup, 1)) (d4 : decode cc (pc + 4) = .ok (.ldc is, 2)) (d6 : decode cc (pc + 6) = .ok (.invokespecial ic, 3)) (d9 : decode cc (pc + 9) = .ok (.athrow, 1))
    (hRf : 5 < R.frames) (hRl : (rest.map fun v => v.category).sum + 82 ≤ R.locals) (hRc : cells + 1 ≤ R.cells) (hRs : slots + 6 ≤ R.slots)
    (hx : ∀ t : State, hkep H t.heap → XC cls s t) (hf : ∀ z ∈ locs, free z.base) (hc : cells + 1 ≤ 1) (hs : slots + 6 ≤ 6) : W p l e R s m args below meth c H locs cells slots (vx_MQ below Qc XC args s 1 6 free) (F0 m pc ls rest) := by
  have hw := F.2.2.2.2
  obtain ⟨f1, f2⟩ := ics_fit _ hic
  obtain ⟨sa, hsa⟩ := hE.2.2.1 _ hstr
  have hall : ∀ w ∈ vx_atS RX0 ic cls nms, w.before args s = true := vx_hat (fun w h => hw w (hat w h)) (ics_ng _ hic) (vx_c (va_Nw.use rfl (hE.2.1.1 _ f2)) (fun w h => by
    obtain ⟨n, hn, rfl⟩ := List.mem_map.mp h
    exact va_Nw.use rfl (hE.2.1.2 _ hn)))
  refine vx_throwS F.1 F.2.1 hl F.2.2.2.1 (names := nms) f1 nms_fit (hw _ hmk) (hw _ hmi) hsa hall ?_ hE.1.1 hE.1.2 hS (hsize.trans F.2.2.1.symm) d0 d3 d4 d6 d9 (fun x h => (hex x h).elim) hRf hRl hRc hRs hlocks (fun t _ h1 h2 => hx t ⟨h1, h2⟩) hf hc hs
  intro w h
  rcases List.mem_cons.mp h with rfl | h
  · rfl
  · rcases List.mem_cons.mp h with rfl | h
    · rfl
    · exact ics_ot _ hic w h
end THROW
end
section
/-! PART 09: who is alive; the table of the traffic; rows for booleans. -/
section ROWS3
theorem alv_b {P : Nat} {g : Nat → Nat → Int32} {i : Nat} (hi : i < P) : alv P (g 3) i = bI (lv g i) := by
  unfold alv bI lv
  rw [if_pos hi]
  by_cases h : g 3 i = 0 <;> simp [h] <;> rfl
variable {p : Program} {l : Launch} {e : Env} {R : Room} {s : State} {m : MethodId} {args : Array Value} {below : List Frame} {meth : Method} {c : Code} {H : Heap} {locs : List Loc} {cells slots : Nat} {Q : State → Prop}
variable {cc : ByteArray} {nL pc : Nat} {rest : List Value} {ls : Array Slot} {Ts : List Cond} {own : String}
theorem r_alive {D : va_G} {ci cz : ClassId} {cj : ClassId × ClassId} {q : Nat → Nat} {F P : Nat} {g : Nat → Nat → Int32} (Fx : CallFix p m c cc nL s args Ts own) (hK : va_K D vwCl (tyL ci cz cj) s) (hP : va_P D vwCl (w0 ci cz q F P g) H) {i : Nat} (hi : i < P) (hN : P ≤ 12) (hdg : decode cc pc = .ok (.baload, 1))
    (kk : W p l e R s m args below meth c H locs cells slots Q (F0 m (pc + 1) ls (.int (bI (lv g i)) :: rest))) : W p l e R s m args below meth c H locs cells slots Q (F0 m pc ls (.int (nI i) :: .ref (q 4) :: rest)) := by
  refine r_zald Fx hK hP 4 1 rfl rfl (i := i) (by omega) (by decide) hdg ?_
  rw [alv_b hi]
  exact kk
theorem r_tr {t : Nat} {A : Nat → Prop} (Fx : CallFix p m c cc nL s args Ts own) (hT : va_T .int t 4 (fun j => .int (trf j)) A s s.heap) (hS : va_S A s.heap H locs) {i : Nat} (hi : i < 4) (hdg : decode cc pc = .ok (.iaload, 1))
    (kk : W p l e R s m args below meth c H locs cells slots Q (F0 m (pc + 1) ls (.int (trf i) :: rest))) : W p l e R s m args below meth c H locs cells slots Q (F0 m pc ls (.int (nI i) :: .ref t :: rest)) :=
  va_ti Fx.1 Fx.2.1 hT hS (vp_in_nI hi (by decide)) (congrArg (fun j => Value.int (trf j)) (nI_clamp (by omega))) hdg kk
theorem r_zast {D : va_G} {wd : va_W} {tys : List (ClassId × FieldType)} {a N : Nat} {cA : ClassId} {f : Nat → Int32} {x : Int32} {A : Nat → Prop} {H0 : Heap} (F : CallFix p m c cc nL s args Ts own) (hK : va_K D vwCl tys s) (hP : va_P D vwCl wd H) (hD : va_D A wd) (hS : va_S A H0 H locs) (q0 t0 : Nat) (ha : wd[q0]? = some (a, .inl (cA, N, .inl f))) (ht : tys[t0]? = some (cA, .boolean)) {i : Nat} (hi : i < N) (hN : N < 2 ^ 31) (hx : vp_nar .boolean x = x) (hdg : decode cc pc = .ok (.bastore, 1))
    (kk : ∀ (H1 : Heap) (locs1 : List Loc), va_P D vwCl (wd.set q0 (a, .inl (cA, N, .inl (upd f i x)))) H1 → va_S A H0 H1 locs1 → W p l e R s m args below meth c H1 locs1 cells slots Q (F0 m (pc + 1) ls rest)) : W p l e R s m args below meth c H locs cells slots Q (F0 m pc ls (.int x :: .int (nI i) :: .ref a :: rest)) := by
  refine va_zast F.1 F.2.1 hK hP hD hS q0 t0 ha ht (vp_in_nI hi hN) hdg (fun H1 l1 h1 _ h3 => ?_)
  rw [nI_clamp (by omega), hx] at h1
  exact kk H1 l1 h1 h3
theorem n_if_lt (hexec : p.tables.exec = Jvm.exec) (hb : c.code = cc) {x : Nat} {off : Int} (hx : x < 2 ^ 31) (hdg : decode cc pc = .ok (.ifCond .lt off, 3)) (ht : ∃ tgt : Nat, (pc : Int) + off = (tgt : Int)) (kf : W p l e R s m args below meth c H locs cells slots Q (F0 m (pc + 3) ls rest)) : W p l e R s m args below meth c H locs cells slots Q (F0 m pc ls (.int (nI x) :: rest)) := by
  obtain ⟨tgt, ht⟩ := ht
  exact lv_if_lt hexec hb hdg ht (fun h => absurd h (nI_pos hx)) (fun _ => kf)
end ROWS3
section SEARCH
theorem all_0 {P : Nat → Prop} : ∀ z, z < 0 → P z := fun _ h => absurd h (Nat.not_lt_zero _)
theorem all_s {P : Nat → Prop} {i : Nat} (h : ∀ z, z < i → P z) (hi : P i) : ∀ z, z < i + 1 → P z := by
  intro z hz
  rcases Nat.lt_or_ge z i with h1 | h1
  · exact h z h1
  · have : z = i := by omega
    subst this
    exact hi
theorem ff_no (b : Nat → Bool) : ∀ n i, (∀ z, i ≤ z → z < i + n → b z = false) → ff b n i = -1
  | 0, _, _ => rfl
  | n + 1, i, h => by
    unfold ff
    rw [h i (Nat.le_refl _) (by omega)]
    exact ff_no b n (i + 1) (fun z h1 h2 => h z (by omega) (by omega))
theorem ff_yes (b : Nat → Bool) (k : Nat) : ∀ n i, i ≤ k → k < i + n → (∀ z, i ≤ z → z < k → b z = false) → b k = true → ff b n i = nI k
  | 0, i, h1, h2, _, _ => by omega
  | n + 1, i, h1, h2, h, hk => by
    unfold ff
    by_cases hik : i = k
    · subst hik
      rw [hk]
      rfl
    · rw [h i (Nat.le_refl _) (by omega)]
      exact ff_yes b k n (i + 1) (by omega) (by omega) (fun z h3 h4 => h z (by omega) h4) hk
theorem ff_none {b : Nat → Bool} {N : Nat} (h : ∀ z, z < N → b z = false) : ff b N 0 = -1 := ff_no b N 0 (fun z _ h2 => h z (by omega))
theorem ff_some {b : Nat → Bool} {N k : Nat} (h : ∀ z, z < k → b z = false) (hk : b k = true) (hN : k < N) : ff b N 0 = nI k := ff_yes b k N 0 (Nat.zero_le _) (by omega) (fun z _ h2 => h z h2) hk
theorem an_no (b : Nat → Bool) : ∀ n i, (∀ z, i ≤ z → z < i + n → b z = false) → an b n i = false
  | 0, _, _ => rfl
  | n + 1, i, h => by
    unfold an
    rw [h i (Nat.le_refl _) (by omega)]
    exact an_no b n (i + 1) (fun z h1 h2 => h z (by omega) (by omega))
theorem an_yes (b : Nat → Bool) (k : Nat) : ∀ n i, i ≤ k → k < i + n → b k = true → an b n i = true
  | 0, i, h1, h2, _ => by omega
  | n + 1, i, h1, h2, hk => by
    unfold an
    by_cases hik : i = k
    · subst hik
      rw [hk]
      rfl
    · by_cases hb : b i = true
      · rw [hb]
        rfl
      · rw [Bool.not_eq_true] at hb
        rw [hb]
        exact an_yes b k n (i + 1) (by omega) (by omega) hk
theorem an_none {b : Nat → Bool} {N : Nat} (h : ∀ z, z < N → b z = false) : an b N 0 = false := an_no b N 0 (fun z _ h2 => h z (by omega))
theorem an_some {b : Nat → Bool} {N k : Nat} (hk : b k = true) (hN : k < N) : an b N 0 = true := an_yes b k N 0 (Nat.zero_le _) (by omega) hk
end SEARCH
end
section
/-! FerryRights, I -/
set_option maxHeartbeats 4000000 in
set_option maxRecDepth 100000 in
theorem m_X0_slot (l : Launch) {D : va_G} {ci cz : ClassId} {cj : ClassId × ClassId} {q : Nat → Nat} {F P : Nat} {g : Nat → Nat → Int32} (hF : F ≤ 6) (hP12 : P ≤ 12) (f : Nat) (w : Nat) (k : Nat) : Met l yX0_slot wsX0_slot ({ frames := 0, cells := 0, slots := 0, locals := 0 } : Room) (va_Pc [.int (nI f), .int (nI w), .int (nI k)] (B0 D ci cz cj q F P g)) (RQ (some (.int (nI (sl f w k))))) 0 0 none_ := by
  refine Met.ofR (cc := cX0_slot) (maxL := 3) (ret := (some .int)) (by decide) rfl (Nat.le_of_ble_eq_true rfl) ?_
  intro pg en s m bl mt cd ls Fx hr hlocks hB hl
  obtain ⟨hP, hK, hE⟩ := hB
  have hl : lv_has ls 3 [(0, .int (nI f)), (1, .int (nI w)), (2, .int (nI k))] := hl
  have Fx : CallFix pg m cd cX0_slot 3 s _ wsX0_slot RX0 := Fx
  have hx := Fx.1
  have hb := Fx.2.1
  have hS : va_S (aw q 8) s.heap s.heap [] := va_S.rf
  have hP : va_P D vwCl (w0 ci cz q F P g) s.heap := hP
  refine lv_iload_n hx hb dX0_slot_0 rfl (lv_at hl 0 rfl) ?_
  refine lv_iconst (v := nI 4) hx hb dX0_slot_1 (by decide) ?_
  refine r_imul_n hx hb dX0_slot_2 ?_
  refine lv_iload_n hx hb dX0_slot_3 rfl (lv_at hl 1 rfl) ?_
  refine r_iadd_n hx hb dX0_slot_4 ?_
  refine lv_bipush (v := nI 12) hx hb dX0_slot_5 (by decide) ?_
  refine r_imul_n hx hb dX0_slot_7 ?_
  refine lv_iload_n hx hb dX0_slot_8 rfl (lv_at hl 2 rfl) ?_
  refine r_iadd_n hx hb dX0_slot_9 ?_
  exact r_iret hx hb hr hlocks (rfl) dX0_slot_10
set_option maxHeartbeats 4000000 in
set_option maxRecDepth 100000 in
theorem m_X0_owns (l : Launch) {D : va_G} {ci cz : ClassId} {cj : ClassId × ClassId} {q : Nat → Nat} {F P : Nat} {g : Nat → Nat → Int32} (hF : F ≤ 6) (hP12 : P ≤ 12) (f : Nat) (w : Nat) (k : Nat) (ha0 : f < 6) (ha1 : w < 4) (ha2 : k < 12) : Met l yX0_owns wsX0_owns ({ frames := 1, cells := 0, slots := 0, locals := 22 } : Room) (va_Pc [.ref (q 0), .int (nI f), .int (nI w), .int (nI k)] (B0 D ci cz cj q F P g)) (RQ (some (.int (own g f w k)))) 0 0 none_ := by
  refine Met.ofR (cc := cX0_owns) (maxL := 4) (ret := (some .int)) (by decide) rfl (Nat.le_of_ble_eq_true rfl) ?_
  intro pg en s m bl mt cd ls Fx hr hlocks hB hl
  obtain ⟨hP, hK, hE⟩ := hB
  have hl : lv_has ls 4 [(0, .ref (q 0)), (1, .int (nI f)), (2, .int (nI w)), (3, .int (nI k))] := hl
  have Fx : CallFix pg m cd cX0_owns 4 s _ wsX0_owns RX0 := Fx
  have hx := Fx.1
  have hb := Fx.2.1
  have hin : ∀ w ∈ wsX00, w ∈ wsX0_owns := by decide +kernel
  have hS : va_S (aw q 8) s.heap s.heap [] := va_S.rf
  have hP : va_P D vwCl (w0 ci cz q F P g) s.heap := hP
  refine lv_aload_n hx hb dX0_owns_0 rfl (lv_at hl 0 rfl) ?_
  refine r_get Fx hin hK hP 0 rfl 3 (by decide) (by decide +kernel) rfl rfl dX0_owns_1 ?_
  refine lv_iload_n hx hb dX0_owns_4 rfl (lv_at hl 1 rfl) ?_
  refine lv_iload_n hx hb dX0_owns_5 rfl (lv_at hl 2 rfl) ?_
  refine lv_iload_n hx hb dX0_owns_6 rfl (lv_at hl 3 rfl) ?_
  refine r_callRS (rest := [.ref (q 3)]) Fx (m_X0_slot l (D := D) (ci := ci) (cz := cz) (cj := cj) (q := q) (F := F) (P := P) (g := g) hF hP12 f w k ) (va_cwS 3 Fx.2.2.2.2 gX0_owns_X0_slot rfl rfl rfl (by decide +kernel) ⟨Nat.le_of_ble_eq_true rfl, Nat.le_of_ble_eq_true rfl⟩) BW.bl (BW.at hP hK hE hS) rfl hl.1 rfl (Nat.le_of_ble_eq_true rfl) dX0_owns_7 ⟨Nat.zero_le _, Nat.zero_le _⟩ ?_
  refine r_iald Fx hK hP 3 0 rfl rfl (i := sl f w k) (sl_lt (by omega) (by omega) (by omega)) (by decide) dX0_owns_10 ?_
  exact r_iret hx hb hr hlocks (rfl) dX0_owns_11
set_option maxHeartbeats 4000000 in
set_option maxRecDepth 100000 in
theorem m_X0_crownOwns (l : Launch) {D : va_G} {ci cz : ClassId} {cj : ClassId × ClassId} {q : Nat → Nat} {F P : Nat} {g : Nat → Nat → Int32} (hF : F ≤ 6) (hP12 : P ≤ 12) (f : Nat) (w : Nat) (ha0 : f < 6) (ha1 : w < 4) : Met l yX0_crownOwns wsX0_crownOwns ({ frames := 2, cells := 0, slots := 0, locals := 45 } : Room) (va_Pc [.ref (q 0), .int (nI f), .int (nI w)] (B0 D ci cz cj q F P g)) (RQ (some (.int (sCro g P f w)))) 0 0 none_ := by
  refine Met.ofR (cc := cX0_crownOwns) (maxL := 5) (ret := (some .int)) (by decide) rfl (Nat.le_of_ble_eq_true rfl) ?_
  intro pg en s m bl mt cd ls Fx hr hlocks hB hl
  obtain ⟨hP, hK, hE⟩ := hB
  have hl : lv_has ls 5 [(0, .ref (q 0)), (1, .int (nI f)), (2, .int (nI w))] := hl
  have Fx : CallFix pg m cd cX0_crownOwns 5 s _ wsX0_crownOwns RX0 := Fx
  have hx := Fx.1
  have hb := Fx.2.1
  have hin : ∀ w ∈ wsX00, w ∈ wsX0_crownOwns := by decide +kernel
  have hS : va_S (aw q 8) s.heap s.heap [] := va_S.rf
  have hP : va_P D vwCl (w0 ci cz q F P g) s.heap := hP
  refine lv_bipush (v := nI 64) hx hb dX0_crownOwns_0 (by decide) ?_
  refine lv_istore_n (lv' := [(3, .int (nI 64)), (0, .ref (q 0)), (1, .int (nI f)), (2, .int (nI w))]) hx hb dX0_crownOwns_2 rfl hl (by decide) rfl (fun ls hl => ?_)
  refine lv_iconst (v := nI 0) hx hb dX0_crownOwns_3 (by decide) ?_
  refine lv_istore (lv' := [(4, .int (nI 0)), (3, .int (nI 64)), (0, .ref (q 0)), (1, .int (nI f)), (2, .int (nI w))]) hx hb dX0_crownOwns_4 hl (by decide) rfl (fun ls hl => ?_)
  refine rloop (nL := 5) (N := P) (fun _ => True) (fun i => [(0, .ref (q 0)), (1, .int (nI f)), (2, .int (nI w)), (3, .int (sd (nI 64) (fun z => own g f w z) i)), (4, .int (nI i))]) (trivial) (lv_sub hl [2, 3, 4, 1, 0] rfl) ?_ ?_
  · intro h1 ls hl
    have hl : lv_has ls 5 [(0, .ref (q 0)), (1, .int (nI f)), (2, .int (nI w)), (3, .int (sd (nI 64) (fun z => own g f w z) P)), (4, .int (nI P))] := hl
    refine lv_iload hx hb dX0_crownOwns_6 (lv_at hl 4 rfl) ?_
    refine lv_aload_n hx hb dX0_crownOwns_8 rfl (lv_at hl 0 rfl) ?_
    refine r_get Fx hin hK hP 0 rfl 4 (by decide) (by decide +kernel) rfl rfl dX0_crownOwns_9 ?_
    refine n_icmp_ge (tgt := 32) hx hb (by omega) (by omega) dX0_crownOwns_12 (by decide) (fun h2 => ?_) (fun h2 => by omega)
    refine lv_iload_n hx hb dX0_crownOwns_32 rfl (lv_at hl 3 rfl) ?_
    exact r_iret hx hb hr hlocks (rfl) dX0_crownOwns_33
  · intro i h4 h3 ih6 ls hl
    have hl : lv_has ls 5 [(0, .ref (q 0)), (1, .int (nI f)), (2, .int (nI w)), (3, .int (sd (nI 64) (fun z => own g f w z) i)), (4, .int (nI i))] := hl
    refine lv_iload hx hb dX0_crownOwns_6 (lv_at hl 4 rfl) ?_
    refine lv_aload_n hx hb dX0_crownOwns_8 rfl (lv_at hl 0 rfl) ?_
    refine r_get Fx hin hK hP 0 rfl 4 (by decide) (by decide +kernel) rfl rfl dX0_crownOwns_9 ?_
    refine n_icmp_ge (tgt := 32) hx hb (by omega) (by omega) dX0_crownOwns_12 (by decide) (fun h5 => by omega) (fun h5 => ?_)
    refine lv_iload_n hx hb dX0_crownOwns_15 rfl (lv_at hl 3 rfl) ?_
    refine lv_aload_n hx hb dX0_crownOwns_16 rfl (lv_at hl 0 rfl) ?_
    refine lv_iload_n hx hb dX0_crownOwns_17 rfl (lv_at hl 1 rfl) ?_
    refine lv_iload_n hx hb dX0_crownOwns_18 rfl (lv_at hl 2 rfl) ?_
    refine lv_iload hx hb dX0_crownOwns_19 (lv_at hl 4 rfl) ?_
    refine r_callR (rest := [.int (sd (nI 64) (fun z => own g f w z) i)]) Fx (m_X0_owns l (D := D) (ci := ci) (cz := cz) (cj := cj) (q := q) (F := F) (P := P) (g := g) hF hP12 f w i (by omega) (by omega) (by omega)) (cwV 3 Fx.2.2.2.2 gX0_crownOwns_X0_owns rfl rfl rfl (by decide +kernel) ⟨Nat.le_of_ble_eq_true rfl, Nat.le_of_ble_eq_true rfl⟩) BW.bl (va_recv hK hP (ci := 0) (q0 := 0) rfl rfl) (BW.at hP hK hE hS) rfl hl.1 rfl (Nat.le_of_ble_eq_true rfl) dX0_crownOwns_21 ⟨Nat.zero_le _, Nat.zero_le _⟩ ?_
    refine lv_isub hx hb dX0_crownOwns_24 ?_
    refine lv_istore_n (lv' := [(3, .int ((sd (nI 64) (fun z => own g f w z) i) - (own g f w i))), (0, .ref (q 0)), (1, .int (nI f)), (2, .int (nI w)), (4, .int (nI i))]) hx hb dX0_crownOwns_25 rfl hl (by decide) rfl (fun ls hl => ?_)
    refine lv_iinc (v := nI (i + 1)) (lv' := [(4, .int (nI (i + 1))), (3, .int ((sd (nI 64) (fun z => own g f w z) i) - (own g f w i))), (0, .ref (q 0)), (1, .int (nI f)), (2, .int (nI w))]) hx hb dX0_crownOwns_26 hl (k := 4) rfl (nI_inc _ 1) (by decide) rfl (fun ls hl => ?_)
    refine lv_goto (tgt := 6) hx hb dX0_crownOwns_29 (by decide) ?_
    exact ih6 (trivial) _ (lv_sub hl [2, 3, 4, 1, 0] rfl)
set_option maxHeartbeats 4000000 in
set_option maxRecDepth 100000 in
theorem m_X0_countSharesOfFerry (l : Launch) {D : va_G} {ci cz : ClassId} {cj : ClassId × ClassId} {q : Nat → Nat} {F P : Nat} {g : Nat → Nat → Int32} (hF : F ≤ 6) (hP12 : P ≤ 12) (f : Nat) (k : Nat) (ha0 : f < 6) (ha1 : k < 12) : Met l yX0_countSharesOfFerry wsX0_countSharesOfFerry ({ frames := 2, cells := 0, slots := 0, locals := 45 } : Room) (va_Pc [.ref (q 0), .int (nI f), .int (nI k)] (B0 D ci cz cj q F P g)) (RQ (some (.int (sFer g f k)))) 0 0 none_ := by
  refine Met.ofR (cc := cX0_countSharesOfFerry) (maxL := 5) (ret := (some .int)) (by decide) rfl (Nat.le_of_ble_eq_true rfl) ?_
  intro pg en s m bl mt cd ls Fx hr hlocks hB hl
  obtain ⟨hP, hK, hE⟩ := hB
  have hl : lv_has ls 5 [(0, .ref (q 0)), (1, .int (nI f)), (2, .int (nI k))] := hl
  have Fx : CallFix pg m cd cX0_countSharesOfFerry 5 s _ wsX0_countSharesOfFerry RX0 := Fx
  have hx := Fx.1
  have hb := Fx.2.1
  have hS : va_S (aw q 8) s.heap s.heap [] := va_S.rf
  have hP : va_P D vwCl (w0 ci cz q F P g) s.heap := hP
  refine lv_iconst (v := nI 0) hx hb dX0_countSharesOfFerry_0 (by decide) ?_
  refine lv_istore_n (lv' := [(3, .int (nI 0)), (0, .ref (q 0)), (1, .int (nI f)), (2, .int (nI k))]) hx hb dX0_countSharesOfFerry_1 rfl hl (by decide) rfl (fun ls hl => ?_)
  refine lv_iconst (v := nI 0) hx hb dX0_countSharesOfFerry_2 (by decide) ?_
  refine lv_istore (lv' := [(4, .int (nI 0)), (3, .int (nI 0)), (0, .ref (q 0)), (1, .int (nI f)), (2, .int (nI k))]) hx hb dX0_countSharesOfFerry_3 hl (by decide) rfl (fun ls hl => ?_)
  refine rloop (nL := 5) (N := 4) (fun _ => True) (fun i => [(0, .ref (q 0)), (1, .int (nI f)), (2, .int (nI k)), (3, .int (sm (fun z => own g f z k) i)), (4, .int (nI i))]) (trivial) (lv_sub hl [2, 3, 4, 1, 0] rfl) ?_ ?_
  · intro h1 ls hl
    have hl : lv_has ls 5 [(0, .ref (q 0)), (1, .int (nI f)), (2, .int (nI k)), (3, .int (sm (fun z => own g f z k) 4)), (4, .int (nI 4))] := hl
    refine lv_iload hx hb dX0_countSharesOfFerry_5 (lv_at hl 4 rfl) ?_
    refine lv_iconst (v := nI 4) hx hb dX0_countSharesOfFerry_7 (by decide) ?_
    refine n_icmp_ge (tgt := 28) hx hb (by omega) (by omega) dX0_countSharesOfFerry_8 (by decide) (fun h2 => ?_) (fun h2 => by omega)
    refine lv_iload_n hx hb dX0_countSharesOfFerry_28 rfl (lv_at hl 3 rfl) ?_
    exact r_iret hx hb hr hlocks (rfl) dX0_countSharesOfFerry_29
  · intro i h4 h3 ih5 ls hl
    have hl : lv_has ls 5 [(0, .ref (q 0)), (1, .int (nI f)), (2, .int (nI k)), (3, .int (sm (fun z => own g f z k) i)), (4, .int (nI i))] := hl
    refine lv_iload hx hb dX0_countSharesOfFerry_5 (lv_at hl 4 rfl) ?_
    refine lv_iconst (v := nI 4) hx hb dX0_countSharesOfFerry_7 (by decide) ?_
    refine n_icmp_ge (tgt := 28) hx hb (by omega) (by omega) dX0_countSharesOfFerry_8 (by decide) (fun h5 => by omega) (fun h5 => ?_)
    refine lv_iload_n hx hb dX0_countSharesOfFerry_11 rfl (lv_at hl 3 rfl) ?_
    refine lv_aload_n hx hb dX0_countSharesOfFerry_12 rfl (lv_at hl 0 rfl) ?_
    refine lv_iload_n hx hb dX0_countSharesOfFerry_13 rfl (lv_at hl 1 rfl) ?_
    refine lv_iload hx hb dX0_countSharesOfFerry_14 (lv_at hl 4 rfl) ?_
    refine lv_iload_n hx hb dX0_countSharesOfFerry_16 rfl (lv_at hl 2 rfl) ?_
    refine r_callR (rest := [.int (sm (fun z => own g f z k) i)]) Fx (m_X0_owns l (D := D) (ci := ci) (cz := cz) (cj := cj) (q := q) (F := F) (P := P) (g := g) hF hP12 f i k (by omega) (by omega) (by omega)) (cwV 3 Fx.2.2.2.2 gX0_countSharesOfFerry_X0_owns rfl rfl rfl (by decide +kernel) ⟨Nat.le_of_ble_eq_true rfl, Nat.le_of_ble_eq_true rfl⟩) BW.bl (va_recv hK hP (ci := 0) (q0 := 0) rfl rfl) (BW.at hP hK hE hS) rfl hl.1 rfl (Nat.le_of_ble_eq_true rfl) dX0_countSharesOfFerry_17 ⟨Nat.zero_le _, Nat.zero_le _⟩ ?_
    refine lv_iadd hx hb dX0_countSharesOfFerry_20 ?_
    refine lv_istore_n (lv' := [(3, .int ((sm (fun z => own g f z k) i) + (own g f i k))), (0, .ref (q 0)), (1, .int (nI f)), (2, .int (nI k)), (4, .int (nI i))]) hx hb dX0_countSharesOfFerry_21 rfl hl (by decide) rfl (fun ls hl => ?_)
    refine lv_iinc (v := nI (i + 1)) (lv' := [(4, .int (nI (i + 1))), (3, .int ((sm (fun z => own g f z k) i) + (own g f i k))), (0, .ref (q 0)), (1, .int (nI f)), (2, .int (nI k))]) hx hb dX0_countSharesOfFerry_22 hl (k := 4) rfl (nI_inc _ 1) (by decide) rfl (fun ls hl => ?_)
    refine lv_goto (tgt := 5) hx hb dX0_countSharesOfFerry_25 (by decide) ?_
    exact ih5 (trivial) _ (lv_sub hl [2, 3, 4, 1, 0] rfl)
set_option maxHeartbeats 4000000 in
set_option maxRecDepth 100000 in
theorem m_X0_countAllShares (l : Launch) {D : va_G} {ci cz : ClassId} {cj : ClassId × ClassId} {q : Nat → Nat} {F P : Nat} {g : Nat → Nat → Int32} (hF : F ≤ 6) (hP12 : P ≤ 12) (k : Nat) (ha0 : k < 12) : Met l yX0_countAllShares wsX0_countAllShares ({ frames := 3, cells := 0, slots := 0, locals := 69 } : Room) (va_Pc [.ref (q 0), .int (nI k)] (B0 D ci cz cj q F P g)) (RQ (some (.int (sAll g F k)))) 0 0 none_ := by
  refine Met.ofR (cc := cX0_countAllShares) (maxL := 4) (ret := (some .int)) (by decide) rfl (Nat.le_of_ble_eq_true rfl) ?_
  intro pg en s m bl mt cd ls Fx hr hlocks hB hl
  obtain ⟨hP, hK, hE⟩ := hB
  have hl : lv_has ls 4 [(0, .ref (q 0)), (1, .int (nI k))] := hl
  have Fx : CallFix pg m cd cX0_countAllShares 4 s _ wsX0_countAllShares RX0 := Fx
  have hx := Fx.1
  have hb := Fx.2.1
  have hin : ∀ w ∈ wsX00, w ∈ wsX0_countAllShares := by decide +kernel
  have hS : va_S (aw q 8) s.heap s.heap [] := va_S.rf
  have hP : va_P D vwCl (w0 ci cz q F P g) s.heap := hP
  refine lv_iconst (v := nI 0) hx hb dX0_countAllShares_0 (by decide) ?_
  refine lv_istore_n (lv' := [(2, .int (nI 0)), (0, .ref (q 0)), (1, .int (nI k))]) hx hb dX0_countAllShares_1 rfl hl (by decide) rfl (fun ls hl => ?_)
  refine lv_iconst (v := nI 0) hx hb dX0_countAllShares_2 (by decide) ?_
  refine lv_istore_n (lv' := [(3, .int (nI 0)), (2, .int (nI 0)), (0, .ref (q 0)), (1, .int (nI k))]) hx hb dX0_countAllShares_3 rfl hl (by decide) rfl (fun ls hl => ?_)
  refine rloop (nL := 4) (N := F) (fun _ => True) (fun i => [(0, .ref (q 0)), (1, .int (nI k)), (2, .int (sm (fun z => sFer g z k) i)), (3, .int (nI i))]) (trivial) (lv_sub hl [2, 3, 1, 0] rfl) ?_ ?_
  · intro h1 ls hl
    have hl : lv_has ls 4 [(0, .ref (q 0)), (1, .int (nI k)), (2, .int (sm (fun z => sFer g z k) F)), (3, .int (nI F))] := hl
    refine lv_iload_n hx hb dX0_countAllShares_4 rfl (lv_at hl 3 rfl) ?_
    refine lv_aload_n hx hb dX0_countAllShares_5 rfl (lv_at hl 0 rfl) ?_
    refine r_get Fx hin hK hP 0 rfl 0 (by decide) (by decide +kernel) rfl rfl dX0_countAllShares_6 ?_
    refine n_icmp_ge (tgt := 27) hx hb (by omega) (by omega) dX0_countAllShares_9 (by decide) (fun h2 => ?_) (fun h2 => by omega)
    refine lv_iload_n hx hb dX0_countAllShares_27 rfl (lv_at hl 2 rfl) ?_
    exact r_iret hx hb hr hlocks (rfl) dX0_countAllShares_28
  · intro i h4 h3 ih4 ls hl
    have hl : lv_has ls 4 [(0, .ref (q 0)), (1, .int (nI k)), (2, .int (sm (fun z => sFer g z k) i)), (3, .int (nI i))] := hl
    refine lv_iload_n hx hb dX0_countAllShares_4 rfl (lv_at hl 3 rfl) ?_
    refine lv_aload_n hx hb dX0_countAllShares_5 rfl (lv_at hl 0 rfl) ?_
    refine r_get Fx hin hK hP 0 rfl 0 (by decide) (by decide +kernel) rfl rfl dX0_countAllShares_6 ?_
    refine n_icmp_ge (tgt := 27) hx hb (by omega) (by omega) dX0_countAllShares_9 (by decide) (fun h5 => by omega) (fun h5 => ?_)
    refine lv_iload_n hx hb dX0_countAllShares_12 rfl (lv_at hl 2 rfl) ?_
    refine lv_aload_n hx hb dX0_countAllShares_13 rfl (lv_at hl 0 rfl) ?_
    refine lv_iload_n hx hb dX0_countAllShares_14 rfl (lv_at hl 3 rfl) ?_
    refine lv_iload_n hx hb dX0_countAllShares_15 rfl (lv_at hl 1 rfl) ?_
    refine r_callR (rest := [.int (sm (fun z => sFer g z k) i)]) Fx (m_X0_countSharesOfFerry l (D := D) (ci := ci) (cz := cz) (cj := cj) (q := q) (F := F) (P := P) (g := g) hF hP12 i k (by omega) (by omega)) (cwV 2 Fx.2.2.2.2 gX0_countAllShares_X0_countSharesOfFerry rfl rfl rfl (by decide +kernel) ⟨Nat.le_of_ble_eq_true rfl, Nat.le_of_ble_eq_true rfl⟩) BW.bl (va_recv hK hP (ci := 0) (q0 := 0) rfl rfl) (BW.at hP hK hE hS) rfl hl.1 rfl (Nat.le_of_ble_eq_true rfl) dX0_countAllShares_16 ⟨Nat.zero_le _, Nat.zero_le _⟩ ?_
    refine lv_iadd hx hb dX0_countAllShares_19 ?_
    refine lv_istore_n (lv' := [(2, .int ((sm (fun z => sFer g z k) i) + (sFer g i k))), (0, .ref (q 0)), (1, .int (nI k)), (3, .int (nI i))]) hx hb dX0_countAllShares_20 rfl hl (by decide) rfl (fun ls hl => ?_)
    refine lv_iinc (v := nI (i + 1)) (lv' := [(3, .int (nI (i + 1))), (2, .int ((sm (fun z => sFer g z k) i) + (sFer g i k))), (0, .ref (q 0)), (1, .int (nI k))]) hx hb dX0_countAllShares_21 hl (k := 3) rfl (nI_inc _ 1) (by decide) rfl (fun ls hl => ?_)
    refine lv_goto (tgt := 4) hx hb dX0_countAllShares_24 (by decide) ?_
    exact ih4 (trivial) _ (lv_sub hl [2, 3, 1, 0] rfl)
set_option maxHeartbeats 4000000 in
set_option maxRecDepth 100000 in
theorem m_X0_findMaster (l : Launch) {D : va_G} {ci cz : ClassId} {cj : ClassId × ClassId} {q : Nat → Nat} {F P : Nat} {g : Nat → Nat → Int32} (hF : F ≤ 6) (hP12 : P ≤ 12) (f : Nat) (ha0 : f < 6) : Met l yX0_findMaster wsX0_findMaster ({ frames := 3, cells := 0, slots := 0, locals := 69 } : Room) (va_Pc [.ref (q 0), .int (nI f)] (B0 D ci cz cj q F P g)) (RQ (some (.int (sMas g P f)))) 0 0 none_ := by
  refine Met.ofR (cc := cX0_findMaster) (maxL := 3) (ret := (some .int)) (by decide) rfl (Nat.le_of_ble_eq_true rfl) ?_
  intro pg en s m bl mt cd ls Fx hr hlocks hB hl
  obtain ⟨hP, hK, hE⟩ := hB
  have hl : lv_has ls 3 [(0, .ref (q 0)), (1, .int (nI f))] := hl
  have Fx : CallFix pg m cd cX0_findMaster 3 s _ wsX0_findMaster RX0 := Fx
  have hx := Fx.1
  have hb := Fx.2.1
  have hin : ∀ w ∈ wsX00, w ∈ wsX0_findMaster := by decide +kernel
  have hS : va_S (aw q 8) s.heap s.heap [] := va_S.rf
  have hP : va_P D vwCl (w0 ci cz q F P g) s.heap := hP
  refine lv_iconst (v := nI 0) hx hb dX0_findMaster_0 (by decide) ?_
  refine lv_istore_n (lv' := [(2, .int (nI 0)), (0, .ref (q 0)), (1, .int (nI f))]) hx hb dX0_findMaster_1 rfl hl (by decide) rfl (fun ls hl => ?_)
  refine rloop (nL := 3) (N := P) (fun i => ∀ z, z < i → (fun z => decide (nI 128 < sFer g f z)) z = false) (fun i => [(0, .ref (q 0)), (1, .int (nI f)), (2, .int (nI i))]) (all_0) (lv_sub hl [1, 2, 0] rfl) ?_ ?_
  · intro h1 ls hl
    have hl : lv_has ls 3 [(0, .ref (q 0)), (1, .int (nI f)), (2, .int (nI P))] := hl
    refine lv_iload_n hx hb dX0_findMaster_2 rfl (lv_at hl 2 rfl) ?_
    refine lv_aload_n hx hb dX0_findMaster_3 rfl (lv_at hl 0 rfl) ?_
    refine r_get Fx hin hK hP 0 rfl 4 (by decide) (by decide +kernel) rfl rfl dX0_findMaster_4 ?_
    refine n_icmp_ge (tgt := 30) hx hb (by omega) (by omega) dX0_findMaster_7 (by decide) (fun h2 => ?_) (fun h2 => by omega)
    refine lv_iconst (v := -1) hx hb dX0_findMaster_30 (by decide) ?_
    exact r_iret hx hb hr hlocks ((ff_none h1).symm) dX0_findMaster_31
  · intro i h4 h3 ih2 ls hl
    have hl : lv_has ls 3 [(0, .ref (q 0)), (1, .int (nI f)), (2, .int (nI i))] := hl
    refine lv_iload_n hx hb dX0_findMaster_2 rfl (lv_at hl 2 rfl) ?_
    refine lv_aload_n hx hb dX0_findMaster_3 rfl (lv_at hl 0 rfl) ?_
    refine r_get Fx hin hK hP 0 rfl 4 (by decide) (by decide +kernel) rfl rfl dX0_findMaster_4 ?_
    refine n_icmp_ge (tgt := 30) hx hb (by omega) (by omega) dX0_findMaster_7 (by decide) (fun h5 => by omega) (fun h5 => ?_)
    refine lv_aload_n hx hb dX0_findMaster_10 rfl (lv_at hl 0 rfl) ?_
    refine lv_iload_n hx hb dX0_findMaster_11 rfl (lv_at hl 1 rfl) ?_
    refine lv_iload_n hx hb dX0_findMaster_12 rfl (lv_at hl 2 rfl) ?_
    refine r_callR (rest := []) Fx (m_X0_countSharesOfFerry l (D := D) (ci := ci) (cz := cz) (cj := cj) (q := q) (F := F) (P := P) (g := g) hF hP12 f i (by omega) (by omega)) (cwV 2 Fx.2.2.2.2 gX0_findMaster_X0_countSharesOfFerry rfl rfl rfl (by decide +kernel) ⟨Nat.le_of_ble_eq_true rfl, Nat.le_of_ble_eq_true rfl⟩) BW.bl (va_recv hK hP (ci := 0) (q0 := 0) rfl rfl) (BW.at hP hK hE hS) rfl hl.1 rfl (Nat.le_of_ble_eq_true rfl) dX0_findMaster_13 ⟨Nat.zero_le _, Nat.zero_le _⟩ ?_
    refine lv_sipush (v := nI 128) hx hb dX0_findMaster_16 (by decide) ?_
    refine lv_icmp_le (tgt := 24) hx hb dX0_findMaster_19 (by decide) (fun h6 => ?_) (fun h6 => ?_)
    · refine lv_iinc (v := nI (i + 1)) (lv' := [(2, .int (nI (i + 1))), (0, .ref (q 0)), (1, .int (nI f))]) hx hb dX0_findMaster_24 hl (k := 2) rfl (nI_inc _ 1) (by decide) rfl (fun ls hl => ?_)
      refine lv_goto (tgt := 2) hx hb dX0_findMaster_27 (by decide) ?_
      exact ih2 (all_s h3 (by simp [Int32.not_lt, Int32.not_le, h3, h4, h5, h6, Int32.not_lt.mpr h6])) _ (lv_sub hl [1, 2, 0] rfl)
    · have h6 := Int32.not_le.mp h6
      refine lv_iload_n hx hb dX0_findMaster_22 rfl (lv_at hl 2 rfl) ?_
      exact r_iret hx hb hr hlocks ((ff_some h3 (by simp [Int32.not_lt, Int32.not_le, h3, h4, h5, h6, Int32.not_le.mpr h6]) h4).symm) dX0_findMaster_23
set_option maxHeartbeats 4000000 in
set_option maxRecDepth 100000 in
theorem m_X0_worth (l : Launch) {D : va_G} {ci cz : ClassId} {cj : ClassId × ClassId} {q : Nat → Nat} {F P : Nat} {g : Nat → Nat → Int32} (hF : F ≤ 6) (hP12 : P ≤ 12) (f : Nat) (w : Nat) (ha0 : f < 6) (ha1 : w < 4) : Met l yX0_worth wsX0_worth ({ frames := 0, cells := 0, slots := 0, locals := 0 } : Room) (va_Pc [.ref (q 0), .int (nI f), .int (nI w)] (B0 D ci cz cj q F P g)) (RQ (some (.int (sWor g f w)))) 0 0 none_ := by
  refine Met.ofR (cc := cX0_worth) (maxL := 3) (ret := (some .int)) (by decide) rfl (Nat.le_of_ble_eq_true rfl) ?_
  intro pg en s m bl mt cd ls Fx hr hlocks hB hl
  obtain ⟨hP, hK, hE⟩ := hB
  have hl : lv_has ls 3 [(0, .ref (q 0)), (1, .int (nI f)), (2, .int (nI w))] := hl
  have Fx : CallFix pg m cd cX0_worth 3 s _ wsX0_worth RX0 := Fx
  have hx := Fx.1
  have hb := Fx.2.1
  have hin : ∀ w ∈ wsX00, w ∈ wsX0_worth := by decide +kernel
  have hS : va_S (aw q 8) s.heap s.heap [] := va_S.rf
  have hP : va_P D vwCl (w0 ci cz q F P g) s.heap := hP
  refine lv_aload_n hx hb dX0_worth_0 rfl (lv_at hl 0 rfl) ?_
  refine r_get Fx hin hK hP 0 rfl 1 (by decide) (by decide +kernel) rfl rfl dX0_worth_1 ?_
  refine lv_iload_n hx hb dX0_worth_4 rfl (lv_at hl 1 rfl) ?_
  refine r_iald Fx hK hP 1 0 rfl rfl (i := f) (by omega) (by decide) dX0_worth_5 ?_
  obtain ⟨tr, hZ, hT⟩ := hE.2.2.2.1
  refine va_gets hx hb hZ hS Fx.2.2.2.1 (Fx.2.2.2.2 (.fieldLink RX0 219 "FerryRights" "TRAFFIC" "[I") (by decide +kernel)) (fun _ h => h) dX0_worth_6 ?_
  refine lv_iload_n hx hb dX0_worth_9 rfl (lv_at hl 2 rfl) ?_
  refine r_tr Fx hT hS (i := w) (by omega) dX0_worth_10 ?_
  refine lv_imul hx hb dX0_worth_11 ?_
  refine lv_iconst (v := nI 1) hx hb dX0_worth_12 (by decide) ?_
  refine lv_iadd hx hb dX0_worth_13 ?_
  exact r_iret hx hb hr hlocks (rfl) dX0_worth_14
set_option maxHeartbeats 4000000 in
set_option maxRecDepth 100000 in
theorem m_X0_priceOf (l : Launch) {D : va_G} {ci cz : ClassId} {cj : ClassId × ClassId} {q : Nat → Nat} {F P : Nat} {g : Nat → Nat → Int32} (hF : F ≤ 6) (hP12 : P ≤ 12) (k : Nat) (f : Nat) (w : Nat) (ha0 : k < 12) (ha1 : f < 6) (ha2 : w < 4) : Met l yX0_priceOf wsX0_priceOf ({ frames := 2, cells := 0, slots := 0, locals := 45 } : Room) (va_Pc [.ref (q 0), .int (nI k), .int (nI f), .int (nI w)] (B0 D ci cz cj q F P g)) (RQ (some (.int (sPri g f w k)))) 0 0 none_ := by
  refine Met.ofR (cc := cX0_priceOf) (maxL := 4) (ret := (some .int)) (by decide) rfl (Nat.le_of_ble_eq_true rfl) ?_
  intro pg en s m bl mt cd ls Fx hr hlocks hB hl
  obtain ⟨hP, hK, hE⟩ := hB
  have hl : lv_has ls 4 [(0, .ref (q 0)), (1, .int (nI k)), (2, .int (nI f)), (3, .int (nI w))] := hl
  have Fx : CallFix pg m cd cX0_priceOf 4 s _ wsX0_priceOf RX0 := Fx
  have hx := Fx.1
  have hb := Fx.2.1
  have hS : va_S (aw q 8) s.heap s.heap [] := va_S.rf
  have hP : va_P D vwCl (w0 ci cz q F P g) s.heap := hP
  refine lv_aload_n hx hb dX0_priceOf_0 rfl (lv_at hl 0 rfl) ?_
  refine lv_iload_n hx hb dX0_priceOf_1 rfl (lv_at hl 2 rfl) ?_
  refine lv_iload_n hx hb dX0_priceOf_2 rfl (lv_at hl 3 rfl) ?_
  refine lv_iload_n hx hb dX0_priceOf_3 rfl (lv_at hl 1 rfl) ?_
  refine r_callR (rest := []) Fx (m_X0_owns l (D := D) (ci := ci) (cz := cz) (cj := cj) (q := q) (F := F) (P := P) (g := g) hF hP12 f w k (by omega) (by omega) (by omega)) (cwV 3 Fx.2.2.2.2 gX0_priceOf_X0_owns rfl rfl rfl (by decide +kernel) ⟨Nat.le_of_ble_eq_true rfl, Nat.le_of_ble_eq_true rfl⟩) BW.bl (va_recv hK hP (ci := 0) (q0 := 0) rfl rfl) (BW.at hP hK hE hS) rfl hl.1 rfl (Nat.le_of_ble_eq_true rfl) dX0_priceOf_4 ⟨Nat.zero_le _, Nat.zero_le _⟩ ?_
  refine lv_aload_n hx hb dX0_priceOf_7 rfl (lv_at hl 0 rfl) ?_
  refine lv_iload_n hx hb dX0_priceOf_8 rfl (lv_at hl 2 rfl) ?_
  refine lv_iload_n hx hb dX0_priceOf_9 rfl (lv_at hl 3 rfl) ?_
  refine r_callR (rest := [.int (own g f w k)]) Fx (m_X0_worth l (D := D) (ci := ci) (cz := cz) (cj := cj) (q := q) (F := F) (P := P) (g := g) hF hP12 f w (by omega) (by omega)) (cwV 2 Fx.2.2.2.2 gX0_priceOf_X0_worth rfl rfl rfl (by decide +kernel) ⟨Nat.le_of_ble_eq_true rfl, Nat.le_of_ble_eq_true rfl⟩) BW.bl (va_recv hK hP (ci := 0) (q0 := 0) rfl rfl) (BW.at hP hK hE hS) rfl hl.1 rfl (Nat.le_of_ble_eq_true rfl) dX0_priceOf_10 ⟨Nat.zero_le _, Nat.zero_le _⟩ ?_
  refine lv_imul hx hb dX0_priceOf_13 ?_
  exact r_iret hx hb hr hlocks (rfl) dX0_priceOf_14
end
section
/-! PART 11: what the calls of the face answer (k_: 0 or the number of what is thrown, r_: the answer) and leave behind (g_). -/
section SPEC2
def ix (a : Int32) : Nat := a.toNatClampNeg
theorem ix_nI {j : Nat} (h : j < 2 ^ 31) : ix (nI j) = j := nI_clamp h
abbrev inB (lo hi : Nat) (a : Int32) : Prop := nI lo ≤ a ∧ a ≤ nI hi
/-- folds of numbers -/
def fo (st : Int64 → Nat → Int64) (d : Int64) : Nat → Int64 | 0 => d | n + 1 => st (fo st d n) n
def mx (d x : Int64) : Int64 := d * 31 + x
def sDW (g : Nat → Nat → Int32) (P f : Nat) (d : Int64) (w : Nat) : Int64 := fo (fun d z => mx d (own g f w z).toInt64) d P
def sDF (g : Nat → Nat → Int32) (P : Nat) (d : Int64) (f : Nat) : Int64 := fo (fun d w => sDW g P f d w) (mx (mx d (g 0 f).toInt64) (g 1 f).toInt64) 4
def sDP (g : Nat → Nat → Int32) (F P : Nat) (d : Int64) (k : Nat) : Int64 := mx (mx (mx (mx (mx (mx d (if lv g k then 1 else 0)) (g 4 k).toInt64) (g 5 k).toInt64) (sAll g F k).toInt64) (nI (sChi g P k)).toInt64) (nI (sCHe g P k)).toInt64
def sDig0 (g : Nat → Nat → Int32) (F P : Nat) : Int64 := mx (mx (mx (mx 1861 (nI F).toInt64) (nI P).toInt64) (nI (sLiv g P)).toInt64) (g 7 0).toInt64
def sDig (g : Nat → Nat → Int32) (F P : Nat) : Int64 := fo (fun d k => sDP g F P d k) (fo (fun d f => sDF g P d f) (sDig0 g F P) F) P
/-- the one with the most, of several the first -/
def ho (f : Nat → Int32) : Nat → Int32 × Int32 | 0 => (-1, nI 0) | n + 1 => if (ho f n).2 < f n then (nI n, f n) else ho f n
def ri (b : Nat → Bool) (f : Nat → Int32) : Nat → Int32 × Int32 | 0 => (-1, -1) | n + 1 => if b n && decide ((ri b f n).2 < f n) then (nI n, f n) else ri b f n
def csm (b : Nat → Bool) (f : Nat → Int32) : Nat → Int32 | 0 => nI 0 | n + 1 => if b n then csm b f n + f n else csm b f n
def sHol (g : Nat → Nat → Int32) (P f w : Nat) : Int32 := (ho (fun z => own g f w z) P).1
def sRic (g : Nat → Nat → Int32) (P : Nat) : Int32 := (ri (fun z => lv g z) (fun z => g 4 z) P).1
def sOwn (g : Nat → Nat → Int32) (P f w : Nat) : Nat := cn (fun z => decide (0 < own g f w z)) P
def sInh (g : Nat → Nat → Int32) (P p h f w : Nat) : Int32 := if sIsH g P h p then sPar (own g f w p) (sCHe g P p) (sCHB g P h p) else nI 0
/-- changes -/
def mn (x : Int32) : Int32 := if x < nI 9999 then x else nI 9999
def gGet (g : Nat → Nat → Int32) (k : Nat) (n : Int32) : Nat → Nat → Int32 := va_up g 4 (upd (g 4) k (mn (g 4 k + n)))
def gAdd (g : Nat → Nat → Int32) (f w k : Nat) (n : Int32) : Nat → Nat → Int32 := va_up g 2 (upd (g 2) (sl f w k) (g 2 (sl f w k) + n))
def gPay (g : Nat → Nat → Int32) (k : Nat) (n : Int32) : Nat → Nat → Int32 := va_up g 4 (upd (g 4) k (g 4 k - n))
def gTol (g : Nat → Nat → Int32) (f : Nat) (n : Int32) : Nat → Nat → Int32 := va_up g 0 (upd (g 0) f n)
def gPar (g : Nat → Nat → Int32) (k : Nat) (n : Int32) : Nat → Nat → Int32 := va_up g 6 (upd (g 6) k n)
def gEar (g : Nat → Nat → Int32) (k : Nat) (n : Int32) : Nat → Nat → Int32 := va_up g 5 (upd (g 5) k (g 5 k + n))
def gCro (g : Nat → Nat → Int32) (n : Int32) : Nat → Nat → Int32 := va_up g 7 (fun _ => g 7 0 + n)
def gCad (g : Nat → Nat → Int32) (f : Nat) (n : Int32) : Nat → Nat → Int32 := va_up g 1 (upd (g 1) f (g 1 f + n))
/-- carrying: what stands behind i people, and what is left -/
def gCar (g : Nat → Nat → Int32) (f w : Nat) (n : Int32) : Nat → Nat → Nat → Int32 | 0 => g | i + 1 => gGet (gEar (gCar g f w n i) i (sFar (gCar g f w n i) f w i n)) i (sFar (gCar g f w n i) f w i n)
def lCar (g : Nat → Nat → Int32) (f w : Nat) (n : Int32) : Nat → Int32 | 0 => g 0 f * n | i + 1 => lCar g f w n i - sFar (gCar g f w n i) f w i n
def gCry (g : Nat → Nat → Int32) (P f w : Nat) (n : Int32) : Nat → Nat → Int32 := gCad (gCro (gCar g f w n P) (lCar g f w n P)) f n
def gGiv (g : Nat → Nat → Int32) (a b f w : Nat) (n : Int32) : Nat → Nat → Int32 := gAdd (gAdd g f w a (-n)) f w b n
def gBuy (g : Nat → Nat → Int32) (b k f w : Nat) : Nat → Nat → Int32 := gAdd (gAdd (gGet (gPay g b (sPri g f w k)) k (sPri g f w k)) f w k (-(own g f w k))) f w b (own g f w k)
/-- the numbers of what is thrown -/
def k_addFerry (F : Nat) (a : Int32) : Nat := if 0 ≤ a ∧ a ≤ nI 20 then (if F < 6 then 0 else 2) else 1
def k_addPerson (P : Nat) : Nat := if P < 12 then 0 else 1
def k_addChild (P : Nat) (g : Nat → Nat → Int32) (a : Int32) : Nat := if inR a P then (if lv g (ix a) = true then (if P < 12 then 0 else 2) else 2) else 1
def k_pay (P : Nat) (g : Nat → Nat → Int32) (a b : Int32) : Nat := if inR a P then (if inB 1 9999 b then (if lv g (ix a) = true then 0 else 3) else 2) else 1
def k_grant (F P : Nat) (g : Nat → Nat → Int32) (f w a b : Int32) : Nat := if inR f F ∧ inR w 4 ∧ inR a P then (if inB 1 64 b then (if lv g (ix a) = true ∧ b ≤ sCro g P (ix f) (ix w) then 0 else 3) else 2) else 1
def k_give (F P : Nat) (g : Nat → Nat → Int32) (a b f w n : Int32) : Nat := if inR a P ∧ inR b P ∧ inR f F ∧ inR w 4 then (if inB 1 64 n ∧ a ≠ b then (if lv g (ix b) = true ∧ n ≤ own g (ix f) (ix w) (ix a) then 0 else 3) else 2) else 1
def k_buy (F P : Nat) (g : Nat → Nat → Int32) (a b f w : Int32) : Nat := if inR a P ∧ inR b P ∧ inR f F ∧ inR w 4 then (if sMay g P (ix a) (ix b) (ix f) (ix w) = true then 0 else 2) else 1
def k_setToll (F P : Nat) (g : Nat → Nat → Int32) (f a n : Int32) : Nat := if inR f F ∧ inR a P then (if 0 ≤ n ∧ n ≤ nI 20 then (if sMas g P (ix f) = a then 0 else 3) else 2) else 1
def k_carry (F : Nat) (f h n : Int32) : Nat := if inR f F ∧ inR h 24 then (if inB 1 200 n then 0 else 2) else 1
def k_die (P : Nat) (g : Nat → Nat → Int32) (a : Int32) : Nat := if inR a P then (if lv g (ix a) = true then 0 else 2) else 1
def k_1 (N : Nat) (a : Int32) : Nat := if inR a N then 0 else 1
def k_fw (F : Nat) (f w : Int32) : Nat := if inR f F ∧ inR w 4 then 0 else 1
def k_fwp (F P : Nat) (f w a : Int32) : Nat := if inR f F ∧ inR w 4 ∧ inR a P then 0 else 1
def k_pfw (F P : Nat) (a f w : Int32) : Nat := if inR a P ∧ inR f F ∧ inR w 4 then 0 else 1
def k_ppfw (F P : Nat) (a b f w : Int32) : Nat := if inR a P ∧ inR b P ∧ inR f F ∧ inR w 4 then 0 else 1
def k_holder (F P : Nat) (g : Nat → Nat → Int32) (f w : Int32) : Nat := if inR f F ∧ inR w 4 then (if sHol g P (ix f) (ix w) = -1 then 2 else 0) else 1
def k_master (F P : Nat) (g : Nat → Nat → Int32) (f : Int32) : Nat := if inR f F then (if sMas g P (ix f) = -1 then 2 else 0) else 1
def k_parent (P : Nat) (g : Nat → Nat → Int32) (a : Int32) : Nat := if inR a P then (if g 6 (ix a) = -1 then 2 else 0) else 1
def k_heir (P : Nat) (g : Nat → Nat → Int32) (a x : Int32) : Nat := if inR a P then (if sFH g P (ix a) x = -1 then 1 else 0) else 1
def k_fare (F P : Nat) (a f h n : Int32) : Nat := if inR a P ∧ inR f F ∧ inR h 24 then (if inB 1 200 n then 0 else 2) else 1
def k_richest (P : Nat) (g : Nat → Nat → Int32) : Nat := if sRic g P = -1 then 1 else 0
end SPEC2
section SETTLE
theorem alv_settle {P : Nat} {d : Nat → Int32} (h : d P = 0) : upd (alv P d) P (nI 1) = alv (P + 1) d := by
  funext z
  unfold upd alv
  by_cases hz : z = P
  · subst hz
    rw [if_pos rfl, if_pos (show z < z + 1 by omega), if_pos h]
    rfl
  · rw [if_neg hz]
    by_cases hp : z < P
    · rw [if_pos hp, if_pos (show z < P + 1 by omega)]
    · rw [if_neg hp, if_neg (show ¬ z < P + 1 by omega)]
theorem settle_w {ci cz : ClassId} {q : Nat → Nat} {F P : Nat} {g : Nat → Nat → Int32} {x : Int32} (h : g 3 P = 0) : w0r ci cz q F (P + 1) (upd (alv P (g 3)) P (nI 1)) (va_up g 6 (upd (g 6) P x)) = w0 ci cz q F (P + 1) (gPar g P x) := by
  rw [alv_settle h]
  rfl
end SETTLE
end
section
/-! FerryRights, II: the checks, and what is asked -/
set_option maxHeartbeats 4000000 in
set_option maxRecDepth 100000 in
theorem m_X0_needPerson (l : Launch) {D : va_G} {ci cz : ClassId} {cj : ClassId × ClassId} {q : Nat → Nat} {F P : Nat} {g : Nat → Nat → Int32} (hF : F ≤ 6) (hP12 : P ≤ 12) (a : Nat) (ha0 : a < P) : Met l yX0_needPerson wsX0_needPerson ({ frames := 0, cells := 0, slots := 0, locals := 0 } : Room) (va_Pc [.ref (q 0), .int (nI a)] (B0 D ci cz cj q F P g)) (RQ none) 0 0 none_ := by
  refine Met.ofR (cc := cX0_needPerson) (maxL := 2) (ret := none) (by decide) rfl (Nat.le_of_ble_eq_true rfl) ?_
  intro pg en s m bl mt cd ls Fx hr hlocks hB hl
  obtain ⟨hP, hK, hE⟩ := hB
  have hl : lv_has ls 2 [(0, .ref (q 0)), (1, .int (nI a))] := hl
  have Fx : CallFix pg m cd cX0_needPerson 2 s _ wsX0_needPerson RX0 := Fx
  have hx := Fx.1
  have hb := Fx.2.1
  have hin : ∀ w ∈ wsX00, w ∈ wsX0_needPerson := by decide +kernel
  have hS : va_S (aw q 8) s.heap s.heap [] := va_S.rf
  have hP : va_P D vwCl (w0 ci cz q F P g) s.heap := hP
  refine lv_iload_n hx hb dX0_needPerson_0 rfl (lv_at hl 1 rfl) ?_
  refine n_if_lt hx hb (by omega) dX0_needPerson_1 ⟨12, by decide⟩ ?_
  refine lv_iload_n hx hb dX0_needPerson_4 rfl (lv_at hl 1 rfl) ?_
  refine lv_aload_n hx hb dX0_needPerson_5 rfl (lv_at hl 0 rfl) ?_
  refine r_get Fx hin hK hP 0 rfl 4 (by decide) (by decide +kernel) rfl rfl dX0_needPerson_6 ?_
  refine n_icmp_lt (tgt := 22) hx hb (by omega) (by omega) dX0_needPerson_9 (by decide) (fun h2 => ?_) (fun h2 => by omega)
  exact r_vret hx hb hr hlocks dX0_needPerson_22
set_option maxHeartbeats 4000000 in
set_option maxRecDepth 100000 in
theorem m_X0_needPerson_x (l : Launch) (hl0 : l.stackTraces = false) {D : va_G} {ci cz : ClassId} {cj : ClassId × ClassId} {q : Nat → Nat} {F P : Nat} {g : Nat → Nat → Int32} (hF : F ≤ 6) (hP12 : P ≤ 12) (a : Int32) (ha0 : ¬ (inR a P)) : vx_Met l yX0_needPerson wsX0_needPerson ({ frames := 6, cells := 1, slots := 6, locals := 82 } : Room) (va_Pc [.ref (q 0), .int a] (B0 D ci cz cj q F P g)) FF (XQ xIO) 1 6 none_ := by
  refine vx_ofX (cc := cX0_needPerson) (maxL := 2) (ret := none) (by decide) rfl (Nat.le_of_ble_eq_true rfl) ?_
  intro pg en s m bl mt cd ls Fx hr hlocks hex hB hl
  obtain ⟨hP, hK, hE⟩ := hB
  have hl : lv_has ls 2 [(0, .ref (q 0)), (1, .int a)] := hl
  have Fx : CallFix pg m cd cX0_needPerson 2 s _ wsX0_needPerson RX0 := Fx
  have hx := Fx.1
  have hb := Fx.2.1
  have hin : ∀ w ∈ wsX00, w ∈ wsX0_needPerson := by decide +kernel
  have hS : va_S (aw q 8) s.heap s.heap [] := va_S.rf
  have hP : va_P D vwCl (w0 ci cz q F P g) s.heap := hP
  refine lv_iload_n hx hb dX0_needPerson_0 rfl (lv_at hl 1 rfl) ?_
  refine lv_if_lt (tgt := 12) hx hb dX0_needPerson_1 (by decide) (fun h1 => ?_) (fun h1 => ?_)
  · exact x0_throw (cls := xIO) (text := "no such person") Fx hl0 hE hS hex hlocks (by decide +kernel) (by decide +kernel) (by decide +kernel) (by decide +kernel) (by decide +kernel) hl.1 dX0_needPerson_12 dX0_needPerson_15 dX0_needPerson_16 dX0_needPerson_18 dX0_needPerson_21 (Nat.le_of_ble_eq_true rfl) (Nat.le_of_ble_eq_true rfl) (Nat.le_of_ble_eq_true rfl) (Nat.le_of_ble_eq_true rfl) (fun t ht => ⟨rfl, ht⟩) nin (Nat.le_refl _) (Nat.le_refl _)
  · have h1 := Int32.not_lt.mp h1
    refine lv_iload_n hx hb dX0_needPerson_4 rfl (lv_at hl 1 rfl) ?_
    refine lv_aload_n hx hb dX0_needPerson_5 rfl (lv_at hl 0 rfl) ?_
    refine r_get Fx hin hK hP 0 rfl 4 (by decide) (by decide +kernel) rfl rfl dX0_needPerson_6 ?_
    refine lv_icmp_lt (tgt := 22) hx hb dX0_needPerson_9 (by decide) (fun h2 => absurd ⟨h1, h2⟩ ha0) (fun h2 => ?_)
    exact x0_throw (cls := xIO) (text := "no such person") Fx hl0 hE hS hex hlocks (by decide +kernel) (by decide +kernel) (by decide +kernel) (by decide +kernel) (by decide +kernel) hl.1 dX0_needPerson_12 dX0_needPerson_15 dX0_needPerson_16 dX0_needPerson_18 dX0_needPerson_21 (Nat.le_of_ble_eq_true rfl) (Nat.le_of_ble_eq_true rfl) (Nat.le_of_ble_eq_true rfl) (Nat.le_of_ble_eq_true rfl) (fun t ht => ⟨rfl, ht⟩) nin (Nat.le_refl _) (Nat.le_refl _)
set_option maxHeartbeats 4000000 in
set_option maxRecDepth 100000 in
theorem m_X0_needFerry (l : Launch) {D : va_G} {ci cz : ClassId} {cj : ClassId × ClassId} {q : Nat → Nat} {F P : Nat} {g : Nat → Nat → Int32} (hF : F ≤ 6) (hP12 : P ≤ 12) (a : Nat) (ha0 : a < F) : Met l yX0_needFerry wsX0_needFerry ({ frames := 0, cells := 0, slots := 0, locals := 0 } : Room) (va_Pc [.ref (q 0), .int (nI a)] (B0 D ci cz cj q F P g)) (RQ none) 0 0 none_ := by
  refine Met.ofR (cc := cX0_needFerry) (maxL := 2) (ret := none) (by decide) rfl (Nat.le_of_ble_eq_true rfl) ?_
  intro pg en s m bl mt cd ls Fx hr hlocks hB hl
  obtain ⟨hP, hK, hE⟩ := hB
  have hl : lv_has ls 2 [(0, .ref (q 0)), (1, .int (nI a))] := hl
  have Fx : CallFix pg m cd cX0_needFerry 2 s _ wsX0_needFerry RX0 := Fx
  have hx := Fx.1
  have hb := Fx.2.1
  have hin : ∀ w ∈ wsX00, w ∈ wsX0_needFerry := by decide +kernel
  have hS : va_S (aw q 8) s.heap s.heap [] := va_S.rf
  have hP : va_P D vwCl (w0 ci cz q F P g) s.heap := hP
  refine lv_iload_n hx hb dX0_needFerry_0 rfl (lv_at hl 1 rfl) ?_
  refine n_if_lt hx hb (by omega) dX0_needFerry_1 ⟨12, by decide⟩ ?_
  refine lv_iload_n hx hb dX0_needFerry_4 rfl (lv_at hl 1 rfl) ?_
  refine lv_aload_n hx hb dX0_needFerry_5 rfl (lv_at hl 0 rfl) ?_
  refine r_get Fx hin hK hP 0 rfl 0 (by decide) (by decide +kernel) rfl rfl dX0_needFerry_6 ?_
  refine n_icmp_lt (tgt := 22) hx hb (by omega) (by omega) dX0_needFerry_9 (by decide) (fun h2 => ?_) (fun h2 => by omega)
  exact r_vret hx hb hr hlocks dX0_needFerry_22
set_option maxHeartbeats 4000000 in
set_option maxRecDepth 100000 in
theorem m_X0_needFerry_x (l : Launch) (hl0 : l.stackTraces = false) {D : va_G} {ci cz : ClassId} {cj : ClassId × ClassId} {q : Nat → Nat} {F P : Nat} {g : Nat → Nat → Int32} (hF : F ≤ 6) (hP12 : P ≤ 12) (a : Int32) (ha0 : ¬ (inR a F)) : vx_Met l yX0_needFerry wsX0_needFerry ({ frames := 6, cells := 1, slots := 6, locals := 82 } : Room) (va_Pc [.ref (q 0), .int a] (B0 D ci cz cj q F P g)) FF (XQ xIO) 1 6 none_ := by
  refine vx_ofX (cc := cX0_needFerry) (maxL := 2) (ret := none) (by decide) rfl (Nat.le_of_ble_eq_true rfl) ?_
  intro pg en s m bl mt cd ls Fx hr hlocks hex hB hl
  obtain ⟨hP, hK, hE⟩ := hB
  have hl : lv_has ls 2 [(0, .ref (q 0)), (1, .int a)] := hl
  have Fx : CallFix pg m cd cX0_needFerry 2 s _ wsX0_needFerry RX0 := Fx
  have hx := Fx.1
  have hb := Fx.2.1
  have hin : ∀ w ∈ wsX00, w ∈ wsX0_needFerry := by decide +kernel
  have hS : va_S (aw q 8) s.heap s.heap [] := va_S.rf
  have hP : va_P D vwCl (w0 ci cz q F P g) s.heap := hP
  refine lv_iload_n hx hb dX0_needFerry_0 rfl (lv_at hl 1 rfl) ?_
  refine lv_if_lt (tgt := 12) hx hb dX0_needFerry_1 (by decide) (fun h1 => ?_) (fun h1 => ?_)
  · exact x0_throw (cls := xIO) (text := "no such ferry") Fx hl0 hE hS hex hlocks (by decide +kernel) (by decide +kernel) (by decide +kernel) (by decide +kernel) (by decide +kernel) hl.1 dX0_needFerry_12 dX0_needFerry_15 dX0_needFerry_16 dX0_needFerry_18 dX0_needFerry_21 (Nat.le_of_ble_eq_true rfl) (Nat.le_of_ble_eq_true rfl) (Nat.le_of_ble_eq_true rfl) (Nat.le_of_ble_eq_true rfl) (fun t ht => ⟨rfl, ht⟩) nin (Nat.le_refl _) (Nat.le_refl _)
  · have h1 := Int32.not_lt.mp h1
    refine lv_iload_n hx hb dX0_needFerry_4 rfl (lv_at hl 1 rfl) ?_
    refine lv_aload_n hx hb dX0_needFerry_5 rfl (lv_at hl 0 rfl) ?_
    refine r_get Fx hin hK hP 0 rfl 0 (by decide) (by decide +kernel) rfl rfl dX0_needFerry_6 ?_
    refine lv_icmp_lt (tgt := 22) hx hb dX0_needFerry_9 (by decide) (fun h2 => absurd ⟨h1, h2⟩ ha0) (fun h2 => ?_)
    exact x0_throw (cls := xIO) (text := "no such ferry") Fx hl0 hE hS hex hlocks (by decide +kernel) (by decide +kernel) (by decide +kernel) (by decide +kernel) (by decide +kernel) hl.1 dX0_needFerry_12 dX0_needFerry_15 dX0_needFerry_16 dX0_needFerry_18 dX0_needFerry_21 (Nat.le_of_ble_eq_true rfl) (Nat.le_of_ble_eq_true rfl) (Nat.le_of_ble_eq_true rfl) (Nat.le_of_ble_eq_true rfl) (fun t ht => ⟨rfl, ht⟩) nin (Nat.le_refl _) (Nat.le_refl _)
set_option maxHeartbeats 4000000 in
set_option maxRecDepth 100000 in
theorem m_X0_needWatch (l : Launch) {D : va_G} {ci cz : ClassId} {cj : ClassId × ClassId} {q : Nat → Nat} {F P : Nat} {g : Nat → Nat → Int32} (hF : F ≤ 6) (hP12 : P ≤ 12) (a : Nat) (ha0 : a < 4) : Met l yX0_needWatch wsX0_needWatch ({ frames := 0, cells := 0, slots := 0, locals := 0 } : Room) (va_Pc [.int (nI a)] (B0 D ci cz cj q F P g)) (RQ none) 0 0 none_ := by
  refine Met.ofR (cc := cX0_needWatch) (maxL := 1) (ret := none) (by decide) rfl (Nat.le_of_ble_eq_true rfl) ?_
  intro pg en s m bl mt cd ls Fx hr hlocks hB hl
  obtain ⟨hP, hK, hE⟩ := hB
  have hl : lv_has ls 1 [(0, .int (nI a))] := hl
  have Fx : CallFix pg m cd cX0_needWatch 1 s _ wsX0_needWatch RX0 := Fx
  have hx := Fx.1
  have hb := Fx.2.1
  have hS : va_S (aw q 8) s.heap s.heap [] := va_S.rf
  have hP : va_P D vwCl (w0 ci cz q F P g) s.heap := hP
  refine lv_iload_n hx hb dX0_needWatch_0 rfl (lv_at hl 0 rfl) ?_
  refine n_if_lt hx hb (by omega) dX0_needWatch_1 ⟨9, by decide⟩ ?_
  refine lv_iload_n hx hb dX0_needWatch_4 rfl (lv_at hl 0 rfl) ?_
  refine lv_iconst (v := nI 4) hx hb dX0_needWatch_5 (by decide) ?_
  refine n_icmp_lt (tgt := 19) hx hb (by omega) (by omega) dX0_needWatch_6 (by decide) (fun h2 => ?_) (fun h2 => by omega)
  exact r_vret hx hb hr hlocks dX0_needWatch_19
set_option maxHeartbeats 4000000 in
set_option maxRecDepth 100000 in
theorem m_X0_needWatch_x (l : Launch) (hl0 : l.stackTraces = false) {D : va_G} {ci cz : ClassId} {cj : ClassId × ClassId} {q : Nat → Nat} {F P : Nat} {g : Nat → Nat → Int32} (hF : F ≤ 6) (hP12 : P ≤ 12) (a : Int32) (ha0 : ¬ (inR a 4)) : vx_Met l yX0_needWatch wsX0_needWatch ({ frames := 6, cells := 1, slots := 6, locals := 82 } : Room) (va_Pc [.int a] (B0 D ci cz cj q F P g)) FF (XQ xIO) 1 6 none_ := by
  refine vx_ofX (cc := cX0_needWatch) (maxL := 1) (ret := none) (by decide) rfl (Nat.le_of_ble_eq_true rfl) ?_
  intro pg en s m bl mt cd ls Fx hr hlocks hex hB hl
  obtain ⟨hP, hK, hE⟩ := hB
  have hl : lv_has ls 1 [(0, .int a)] := hl
  have Fx : CallFix pg m cd cX0_needWatch 1 s _ wsX0_needWatch RX0 := Fx
  have hx := Fx.1
  have hb := Fx.2.1
  have hS : va_S (aw q 8) s.heap s.heap [] := va_S.rf
  have hP : va_P D vwCl (w0 ci cz q F P g) s.heap := hP
  refine lv_iload_n hx hb dX0_needWatch_0 rfl (lv_at hl 0 rfl) ?_
  refine lv_if_lt (tgt := 9) hx hb dX0_needWatch_1 (by decide) (fun h1 => ?_) (fun h1 => ?_)
  · exact x0_throw (cls := xIO) (text := "no such watch") Fx hl0 hE hS hex hlocks (by decide +kernel) (by decide +kernel) (by decide +kernel) (by decide +kernel) (by decide +kernel) hl.1 dX0_needWatch_9 dX0_needWatch_12 dX0_needWatch_13 dX0_needWatch_15 dX0_needWatch_18 (Nat.le_of_ble_eq_true rfl) (Nat.le_of_ble_eq_true rfl) (Nat.le_of_ble_eq_true rfl) (Nat.le_of_ble_eq_true rfl) (fun t ht => ⟨rfl, ht⟩) nin (Nat.le_refl _) (Nat.le_refl _)
  · have h1 := Int32.not_lt.mp h1
    refine lv_iload_n hx hb dX0_needWatch_4 rfl (lv_at hl 0 rfl) ?_
    refine lv_iconst (v := nI 4) hx hb dX0_needWatch_5 (by decide) ?_
    refine lv_icmp_lt (tgt := 19) hx hb dX0_needWatch_6 (by decide) (fun h2 => absurd ⟨h1, h2⟩ ha0) (fun h2 => ?_)
    exact x0_throw (cls := xIO) (text := "no such watch") Fx hl0 hE hS hex hlocks (by decide +kernel) (by decide +kernel) (by decide +kernel) (by decide +kernel) (by decide +kernel) hl.1 dX0_needWatch_9 dX0_needWatch_12 dX0_needWatch_13 dX0_needWatch_15 dX0_needWatch_18 (Nat.le_of_ble_eq_true rfl) (Nat.le_of_ble_eq_true rfl) (Nat.le_of_ble_eq_true rfl) (Nat.le_of_ble_eq_true rfl) (fun t ht => ⟨rfl, ht⟩) nin (Nat.le_refl _) (Nat.le_refl _)
set_option maxHeartbeats 4000000 in
set_option maxRecDepth 100000 in
theorem m_X0_needHour (l : Launch) {D : va_G} {ci cz : ClassId} {cj : ClassId × ClassId} {q : Nat → Nat} {F P : Nat} {g : Nat → Nat → Int32} (hF : F ≤ 6) (hP12 : P ≤ 12) (a : Nat) (ha0 : a < 24) : Met l yX0_needHour wsX0_needHour ({ frames := 0, cells := 0, slots := 0, locals := 0 } : Room) (va_Pc [.int (nI a)] (B0 D ci cz cj q F P g)) (RQ none) 0 0 none_ := by
  refine Met.ofR (cc := cX0_needHour) (maxL := 1) (ret := none) (by decide) rfl (Nat.le_of_ble_eq_true rfl) ?_
  intro pg en s m bl mt cd ls Fx hr hlocks hB hl
  obtain ⟨hP, hK, hE⟩ := hB
  have hl : lv_has ls 1 [(0, .int (nI a))] := hl
  have Fx : CallFix pg m cd cX0_needHour 1 s _ wsX0_needHour RX0 := Fx
  have hx := Fx.1
  have hb := Fx.2.1
  have hS : va_S (aw q 8) s.heap s.heap [] := va_S.rf
  have hP : va_P D vwCl (w0 ci cz q F P g) s.heap := hP
  refine lv_iload_n hx hb dX0_needHour_0 rfl (lv_at hl 0 rfl) ?_
  refine n_if_lt hx hb (by omega) dX0_needHour_1 ⟨10, by decide⟩ ?_
  refine lv_iload_n hx hb dX0_needHour_4 rfl (lv_at hl 0 rfl) ?_
  refine lv_bipush (v := nI 24) hx hb dX0_needHour_5 (by decide) ?_
  refine n_icmp_lt (tgt := 20) hx hb (by omega) (by omega) dX0_needHour_7 (by decide) (fun h2 => ?_) (fun h2 => by omega)
  exact r_vret hx hb hr hlocks dX0_needHour_20
set_option maxHeartbeats 4000000 in
set_option maxRecDepth 100000 in
theorem m_X0_needHour_x (l : Launch) (hl0 : l.stackTraces = false) {D : va_G} {ci cz : ClassId} {cj : ClassId × ClassId} {q : Nat → Nat} {F P : Nat} {g : Nat → Nat → Int32} (hF : F ≤ 6) (hP12 : P ≤ 12) (a : Int32) (ha0 : ¬ (inR a 24)) : vx_Met l yX0_needHour wsX0_needHour ({ frames := 6, cells := 1, slots := 6, locals := 82 } : Room) (va_Pc [.int a] (B0 D ci cz cj q F P g)) FF (XQ xIO) 1 6 none_ := by
  refine vx_ofX (cc := cX0_needHour) (maxL := 1) (ret := none) (by decide) rfl (Nat.le_of_ble_eq_true rfl) ?_
  intro pg en s m bl mt cd ls Fx hr hlocks hex hB hl
  obtain ⟨hP, hK, hE⟩ := hB
  have hl : lv_has ls 1 [(0, .int a)] := hl
  have Fx : CallFix pg m cd cX0_needHour 1 s _ wsX0_needHour RX0 := Fx
  have hx := Fx.1
  have hb := Fx.2.1
  have hS : va_S (aw q 8) s.heap s.heap [] := va_S.rf
  have hP : va_P D vwCl (w0 ci cz q F P g) s.heap := hP
  refine lv_iload_n hx hb dX0_needHour_0 rfl (lv_at hl 0 rfl) ?_
  refine lv_if_lt (tgt := 10) hx hb dX0_needHour_1 (by decide) (fun h1 => ?_) (fun h1 => ?_)
  · exact x0_throw (cls := xIO) (text := "hour is not 0 to 23") Fx hl0 hE hS hex hlocks (by decide +kernel) (by decide +kernel) (by decide +kernel) (by decide +kernel) (by decide +kernel) hl.1 dX0_needHour_10 dX0_needHour_13 dX0_needHour_14 dX0_needHour_16 dX0_needHour_19 (Nat.le_of_ble_eq_true rfl) (Nat.le_of_ble_eq_true rfl) (Nat.le_of_ble_eq_true rfl) (Nat.le_of_ble_eq_true rfl) (fun t ht => ⟨rfl, ht⟩) nin (Nat.le_refl _) (Nat.le_refl _)
  · have h1 := Int32.not_lt.mp h1
    refine lv_iload_n hx hb dX0_needHour_4 rfl (lv_at hl 0 rfl) ?_
    refine lv_bipush (v := nI 24) hx hb dX0_needHour_5 (by decide) ?_
    refine lv_icmp_lt (tgt := 20) hx hb dX0_needHour_7 (by decide) (fun h2 => absurd ⟨h1, h2⟩ ha0) (fun h2 => ?_)
    exact x0_throw (cls := xIO) (text := "hour is not 0 to 23") Fx hl0 hE hS hex hlocks (by decide +kernel) (by decide +kernel) (by decide +kernel) (by decide +kernel) (by decide +kernel) hl.1 dX0_needHour_10 dX0_needHour_13 dX0_needHour_14 dX0_needHour_16 dX0_needHour_19 (Nat.le_of_ble_eq_true rfl) (Nat.le_of_ble_eq_true rfl) (Nat.le_of_ble_eq_true rfl) (Nat.le_of_ble_eq_true rfl) (fun t ht => ⟨rfl, ht⟩) nin (Nat.le_refl _) (Nat.le_refl _)
set_option maxHeartbeats 4000000 in
set_option maxRecDepth 100000 in
theorem m_X0_needToll (l : Launch) {D : va_G} {ci cz : ClassId} {cj : ClassId × ClassId} {q : Nat → Nat} {F P : Nat} {g : Nat → Nat → Int32} (hF : F ≤ 6) (hP12 : P ≤ 12) (a : Int32) (ha0 : 0 ≤ a ∧ a ≤ nI 20) : Met l yX0_needToll wsX0_needToll ({ frames := 0, cells := 0, slots := 0, locals := 0 } : Room) (va_Pc [.int a] (B0 D ci cz cj q F P g)) (RQ none) 0 0 none_ := by
  refine Met.ofR (cc := cX0_needToll) (maxL := 1) (ret := none) (by decide) rfl (Nat.le_of_ble_eq_true rfl) ?_
  intro pg en s m bl mt cd ls Fx hr hlocks hB hl
  obtain ⟨hP, hK, hE⟩ := hB
  have hl : lv_has ls 1 [(0, .int a)] := hl
  have Fx : CallFix pg m cd cX0_needToll 1 s _ wsX0_needToll RX0 := Fx
  have hx := Fx.1
  have hb := Fx.2.1
  have hS : va_S (aw q 8) s.heap s.heap [] := va_S.rf
  have hP : va_P D vwCl (w0 ci cz q F P g) s.heap := hP
  refine lv_iload_n hx hb dX0_needToll_0 rfl (lv_at hl 0 rfl) ?_
  refine lv_if_lt (tgt := 10) hx hb dX0_needToll_1 (by decide) (fun h1 => absurd h1 (Int32.not_lt.mpr ha0.1)) (fun h1 => ?_)
  refine lv_iload_n hx hb dX0_needToll_4 rfl (lv_at hl 0 rfl) ?_
  refine lv_bipush (v := nI 20) hx hb dX0_needToll_5 (by decide) ?_
  refine lv_icmp_le (tgt := 20) hx hb dX0_needToll_7 (by decide) (fun h2 => ?_) (fun h2 => absurd ha0.2 h2)
  exact r_vret hx hb hr hlocks dX0_needToll_20
set_option maxHeartbeats 4000000 in
set_option maxRecDepth 100000 in
theorem m_X0_needToll_x (l : Launch) (hl0 : l.stackTraces = false) {D : va_G} {ci cz : ClassId} {cj : ClassId × ClassId} {q : Nat → Nat} {F P : Nat} {g : Nat → Nat → Int32} (hF : F ≤ 6) (hP12 : P ≤ 12) (a : Int32) (ha0 : ¬ (0 ≤ a ∧ a ≤ nI 20)) : vx_Met l yX0_needToll wsX0_needToll ({ frames := 6, cells := 1, slots := 6, locals := 82 } : Room) (va_Pc [.int a] (B0 D ci cz cj q F P g)) FF (XQ xIA) 1 6 none_ := by
  refine vx_ofX (cc := cX0_needToll) (maxL := 1) (ret := none) (by decide) rfl (Nat.le_of_ble_eq_true rfl) ?_
  intro pg en s m bl mt cd ls Fx hr hlocks hex hB hl
  obtain ⟨hP, hK, hE⟩ := hB
  have hl : lv_has ls 1 [(0, .int a)] := hl
  have Fx : CallFix pg m cd cX0_needToll 1 s _ wsX0_needToll RX0 := Fx
  have hx := Fx.1
  have hb := Fx.2.1
  have hS : va_S (aw q 8) s.heap s.heap [] := va_S.rf
  have hP : va_P D vwCl (w0 ci cz q F P g) s.heap := hP
  refine lv_iload_n hx hb dX0_needToll_0 rfl (lv_at hl 0 rfl) ?_
  refine lv_if_lt (tgt := 10) hx hb dX0_needToll_1 (by decide) (fun h1 => ?_) (fun h1 => ?_)
  · exact x0_throw (cls := xIA) (text := "toll is not 0 to 20") Fx hl0 hE hS hex hlocks (by decide +kernel) (by decide +kernel) (by decide +kernel) (by decide +kernel) (by decide +kernel) hl.1 dX0_needToll_10 dX0_needToll_13 dX0_needToll_14 dX0_needToll_16 dX0_needToll_19 (Nat.le_of_ble_eq_true rfl) (Nat.le_of_ble_eq_true rfl) (Nat.le_of_ble_eq_true rfl) (Nat.le_of_ble_eq_true rfl) (fun t ht => ⟨rfl, ht⟩) nin (Nat.le_refl _) (Nat.le_refl _)
  · have h1 := Int32.not_lt.mp h1
    refine lv_iload_n hx hb dX0_needToll_4 rfl (lv_at hl 0 rfl) ?_
    refine lv_bipush (v := nI 20) hx hb dX0_needToll_5 (by decide) ?_
    refine lv_icmp_le (tgt := 20) hx hb dX0_needToll_7 (by decide) (fun h2 => absurd ⟨h1, h2⟩ ha0) (fun h2 => ?_)
    exact x0_throw (cls := xIA) (text := "toll is not 0 to 20") Fx hl0 hE hS hex hlocks (by decide +kernel) (by decide +kernel) (by decide +kernel) (by decide +kernel) (by decide +kernel) hl.1 dX0_needToll_10 dX0_needToll_13 dX0_needToll_14 dX0_needToll_16 dX0_needToll_19 (Nat.le_of_ble_eq_true rfl) (Nat.le_of_ble_eq_true rfl) (Nat.le_of_ble_eq_true rfl) (Nat.le_of_ble_eq_true rfl) (fun t ht => ⟨rfl, ht⟩) nin (Nat.le_refl _) (Nat.le_refl _)
set_option maxHeartbeats 4000000 in
set_option maxRecDepth 100000 in
theorem m_X0_needShares (l : Launch) {D : va_G} {ci cz : ClassId} {cj : ClassId × ClassId} {q : Nat → Nat} {F P : Nat} {g : Nat → Nat → Int32} (hF : F ≤ 6) (hP12 : P ≤ 12) (a : Int32) (ha0 : inB 1 64 a) : Met l yX0_needShares wsX0_needShares ({ frames := 0, cells := 0, slots := 0, locals := 0 } : Room) (va_Pc [.int a] (B0 D ci cz cj q F P g)) (RQ none) 0 0 none_ := by
  refine Met.ofR (cc := cX0_needShares) (maxL := 1) (ret := none) (by decide) rfl (Nat.le_of_ble_eq_true rfl) ?_
  intro pg en s m bl mt cd ls Fx hr hlocks hB hl
  obtain ⟨hP, hK, hE⟩ := hB
  have hl : lv_has ls 1 [(0, .int a)] := hl
  have Fx : CallFix pg m cd cX0_needShares 1 s _ wsX0_needShares RX0 := Fx
  have hx := Fx.1
  have hb := Fx.2.1
  have hS : va_S (aw q 8) s.heap s.heap [] := va_S.rf
  have hP : va_P D vwCl (w0 ci cz q F P g) s.heap := hP
  refine lv_iload_n hx hb dX0_needShares_0 rfl (lv_at hl 0 rfl) ?_
  refine lv_iconst (v := nI 1) hx hb dX0_needShares_1 (by decide) ?_
  refine lv_icmp_lt (tgt := 11) hx hb dX0_needShares_2 (by decide) (fun h1 => absurd h1 (Int32.not_lt.mpr ha0.1)) (fun h1 => ?_)
  refine lv_iload_n hx hb dX0_needShares_5 rfl (lv_at hl 0 rfl) ?_
  refine lv_bipush (v := nI 64) hx hb dX0_needShares_6 (by decide) ?_
  refine lv_icmp_le (tgt := 21) hx hb dX0_needShares_8 (by decide) (fun h2 => ?_) (fun h2 => absurd ha0.2 h2)
  exact r_vret hx hb hr hlocks dX0_needShares_21
set_option maxHeartbeats 4000000 in
set_option maxRecDepth 100000 in
theorem m_X0_needShares_x (l : Launch) (hl0 : l.stackTraces = false) {D : va_G} {ci cz : ClassId} {cj : ClassId × ClassId} {q : Nat → Nat} {F P : Nat} {g : Nat → Nat → Int32} (hF : F ≤ 6) (hP12 : P ≤ 12) (a : Int32) (ha0 : ¬ (inB 1 64 a)) : vx_Met l yX0_needShares wsX0_needShares ({ frames := 6, cells := 1, slots := 6, locals := 82 } : Room) (va_Pc [.int a] (B0 D ci cz cj q F P g)) FF (XQ xIA) 1 6 none_ := by
  refine vx_ofX (cc := cX0_needShares) (maxL := 1) (ret := none) (by decide) rfl (Nat.le_of_ble_eq_true rfl) ?_
  intro pg en s m bl mt cd ls Fx hr hlocks hex hB hl
  obtain ⟨hP, hK, hE⟩ := hB
  have hl : lv_has ls 1 [(0, .int a)] := hl
  have Fx : CallFix pg m cd cX0_needShares 1 s _ wsX0_needShares RX0 := Fx
  have hx := Fx.1
  have hb := Fx.2.1
  have hS : va_S (aw q 8) s.heap s.heap [] := va_S.rf
  have hP : va_P D vwCl (w0 ci cz q F P g) s.heap := hP
  refine lv_iload_n hx hb dX0_needShares_0 rfl (lv_at hl 0 rfl) ?_
  refine lv_iconst (v := nI 1) hx hb dX0_needShares_1 (by decide) ?_
  refine lv_icmp_lt (tgt := 11) hx hb dX0_needShares_2 (by decide) (fun h1 => ?_) (fun h1 => ?_)
  · exact x0_throw (cls := xIA) (text := "shares is not 1 to 64") Fx hl0 hE hS hex hlocks (by decide +kernel) (by decide +kernel) (by decide +kernel) (by decide +kernel) (by decide +kernel) hl.1 dX0_needShares_11 dX0_needShares_14 dX0_needShares_15 dX0_needShares_17 dX0_needShares_20 (Nat.le_of_ble_eq_true rfl) (Nat.le_of_ble_eq_true rfl) (Nat.le_of_ble_eq_true rfl) (Nat.le_of_ble_eq_true rfl) (fun t ht => ⟨rfl, ht⟩) nin (Nat.le_refl _) (Nat.le_refl _)
  · have h1 := Int32.not_lt.mp h1
    refine lv_iload_n hx hb dX0_needShares_5 rfl (lv_at hl 0 rfl) ?_
    refine lv_bipush (v := nI 64) hx hb dX0_needShares_6 (by decide) ?_
    refine lv_icmp_le (tgt := 21) hx hb dX0_needShares_8 (by decide) (fun h2 => absurd ⟨h1, h2⟩ ha0) (fun h2 => ?_)
    exact x0_throw (cls := xIA) (text := "shares is not 1 to 64") Fx hl0 hE hS hex hlocks (by decide +kernel) (by decide +kernel) (by decide +kernel) (by decide +kernel) (by decide +kernel) hl.1 dX0_needShares_11 dX0_needShares_14 dX0_needShares_15 dX0_needShares_17 dX0_needShares_20 (Nat.le_of_ble_eq_true rfl) (Nat.le_of_ble_eq_true rfl) (Nat.le_of_ble_eq_true rfl) (Nat.le_of_ble_eq_true rfl) (fun t ht => ⟨rfl, ht⟩) nin (Nat.le_refl _) (Nat.le_refl _)
set_option maxHeartbeats 4000000 in
set_option maxRecDepth 100000 in
theorem m_X0_needPassengers (l : Launch) {D : va_G} {ci cz : ClassId} {cj : ClassId × ClassId} {q : Nat → Nat} {F P : Nat} {g : Nat → Nat → Int32} (hF : F ≤ 6) (hP12 : P ≤ 12) (a : Int32) (ha0 : inB 1 200 a) : Met l yX0_needPassengers wsX0_needPassengers ({ frames := 0, cells := 0, slots := 0, locals := 0 } : Room) (va_Pc [.int a] (B0 D ci cz cj q F P g)) (RQ none) 0 0 none_ := by
  refine Met.ofR (cc := cX0_needPassengers) (maxL := 1) (ret := none) (by decide) rfl (Nat.le_of_ble_eq_true rfl) ?_
  intro pg en s m bl mt cd ls Fx hr hlocks hB hl
  obtain ⟨hP, hK, hE⟩ := hB
  have hl : lv_has ls 1 [(0, .int a)] := hl
  have Fx : CallFix pg m cd cX0_needPassengers 1 s _ wsX0_needPassengers RX0 := Fx
  have hx := Fx.1
  have hb := Fx.2.1
  have hS : va_S (aw q 8) s.heap s.heap [] := va_S.rf
  have hP : va_P D vwCl (w0 ci cz q F P g) s.heap := hP
  refine lv_iload_n hx hb dX0_needPassengers_0 rfl (lv_at hl 0 rfl) ?_
  refine lv_iconst (v := nI 1) hx hb dX0_needPassengers_1 (by decide) ?_
  refine lv_icmp_lt (tgt := 12) hx hb dX0_needPassengers_2 (by decide) (fun h1 => absurd h1 (Int32.not_lt.mpr ha0.1)) (fun h1 => ?_)
  refine lv_iload_n hx hb dX0_needPassengers_5 rfl (lv_at hl 0 rfl) ?_
  refine lv_sipush (v := nI 200) hx hb dX0_needPassengers_6 (by decide) ?_
  refine lv_icmp_le (tgt := 22) hx hb dX0_needPassengers_9 (by decide) (fun h2 => ?_) (fun h2 => absurd ha0.2 h2)
  exact r_vret hx hb hr hlocks dX0_needPassengers_22
set_option maxHeartbeats 4000000 in
set_option maxRecDepth 100000 in
theorem m_X0_needPassengers_x (l : Launch) (hl0 : l.stackTraces = false) {D : va_G} {ci cz : ClassId} {cj : ClassId × ClassId} {q : Nat → Nat} {F P : Nat} {g : Nat → Nat → Int32} (hF : F ≤ 6) (hP12 : P ≤ 12) (a : Int32) (ha0 : ¬ (inB 1 200 a)) : vx_Met l yX0_needPassengers wsX0_needPassengers ({ frames := 6, cells := 1, slots := 6, locals := 82 } : Room) (va_Pc [.int a] (B0 D ci cz cj q F P g)) FF (XQ xIA) 1 6 none_ := by
  refine vx_ofX (cc := cX0_needPassengers) (maxL := 1) (ret := none) (by decide) rfl (Nat.le_of_ble_eq_true rfl) ?_
  intro pg en s m bl mt cd ls Fx hr hlocks hex hB hl
  obtain ⟨hP, hK, hE⟩ := hB
  have hl : lv_has ls 1 [(0, .int a)] := hl
  have Fx : CallFix pg m cd cX0_needPassengers 1 s _ wsX0_needPassengers RX0 := Fx
  have hx := Fx.1
  have hb := Fx.2.1
  have hS : va_S (aw q 8) s.heap s.heap [] := va_S.rf
  have hP : va_P D vwCl (w0 ci cz q F P g) s.heap := hP
  refine lv_iload_n hx hb dX0_needPassengers_0 rfl (lv_at hl 0 rfl) ?_
  refine lv_iconst (v := nI 1) hx hb dX0_needPassengers_1 (by decide) ?_
  refine lv_icmp_lt (tgt := 12) hx hb dX0_needPassengers_2 (by decide) (fun h1 => ?_) (fun h1 => ?_)
  · exact x0_throw (cls := xIA) (text := "passengers is not 1 to 200") Fx hl0 hE hS hex hlocks (by decide +kernel) (by decide +kernel) (by decide +kernel) (by decide +kernel) (by decide +kernel) hl.1 dX0_needPassengers_12 dX0_needPassengers_15 dX0_needPassengers_16 dX0_needPassengers_18 dX0_needPassengers_21 (Nat.le_of_ble_eq_true rfl) (Nat.le_of_ble_eq_true rfl) (Nat.le_of_ble_eq_true rfl) (Nat.le_of_ble_eq_true rfl) (fun t ht => ⟨rfl, ht⟩) nin (Nat.le_refl _) (Nat.le_refl _)
  · have h1 := Int32.not_lt.mp h1
    refine lv_iload_n hx hb dX0_needPassengers_5 rfl (lv_at hl 0 rfl) ?_
    refine lv_sipush (v := nI 200) hx hb dX0_needPassengers_6 (by decide) ?_
    refine lv_icmp_le (tgt := 22) hx hb dX0_needPassengers_9 (by decide) (fun h2 => absurd ⟨h1, h2⟩ ha0) (fun h2 => ?_)
    exact x0_throw (cls := xIA) (text := "passengers is not 1 to 200") Fx hl0 hE hS hex hlocks (by decide +kernel) (by decide +kernel) (by decide +kernel) (by decide +kernel) (by decide +kernel) hl.1 dX0_needPassengers_12 dX0_needPassengers_15 dX0_needPassengers_16 dX0_needPassengers_18 dX0_needPassengers_21 (Nat.le_of_ble_eq_true rfl) (Nat.le_of_ble_eq_true rfl) (Nat.le_of_ble_eq_true rfl) (Nat.le_of_ble_eq_true rfl) (fun t ht => ⟨rfl, ht⟩) nin (Nat.le_refl _) (Nat.le_refl _)
set_option maxHeartbeats 4000000 in
set_option maxRecDepth 100000 in
theorem m_X0_needAlive (l : Launch) {D : va_G} {ci cz : ClassId} {cj : ClassId × ClassId} {q : Nat → Nat} {F P : Nat} {g : Nat → Nat → Int32} (hF : F ≤ 6) (hP12 : P ≤ 12) (k : Nat) (ha0 : k < P) (ha1 : lv g k = true) : Met l yX0_needAlive wsX0_needAlive ({ frames := 0, cells := 0, slots := 0, locals := 0 } : Room) (va_Pc [.ref (q 0), .int (nI k)] (B0 D ci cz cj q F P g)) (RQ none) 0 0 none_ := by
  refine Met.ofR (cc := cX0_needAlive) (maxL := 2) (ret := none) (by decide) rfl (Nat.le_of_ble_eq_true rfl) ?_
  intro pg en s m bl mt cd ls Fx hr hlocks hB hl
  obtain ⟨hP, hK, hE⟩ := hB
  have hl : lv_has ls 2 [(0, .ref (q 0)), (1, .int (nI k))] := hl
  have Fx : CallFix pg m cd cX0_needAlive 2 s _ wsX0_needAlive RX0 := Fx
  have hx := Fx.1
  have hb := Fx.2.1
  have hin : ∀ w ∈ wsX00, w ∈ wsX0_needAlive := by decide +kernel
  have hS : va_S (aw q 8) s.heap s.heap [] := va_S.rf
  have hP : va_P D vwCl (w0 ci cz q F P g) s.heap := hP
  refine lv_aload_n hx hb dX0_needAlive_0 rfl (lv_at hl 0 rfl) ?_
  refine r_get Fx hin hK hP 0 rfl 5 (by decide) (by decide +kernel) rfl rfl dX0_needAlive_1 ?_
  refine lv_iload_n hx hb dX0_needAlive_4 rfl (lv_at hl 1 rfl) ?_
  refine r_alive Fx hK hP (i := k) (by omega) (by omega) dX0_needAlive_5 ?_
  refine b_if_ne (tgt := 19) hx hb dX0_needAlive_6 (by decide) (fun h1 => ?_) (fun h1 => absurd (ha1.symm.trans h1) (by decide))
  exact r_vret hx hb hr hlocks dX0_needAlive_19
set_option maxHeartbeats 4000000 in
set_option maxRecDepth 100000 in
theorem m_X0_needAlive_x (l : Launch) (hl0 : l.stackTraces = false) {D : va_G} {ci cz : ClassId} {cj : ClassId × ClassId} {q : Nat → Nat} {F P : Nat} {g : Nat → Nat → Int32} (hF : F ≤ 6) (hP12 : P ≤ 12) (k : Nat) (ha0 : k < P) (ha1 : ¬ (lv g k = true)) : vx_Met l yX0_needAlive wsX0_needAlive ({ frames := 6, cells := 1, slots := 6, locals := 82 } : Room) (va_Pc [.ref (q 0), .int (nI k)] (B0 D ci cz cj q F P g)) FF (XQ xIS) 1 6 none_ := by
  refine vx_ofX (cc := cX0_needAlive) (maxL := 2) (ret := none) (by decide) rfl (Nat.le_of_ble_eq_true rfl) ?_
  intro pg en s m bl mt cd ls Fx hr hlocks hex hB hl
  obtain ⟨hP, hK, hE⟩ := hB
  have hl : lv_has ls 2 [(0, .ref (q 0)), (1, .int (nI k))] := hl
  have Fx : CallFix pg m cd cX0_needAlive 2 s _ wsX0_needAlive RX0 := Fx
  have hx := Fx.1
  have hb := Fx.2.1
  have hin : ∀ w ∈ wsX00, w ∈ wsX0_needAlive := by decide +kernel
  have hS : va_S (aw q 8) s.heap s.heap [] := va_S.rf
  have hP : va_P D vwCl (w0 ci cz q F P g) s.heap := hP
  refine lv_aload_n hx hb dX0_needAlive_0 rfl (lv_at hl 0 rfl) ?_
  refine r_get Fx hin hK hP 0 rfl 5 (by decide) (by decide +kernel) rfl rfl dX0_needAlive_1 ?_
  refine lv_iload_n hx hb dX0_needAlive_4 rfl (lv_at hl 1 rfl) ?_
  refine r_alive Fx hK hP (i := k) (by omega) (by omega) dX0_needAlive_5 ?_
  refine b_if_ne (tgt := 19) hx hb dX0_needAlive_6 (by decide) (fun h1 => absurd h1 ha1) (fun h1 => ?_)
  exact x0_throw (cls := xIS) (text := "this person is dead") Fx hl0 hE hS hex hlocks (by decide +kernel) (by decide +kernel) (by decide +kernel) (by decide +kernel) (by decide +kernel) hl.1 dX0_needAlive_9 dX0_needAlive_12 dX0_needAlive_13 dX0_needAlive_15 dX0_needAlive_18 (Nat.le_of_ble_eq_true rfl) (Nat.le_of_ble_eq_true rfl) (Nat.le_of_ble_eq_true rfl) (Nat.le_of_ble_eq_true rfl) (fun t ht => ⟨rfl, ht⟩) nin (Nat.le_refl _) (Nat.le_refl _)
set_option maxHeartbeats 4000000 in
set_option maxRecDepth 100000 in
theorem m_X0_needRoomForPerson (l : Launch) {D : va_G} {ci cz : ClassId} {cj : ClassId × ClassId} {q : Nat → Nat} {F P : Nat} {g : Nat → Nat → Int32} (hF : F ≤ 6) (hP12 : P ≤ 12) (ha0 : P < 12) : Met l yX0_needRoomForPerson wsX0_needRoomForPerson ({ frames := 0, cells := 0, slots := 0, locals := 0 } : Room) (va_Pc [.ref (q 0)] (B0 D ci cz cj q F P g)) (RQ none) 0 0 none_ := by
  refine Met.ofR (cc := cX0_needRoomForPerson) (maxL := 1) (ret := none) (by decide) rfl (Nat.le_of_ble_eq_true rfl) ?_
  intro pg en s m bl mt cd ls Fx hr hlocks hB hl
  obtain ⟨hP, hK, hE⟩ := hB
  have hl : lv_has ls 1 [(0, .ref (q 0))] := hl
  have Fx : CallFix pg m cd cX0_needRoomForPerson 1 s _ wsX0_needRoomForPerson RX0 := Fx
  have hx := Fx.1
  have hb := Fx.2.1
  have hin : ∀ w ∈ wsX00, w ∈ wsX0_needRoomForPerson := by decide +kernel
  have hS : va_S (aw q 8) s.heap s.heap [] := va_S.rf
  have hP : va_P D vwCl (w0 ci cz q F P g) s.heap := hP
  refine lv_aload_n hx hb dX0_needRoomForPerson_0 rfl (lv_at hl 0 rfl) ?_
  refine r_get Fx hin hK hP 0 rfl 4 (by decide) (by decide +kernel) rfl rfl dX0_needRoomForPerson_1 ?_
  refine lv_bipush (v := nI 12) hx hb dX0_needRoomForPerson_4 (by decide) ?_
  refine n_icmp_lt (tgt := 19) hx hb (by omega) (by omega) dX0_needRoomForPerson_6 (by decide) (fun h1 => ?_) (fun h1 => by omega)
  exact r_vret hx hb hr hlocks dX0_needRoomForPerson_19
set_option maxHeartbeats 4000000 in
set_option maxRecDepth 100000 in
theorem m_X0_needRoomForPerson_x (l : Launch) (hl0 : l.stackTraces = false) {D : va_G} {ci cz : ClassId} {cj : ClassId × ClassId} {q : Nat → Nat} {F P : Nat} {g : Nat → Nat → Int32} (hF : F ≤ 6) (hP12 : P ≤ 12) (ha0 : ¬ (P < 12)) : vx_Met l yX0_needRoomForPerson wsX0_needRoomForPerson ({ frames := 6, cells := 1, slots := 6, locals := 82 } : Room) (va_Pc [.ref (q 0)] (B0 D ci cz cj q F P g)) FF (XQ xIS) 1 6 none_ := by
  refine vx_ofX (cc := cX0_needRoomForPerson) (maxL := 1) (ret := none) (by decide) rfl (Nat.le_of_ble_eq_true rfl) ?_
  intro pg en s m bl mt cd ls Fx hr hlocks hex hB hl
  obtain ⟨hP, hK, hE⟩ := hB
  have hl : lv_has ls 1 [(0, .ref (q 0))] := hl
  have Fx : CallFix pg m cd cX0_needRoomForPerson 1 s _ wsX0_needRoomForPerson RX0 := Fx
  have hx := Fx.1
  have hb := Fx.2.1
  have hin : ∀ w ∈ wsX00, w ∈ wsX0_needRoomForPerson := by decide +kernel
  have hS : va_S (aw q 8) s.heap s.heap [] := va_S.rf
  have hP : va_P D vwCl (w0 ci cz q F P g) s.heap := hP
  refine lv_aload_n hx hb dX0_needRoomForPerson_0 rfl (lv_at hl 0 rfl) ?_
  refine r_get Fx hin hK hP 0 rfl 4 (by decide) (by decide +kernel) rfl rfl dX0_needRoomForPerson_1 ?_
  refine lv_bipush (v := nI 12) hx hb dX0_needRoomForPerson_4 (by decide) ?_
  refine n_icmp_lt (tgt := 19) hx hb (by omega) (by omega) dX0_needRoomForPerson_6 (by decide) (fun h1 => by omega) (fun h1 => ?_)
  exact x0_throw (cls := xIS) (text := "there are 12 people") Fx hl0 hE hS hex hlocks (by decide +kernel) (by decide +kernel) (by decide +kernel) (by decide +kernel) (by decide +kernel) hl.1 dX0_needRoomForPerson_9 dX0_needRoomForPerson_12 dX0_needRoomForPerson_13 dX0_needRoomForPerson_15 dX0_needRoomForPerson_18 (Nat.le_of_ble_eq_true rfl) (Nat.le_of_ble_eq_true rfl) (Nat.le_of_ble_eq_true rfl) (Nat.le_of_ble_eq_true rfl) (fun t ht => ⟨rfl, ht⟩) nin (Nat.le_refl _) (Nat.le_refl _)
set_option maxHeartbeats 4000000 in
set_option maxRecDepth 100000 in
theorem m_X0_needSale (l : Launch) {D : va_G} {ci cz : ClassId} {cj : ClassId × ClassId} {q : Nat → Nat} {F P : Nat} {g : Nat → Nat → Int32} (hF : F ≤ 6) (hP12 : P ≤ 12) (a : Nat) (b : Nat) (f : Nat) (w : Nat) (ha0 : a < P) (ha1 : b < P) (ha2 : f < F) (ha3 : w < 4) : Met l yX0_needSale wsX0_needSale ({ frames := 1, cells := 0, slots := 0, locals := 21 } : Room) (va_Pc [.ref (q 0), .int (nI a), .int (nI b), .int (nI f), .int (nI w)] (B0 D ci cz cj q F P g)) (RQ none) 0 0 none_ := by
  refine Met.ofR (cc := cX0_needSale) (maxL := 5) (ret := none) (by decide) rfl (Nat.le_of_ble_eq_true rfl) ?_
  intro pg en s m bl mt cd ls Fx hr hlocks hB hl
  obtain ⟨hP, hK, hE⟩ := hB
  have hl : lv_has ls 5 [(0, .ref (q 0)), (1, .int (nI a)), (2, .int (nI b)), (3, .int (nI f)), (4, .int (nI w))] := hl
  have Fx : CallFix pg m cd cX0_needSale 5 s _ wsX0_needSale RX0 := Fx
  have hx := Fx.1
  have hb := Fx.2.1
  have hS : va_S (aw q 8) s.heap s.heap [] := va_S.rf
  have hP : va_P D vwCl (w0 ci cz q F P g) s.heap := hP
  refine lv_aload_n hx hb dX0_needSale_0 rfl (lv_at hl 0 rfl) ?_
  refine lv_iload_n hx hb dX0_needSale_1 rfl (lv_at hl 1 rfl) ?_
  refine r_callR (rest := []) Fx (m_X0_needPerson l (D := D) (ci := ci) (cz := cz) (cj := cj) (q := q) (F := F) (P := P) (g := g) hF hP12 a (by omega)) (cwV 1 Fx.2.2.2.2 gX0_needSale_X0_needPerson rfl rfl rfl (by decide +kernel) ⟨Nat.le_of_ble_eq_true rfl, Nat.le_of_ble_eq_true rfl⟩) BW.bl (va_recv hK hP (ci := 0) (q0 := 0) rfl rfl) (BW.at hP hK hE hS) rfl hl.1 rfl (Nat.le_of_ble_eq_true rfl) dX0_needSale_2 ⟨Nat.zero_le _, Nat.zero_le _⟩ ?_
  refine lv_aload_n hx hb dX0_needSale_5 rfl (lv_at hl 0 rfl) ?_
  refine lv_iload_n hx hb dX0_needSale_6 rfl (lv_at hl 2 rfl) ?_
  refine r_callR (rest := []) Fx (m_X0_needPerson l (D := D) (ci := ci) (cz := cz) (cj := cj) (q := q) (F := F) (P := P) (g := g) hF hP12 b (by omega)) (cwV 1 Fx.2.2.2.2 gX0_needSale_X0_needPerson rfl rfl rfl (by decide +kernel) ⟨Nat.le_of_ble_eq_true rfl, Nat.le_of_ble_eq_true rfl⟩) BW.bl (va_recv hK hP (ci := 0) (q0 := 0) rfl rfl) (BW.at hP hK hE hS) rfl hl.1 rfl (Nat.le_of_ble_eq_true rfl) dX0_needSale_7 ⟨Nat.zero_le _, Nat.zero_le _⟩ ?_
  refine lv_aload_n hx hb dX0_needSale_10 rfl (lv_at hl 0 rfl) ?_
  refine lv_iload_n hx hb dX0_needSale_11 rfl (lv_at hl 3 rfl) ?_
  refine r_callR (rest := []) Fx (m_X0_needFerry l (D := D) (ci := ci) (cz := cz) (cj := cj) (q := q) (F := F) (P := P) (g := g) hF hP12 f (by omega)) (cwV 1 Fx.2.2.2.2 gX0_needSale_X0_needFerry rfl rfl rfl (by decide +kernel) ⟨Nat.le_of_ble_eq_true rfl, Nat.le_of_ble_eq_true rfl⟩) BW.bl (va_recv hK hP (ci := 0) (q0 := 0) rfl rfl) (BW.at hP hK hE hS) rfl hl.1 rfl (Nat.le_of_ble_eq_true rfl) dX0_needSale_12 ⟨Nat.zero_le _, Nat.zero_le _⟩ ?_
  refine lv_iload hx hb dX0_needSale_15 (lv_at hl 4 rfl) ?_
  refine r_callRS (rest := []) Fx (m_X0_needWatch l (D := D) (ci := ci) (cz := cz) (cj := cj) (q := q) (F := F) (P := P) (g := g) hF hP12 w (by omega)) (va_cwS 1 Fx.2.2.2.2 gX0_needSale_X0_needWatch rfl rfl rfl (by decide +kernel) ⟨Nat.le_of_ble_eq_true rfl, Nat.le_of_ble_eq_true rfl⟩) BW.bl (BW.at hP hK hE hS) rfl hl.1 rfl (Nat.le_of_ble_eq_true rfl) dX0_needSale_17 ⟨Nat.zero_le _, Nat.zero_le _⟩ ?_
  exact r_vret hx hb hr hlocks dX0_needSale_20
set_option maxHeartbeats 4000000 in
set_option maxRecDepth 100000 in
theorem m_X0_needSale_x (l : Launch) (hl0 : l.stackTraces = false) {D : va_G} {ci cz : ClassId} {cj : ClassId × ClassId} {q : Nat → Nat} {F P : Nat} {g : Nat → Nat → Int32} (hF : F ≤ 6) (hP12 : P ≤ 12) (a : Int32) (b : Int32) (f : Int32) (w : Int32) (ha0 : ¬ (inR a P ∧ inR b P ∧ inR f F ∧ inR w 4)) : vx_Met l yX0_needSale wsX0_needSale ({ frames := 7, cells := 1, slots := 6, locals := 103 } : Room) (va_Pc [.ref (q 0), .int a, .int b, .int f, .int w] (B0 D ci cz cj q F P g)) FF (XQ xIO) 1 6 none_ := by
  refine vx_ofX (cc := cX0_needSale) (maxL := 5) (ret := none) (by decide) rfl (Nat.le_of_ble_eq_true rfl) ?_
  intro pg en s m bl mt cd ls Fx hr hlocks hex hB hl
  obtain ⟨hP, hK, hE⟩ := hB
  have hl : lv_has ls 5 [(0, .ref (q 0)), (1, .int a), (2, .int b), (3, .int f), (4, .int w)] := hl
  have Fx : CallFix pg m cd cX0_needSale 5 s _ wsX0_needSale RX0 := Fx
  have hx := Fx.1
  have hb := Fx.2.1
  have hS : va_S (aw q 8) s.heap s.heap [] := va_S.rf
  have hP : va_P D vwCl (w0 ci cz q F P g) s.heap := hP
  refine lv_aload_n hx hb dX0_needSale_0 rfl (lv_at hl 0 rfl) ?_
  refine lv_iload_n hx hb dX0_needSale_1 rfl (lv_at hl 1 rfl) ?_
  by_cases h1 : inR a P
  rotate_left
  · refine r_callX (rest := []) Fx (m_X0_needPerson_x l hl0 (D := D) (ci := ci) (cz := cz) (cj := cj) (q := q) (F := F) (P := P) (g := g) hF hP12 a h1) (cwV 1 Fx.2.2.2.2 gX0_needSale_X0_needPerson rfl rfl rfl (by decide +kernel) ⟨Nat.le_of_ble_eq_true rfl, Nat.le_of_ble_eq_true rfl⟩) BW.bl (va_recv hK hP (ci := 0) (q0 := 0) rfl rfl) (BW.at hP hK hE hS) rfl hl.1 rfl (Nat.le_of_ble_eq_true rfl) dX0_needSale_2 ⟨Nat.le_of_ble_eq_true rfl, Nat.le_of_ble_eq_true rfl⟩ (fun ce q9 H1 hh hce hcv hcl => ?_)
    exact x_out hex hlocks hh hce hcv hcl (Nat.le_refl _) (Nat.le_refl _)
  obtain ⟨ja, h2, rfl⟩ := inR_of h1 (by omega)
  have h3 : ix (nI ja) = ja := ix_nI (by omega)
  refine r_callR (rest := []) Fx (m_X0_needPerson l (D := D) (ci := ci) (cz := cz) (cj := cj) (q := q) (F := F) (P := P) (g := g) hF hP12 ja (by omega)) (cwV 1 Fx.2.2.2.2 gX0_needSale_X0_needPerson rfl rfl rfl (by decide +kernel) ⟨Nat.le_of_ble_eq_true rfl, Nat.le_of_ble_eq_true rfl⟩) BW.bl (va_recv hK hP (ci := 0) (q0 := 0) rfl rfl) (BW.at hP hK hE hS) rfl hl.1 rfl (Nat.le_of_ble_eq_true rfl) dX0_needSale_2 ⟨Nat.zero_le _, Nat.zero_le _⟩ ?_
  refine lv_aload_n hx hb dX0_needSale_5 rfl (lv_at hl 0 rfl) ?_
  refine lv_iload_n hx hb dX0_needSale_6 rfl (lv_at hl 2 rfl) ?_
  by_cases h4 : inR b P
  rotate_left
  · refine r_callX (rest := []) Fx (m_X0_needPerson_x l hl0 (D := D) (ci := ci) (cz := cz) (cj := cj) (q := q) (F := F) (P := P) (g := g) hF hP12 b h4) (cwV 1 Fx.2.2.2.2 gX0_needSale_X0_needPerson rfl rfl rfl (by decide +kernel) ⟨Nat.le_of_ble_eq_true rfl, Nat.le_of_ble_eq_true rfl⟩) BW.bl (va_recv hK hP (ci := 0) (q0 := 0) rfl rfl) (BW.at hP hK hE hS) rfl hl.1 rfl (Nat.le_of_ble_eq_true rfl) dX0_needSale_7 ⟨Nat.le_of_ble_eq_true rfl, Nat.le_of_ble_eq_true rfl⟩ (fun ce q9 H1 hh hce hcv hcl => ?_)
    exact x_out hex hlocks hh hce hcv hcl (Nat.le_refl _) (Nat.le_refl _)
  obtain ⟨jb, h5, rfl⟩ := inR_of h4 (by omega)
  have h6 : ix (nI jb) = jb := ix_nI (by omega)
  refine r_callR (rest := []) Fx (m_X0_needPerson l (D := D) (ci := ci) (cz := cz) (cj := cj) (q := q) (F := F) (P := P) (g := g) hF hP12 jb (by omega)) (cwV 1 Fx.2.2.2.2 gX0_needSale_X0_needPerson rfl rfl rfl (by decide +kernel) ⟨Nat.le_of_ble_eq_true rfl, Nat.le_of_ble_eq_true rfl⟩) BW.bl (va_recv hK hP (ci := 0) (q0 := 0) rfl rfl) (BW.at hP hK hE hS) rfl hl.1 rfl (Nat.le_of_ble_eq_true rfl) dX0_needSale_7 ⟨Nat.zero_le _, Nat.zero_le _⟩ ?_
  refine lv_aload_n hx hb dX0_needSale_10 rfl (lv_at hl 0 rfl) ?_
  refine lv_iload_n hx hb dX0_needSale_11 rfl (lv_at hl 3 rfl) ?_
  by_cases h7 : inR f F
  rotate_left
  · refine r_callX (rest := []) Fx (m_X0_needFerry_x l hl0 (D := D) (ci := ci) (cz := cz) (cj := cj) (q := q) (F := F) (P := P) (g := g) hF hP12 f h7) (cwV 1 Fx.2.2.2.2 gX0_needSale_X0_needFerry rfl rfl rfl (by decide +kernel) ⟨Nat.le_of_ble_eq_true rfl, Nat.le_of_ble_eq_true rfl⟩) BW.bl (va_recv hK hP (ci := 0) (q0 := 0) rfl rfl) (BW.at hP hK hE hS) rfl hl.1 rfl (Nat.le_of_ble_eq_true rfl) dX0_needSale_12 ⟨Nat.le_of_ble_eq_true rfl, Nat.le_of_ble_eq_true rfl⟩ (fun ce q9 H1 hh hce hcv hcl => ?_)
    exact x_out hex hlocks hh hce hcv hcl (Nat.le_refl _) (Nat.le_refl _)
  obtain ⟨jf, h8, rfl⟩ := inR_of h7 (by omega)
  have h9 : ix (nI jf) = jf := ix_nI (by omega)
  refine r_callR (rest := []) Fx (m_X0_needFerry l (D := D) (ci := ci) (cz := cz) (cj := cj) (q := q) (F := F) (P := P) (g := g) hF hP12 jf (by omega)) (cwV 1 Fx.2.2.2.2 gX0_needSale_X0_needFerry rfl rfl rfl (by decide +kernel) ⟨Nat.le_of_ble_eq_true rfl, Nat.le_of_ble_eq_true rfl⟩) BW.bl (va_recv hK hP (ci := 0) (q0 := 0) rfl rfl) (BW.at hP hK hE hS) rfl hl.1 rfl (Nat.le_of_ble_eq_true rfl) dX0_needSale_12 ⟨Nat.zero_le _, Nat.zero_le _⟩ ?_
  refine lv_iload hx hb dX0_needSale_15 (lv_at hl 4 rfl) ?_
  by_cases h10 : inR w 4
  rotate_left
  · refine r_callXS (rest := []) Fx (m_X0_needWatch_x l hl0 (D := D) (ci := ci) (cz := cz) (cj := cj) (q := q) (F := F) (P := P) (g := g) hF hP12 w h10) (va_cwS 1 Fx.2.2.2.2 gX0_needSale_X0_needWatch rfl rfl rfl (by decide +kernel) ⟨Nat.le_of_ble_eq_true rfl, Nat.le_of_ble_eq_true rfl⟩) BW.bl (BW.at hP hK hE hS) rfl hl.1 rfl (Nat.le_of_ble_eq_true rfl) dX0_needSale_17 ⟨Nat.le_of_ble_eq_true rfl, Nat.le_of_ble_eq_true rfl⟩ (fun ce q9 H1 hh hce hcv hcl => ?_)
    exact x_out hex hlocks hh hce hcv hcl (Nat.le_refl _) (Nat.le_refl _)
  obtain ⟨jw, h11, rfl⟩ := inR_of h10 (by omega)
  have h12 : ix (nI jw) = jw := ix_nI (by omega)
  refine r_callRS (rest := []) Fx (m_X0_needWatch l (D := D) (ci := ci) (cz := cz) (cj := cj) (q := q) (F := F) (P := P) (g := g) hF hP12 jw (by omega)) (va_cwS 1 Fx.2.2.2.2 gX0_needSale_X0_needWatch rfl rfl rfl (by decide +kernel) ⟨Nat.le_of_ble_eq_true rfl, Nat.le_of_ble_eq_true rfl⟩) BW.bl (BW.at hP hK hE hS) rfl hl.1 rfl (Nat.le_of_ble_eq_true rfl) dX0_needSale_17 ⟨Nat.zero_le _, Nat.zero_le _⟩ ?_
  exact absurd ⟨h1, h4, h7, h10⟩ ha0
set_option maxHeartbeats 4000000 in
set_option maxRecDepth 100000 in
theorem m_X0_otherOwnerHas (l : Launch) {D : va_G} {ci cz : ClassId} {cj : ClassId × ClassId} {q : Nat → Nat} {F P : Nat} {g : Nat → Nat → Int32} (hF : F ≤ 6) (hP12 : P ≤ 12) (x : Int32) (k : Nat) (f : Nat) (w : Nat) (ha0 : k < P) (ha1 : f < 6) (ha2 : w < 4) : Met l yX0_otherOwnerHas wsX0_otherOwnerHas ({ frames := 2, cells := 0, slots := 0, locals := 45 } : Room) (va_Pc [.ref (q 0), .int x, .int (nI k), .int (nI f), .int (nI w)] (B0 D ci cz cj q F P g)) (RQ (some (.int (bI (sOth g P k f w x))))) 0 0 none_ := by
  refine Met.ofR (cc := cX0_otherOwnerHas) (maxL := 6) (ret := (some .boolean)) (by decide) rfl (Nat.le_of_ble_eq_true rfl) ?_
  intro pg en s m bl mt cd ls Fx hr hlocks hB hl
  obtain ⟨hP, hK, hE⟩ := hB
  have hl : lv_has ls 6 [(0, .ref (q 0)), (1, .int x), (2, .int (nI k)), (3, .int (nI f)), (4, .int (nI w))] := hl
  have Fx : CallFix pg m cd cX0_otherOwnerHas 6 s _ wsX0_otherOwnerHas RX0 := Fx
  have hx := Fx.1
  have hb := Fx.2.1
  have hin : ∀ w ∈ wsX00, w ∈ wsX0_otherOwnerHas := by decide +kernel
  have hS : va_S (aw q 8) s.heap s.heap [] := va_S.rf
  have hP : va_P D vwCl (w0 ci cz q F P g) s.heap := hP
  refine lv_iconst (v := nI 0) hx hb dX0_otherOwnerHas_0 (by decide) ?_
  refine lv_istore (lv' := [(5, .int (nI 0)), (0, .ref (q 0)), (1, .int x), (2, .int (nI k)), (3, .int (nI f)), (4, .int (nI w))]) hx hb dX0_otherOwnerHas_1 hl (by decide) rfl (fun ls hl => ?_)
  refine rloop (nL := 6) (N := P) (fun i => ∀ z, z < i → (fun z => decide (z ≠ k) && (decide (0 < own g f w z) && decide (x ≤ g 4 z))) z = false) (fun i => [(0, .ref (q 0)), (1, .int x), (2, .int (nI k)), (3, .int (nI f)), (4, .int (nI w)), (5, .int (nI i))]) (all_0) (lv_sub hl [1, 2, 3, 4, 5, 0] rfl) ?_ ?_
  · intro h1 ls hl
    have hl : lv_has ls 6 [(0, .ref (q 0)), (1, .int x), (2, .int (nI k)), (3, .int (nI f)), (4, .int (nI w)), (5, .int (nI P))] := hl
    refine lv_iload hx hb dX0_otherOwnerHas_3 (lv_at hl 5 rfl) ?_
    refine lv_aload_n hx hb dX0_otherOwnerHas_5 rfl (lv_at hl 0 rfl) ?_
    refine r_get Fx hin hK hP 0 rfl 4 (by decide) (by decide +kernel) rfl rfl dX0_otherOwnerHas_6 ?_
    refine n_icmp_ge (tgt := 49) hx hb (by omega) (by omega) dX0_otherOwnerHas_9 (by decide) (fun h2 => ?_) (fun h2 => by omega)
    refine lv_iconst (v := nI 0) hx hb dX0_otherOwnerHas_49 (by decide) ?_
    exact r_zret hx hb hr hlocks (by rw [sOth, an_none h1]; rfl) dX0_otherOwnerHas_50
  · intro i h4 h3 ih3 ls hl
    have hl : lv_has ls 6 [(0, .ref (q 0)), (1, .int x), (2, .int (nI k)), (3, .int (nI f)), (4, .int (nI w)), (5, .int (nI i))] := hl
    refine lv_iload hx hb dX0_otherOwnerHas_3 (lv_at hl 5 rfl) ?_
    refine lv_aload_n hx hb dX0_otherOwnerHas_5 rfl (lv_at hl 0 rfl) ?_
    refine r_get Fx hin hK hP 0 rfl 4 (by decide) (by decide +kernel) rfl rfl dX0_otherOwnerHas_6 ?_
    refine n_icmp_ge (tgt := 49) hx hb (by omega) (by omega) dX0_otherOwnerHas_9 (by decide) (fun h5 => by omega) (fun h5 => ?_)
    refine lv_iload hx hb dX0_otherOwnerHas_12 (lv_at hl 5 rfl) ?_
    refine lv_iload_n hx hb dX0_otherOwnerHas_14 rfl (lv_at hl 2 rfl) ?_
    refine n_icmp_eq (tgt := 43) hx hb (by omega) (by omega) dX0_otherOwnerHas_15 (by decide) (fun h6 => ?_) (fun h6 => ?_)
    · refine lv_iinc (v := nI (i + 1)) (lv' := [(5, .int (nI (i + 1))), (0, .ref (q 0)), (1, .int x), (2, .int (nI k)), (3, .int (nI f)), (4, .int (nI w))]) hx hb dX0_otherOwnerHas_43 hl (k := 5) rfl (nI_inc _ 1) (by decide) rfl (fun ls hl => ?_)
      refine lv_goto (tgt := 3) hx hb dX0_otherOwnerHas_46 (by decide) ?_
      exact ih3 (all_s h3 (by simp [Int32.not_lt, Int32.not_le, h3, h4, h5, h6])) _ (lv_sub hl [1, 2, 3, 4, 5, 0] rfl)
    · refine lv_aload_n hx hb dX0_otherOwnerHas_18 rfl (lv_at hl 0 rfl) ?_
      refine lv_iload_n hx hb dX0_otherOwnerHas_19 rfl (lv_at hl 3 rfl) ?_
      refine lv_iload hx hb dX0_otherOwnerHas_20 (lv_at hl 4 rfl) ?_
      refine lv_iload hx hb dX0_otherOwnerHas_22 (lv_at hl 5 rfl) ?_
      refine r_callR (rest := []) Fx (m_X0_owns l (D := D) (ci := ci) (cz := cz) (cj := cj) (q := q) (F := F) (P := P) (g := g) hF hP12 f w i (by omega) (by omega) (by omega)) (cwV 3 Fx.2.2.2.2 gX0_otherOwnerHas_X0_owns rfl rfl rfl (by decide +kernel) ⟨Nat.le_of_ble_eq_true rfl, Nat.le_of_ble_eq_true rfl⟩) BW.bl (va_recv hK hP (ci := 0) (q0 := 0) rfl rfl) (BW.at hP hK hE hS) rfl hl.1 rfl (Nat.le_of_ble_eq_true rfl) dX0_otherOwnerHas_24 ⟨Nat.zero_le _, Nat.zero_le _⟩ ?_
      refine lv_if_le (tgt := 43) hx hb dX0_otherOwnerHas_27 (by decide) (fun h7 => ?_) (fun h7 => ?_)
      · refine lv_iinc (v := nI (i + 1)) (lv' := [(5, .int (nI (i + 1))), (0, .ref (q 0)), (1, .int x), (2, .int (nI k)), (3, .int (nI f)), (4, .int (nI w))]) hx hb dX0_otherOwnerHas_43 hl (k := 5) rfl (nI_inc _ 1) (by decide) rfl (fun ls hl => ?_)
        refine lv_goto (tgt := 3) hx hb dX0_otherOwnerHas_46 (by decide) ?_
        exact ih3 (all_s h3 (by simp [Int32.not_lt, Int32.not_le, h3, h4, h5, h6, h7, Int32.not_lt.mpr h7])) _ (lv_sub hl [1, 2, 3, 4, 5, 0] rfl)
      · have h7 := Int32.not_le.mp h7
        refine lv_aload_n hx hb dX0_otherOwnerHas_30 rfl (lv_at hl 0 rfl) ?_
        refine r_get Fx hin hK hP 0 rfl 6 (by decide) (by decide +kernel) rfl rfl dX0_otherOwnerHas_31 ?_
        refine lv_iload hx hb dX0_otherOwnerHas_34 (lv_at hl 5 rfl) ?_
        refine r_iald Fx hK hP 5 0 rfl rfl (i := i) (by omega) (by decide) dX0_otherOwnerHas_36 ?_
        refine lv_iload_n hx hb dX0_otherOwnerHas_37 rfl (lv_at hl 1 rfl) ?_
        refine lv_icmp_lt (tgt := 43) hx hb dX0_otherOwnerHas_38 (by decide) (fun h8 => ?_) (fun h8 => ?_)
        · refine lv_iinc (v := nI (i + 1)) (lv' := [(5, .int (nI (i + 1))), (0, .ref (q 0)), (1, .int x), (2, .int (nI k)), (3, .int (nI f)), (4, .int (nI w))]) hx hb dX0_otherOwnerHas_43 hl (k := 5) rfl (nI_inc _ 1) (by decide) rfl (fun ls hl => ?_)
          refine lv_goto (tgt := 3) hx hb dX0_otherOwnerHas_46 (by decide) ?_
          exact ih3 (all_s h3 (by simp [Int32.not_lt, Int32.not_le, h3, h4, h5, h6, h7, Int32.not_le.mpr h7, h8, Int32.not_le.mpr h8])) _ (lv_sub hl [1, 2, 3, 4, 5, 0] rfl)
        · have h8 := Int32.not_lt.mp h8
          refine lv_iconst (v := nI 1) hx hb dX0_otherOwnerHas_41 (by decide) ?_
          exact r_zret hx hb hr hlocks (by rw [sOth, an_some (k := i) (by simp [Int32.not_lt, Int32.not_le, h3, h4, h5, h6, h7, Int32.not_le.mpr h7, h8, Int32.not_lt.mpr h8]) h4]; rfl) dX0_otherOwnerHas_42
set_option maxHeartbeats 4000000 in
set_option maxRecDepth 100000 in
theorem m_X0_mayBuy (l : Launch) {D : va_G} {ci cz : ClassId} {cj : ClassId × ClassId} {q : Nat → Nat} {F P : Nat} {g : Nat → Nat → Int32} (hF : F ≤ 6) (hP12 : P ≤ 12) (b : Nat) (k : Nat) (f : Nat) (w : Nat) (ha0 : b < P) (ha1 : k < P) (ha2 : f < 6) (ha3 : w < 4) : Met l yX0_mayBuy wsX0_mayBuy ({ frames := 3, cells := 0, slots := 0, locals := 70 } : Room) (va_Pc [.ref (q 0), .int (nI b), .int (nI k), .int (nI f), .int (nI w)] (B0 D ci cz cj q F P g)) (RQ (some (.int (bI (sMay g P b k f w))))) 0 0 none_ := by
  refine Met.ofR (cc := cX0_mayBuy) (maxL := 6) (ret := (some .boolean)) (by decide) rfl (Nat.le_of_ble_eq_true rfl) ?_
  intro pg en s m bl mt cd ls Fx hr hlocks hB hl
  obtain ⟨hP, hK, hE⟩ := hB
  have hl : lv_has ls 6 [(0, .ref (q 0)), (1, .int (nI b)), (2, .int (nI k)), (3, .int (nI f)), (4, .int (nI w))] := hl
  have Fx : CallFix pg m cd cX0_mayBuy 6 s _ wsX0_mayBuy RX0 := Fx
  have hx := Fx.1
  have hb := Fx.2.1
  have hin : ∀ w ∈ wsX00, w ∈ wsX0_mayBuy := by decide +kernel
  have hS : va_S (aw q 8) s.heap s.heap [] := va_S.rf
  have hP : va_P D vwCl (w0 ci cz q F P g) s.heap := hP
  refine lv_aload_n hx hb dX0_mayBuy_0 rfl (lv_at hl 0 rfl) ?_
  refine lv_iload_n hx hb dX0_mayBuy_1 rfl (lv_at hl 2 rfl) ?_
  refine lv_iload_n hx hb dX0_mayBuy_2 rfl (lv_at hl 3 rfl) ?_
  refine lv_iload hx hb dX0_mayBuy_3 (lv_at hl 4 rfl) ?_
  refine r_callR (rest := []) Fx (m_X0_priceOf l (D := D) (ci := ci) (cz := cz) (cj := cj) (q := q) (F := F) (P := P) (g := g) hF hP12 k f w (by omega) (by omega) (by omega)) (cwV 3 Fx.2.2.2.2 gX0_mayBuy_X0_priceOf rfl rfl rfl (by decide +kernel) ⟨Nat.le_of_ble_eq_true rfl, Nat.le_of_ble_eq_true rfl⟩) BW.bl (va_recv hK hP (ci := 0) (q0 := 0) rfl rfl) (BW.at hP hK hE hS) rfl hl.1 rfl (Nat.le_of_ble_eq_true rfl) dX0_mayBuy_5 ⟨Nat.zero_le _, Nat.zero_le _⟩ ?_
  refine lv_istore (lv' := [(5, .int (sPri g f w k)), (0, .ref (q 0)), (1, .int (nI b)), (2, .int (nI k)), (3, .int (nI f)), (4, .int (nI w))]) hx hb dX0_mayBuy_8 hl (by decide) rfl (fun ls hl => ?_)
  refine lv_aload_n hx hb dX0_mayBuy_10 rfl (lv_at hl 1 rfl) ?_
  refine r_get Fx hin hK hP 0 rfl 5 (by decide) (by decide +kernel) rfl rfl dX0_mayBuy_11 ?_
  refine lv_iload_n hx hb dX0_mayBuy_14 rfl (lv_at hl 2 rfl) ?_
  refine r_alive Fx hK hP (i := b) (by omega) (by omega) dX0_mayBuy_15 ?_
  refine b_if_eq (tgt := 35) hx hb dX0_mayBuy_16 (by decide) (fun h1 => ?_) (fun h1 => ?_)
  · refine lv_iconst (v := nI 0) hx hb dX0_mayBuy_35 (by decide) ?_
    exact r_zret hx hb hr hlocks (by simp [sMay, bI, Int32.not_lt, Int32.not_le, h1]) dX0_mayBuy_36
  · refine lv_iload_n hx hb dX0_mayBuy_19 rfl (lv_at hl 2 rfl) ?_
    refine lv_iload_n hx hb dX0_mayBuy_20 rfl (lv_at hl 3 rfl) ?_
    refine n_icmp_eq (tgt := 35) hx hb (by omega) (by omega) dX0_mayBuy_21 (by decide) (fun h2 => ?_) (fun h2 => ?_)
    · refine lv_iconst (v := nI 0) hx hb dX0_mayBuy_35 (by decide) ?_
      exact r_zret hx hb hr hlocks (by simp [sMay, bI, Int32.not_lt, Int32.not_le, h1, h2]) dX0_mayBuy_36
    · refine lv_aload_n hx hb dX0_mayBuy_24 rfl (lv_at hl 1 rfl) ?_
      refine r_get Fx hin hK hP 0 rfl 6 (by decide) (by decide +kernel) rfl rfl dX0_mayBuy_25 ?_
      refine lv_iload_n hx hb dX0_mayBuy_28 rfl (lv_at hl 2 rfl) ?_
      refine r_iald Fx hK hP 5 0 rfl rfl (i := b) (by omega) (by decide) dX0_mayBuy_29 ?_
      refine lv_iload hx hb dX0_mayBuy_30 (lv_at hl 0 rfl) ?_
      refine lv_icmp_ge (tgt := 37) hx hb dX0_mayBuy_32 (by decide) (fun h3 => ?_) (fun h3 => ?_)
      · refine lv_aload_n hx hb dX0_mayBuy_37 rfl (lv_at hl 1 rfl) ?_
        refine lv_iload_n hx hb dX0_mayBuy_38 rfl (lv_at hl 4 rfl) ?_
        refine lv_iload hx hb dX0_mayBuy_39 (lv_at hl 5 rfl) ?_
        refine lv_iload_n hx hb dX0_mayBuy_41 rfl (lv_at hl 3 rfl) ?_
        refine r_callR (rest := []) Fx (m_X0_owns l (D := D) (ci := ci) (cz := cz) (cj := cj) (q := q) (F := F) (P := P) (g := g) hF hP12 f w k (by omega) (by omega) (by omega)) (cwV 3 Fx.2.2.2.2 gX0_mayBuy_X0_owns rfl rfl rfl (by decide +kernel) ⟨Nat.le_of_ble_eq_true rfl, Nat.le_of_ble_eq_true rfl⟩) BW.bl (va_recv hK hP (ci := 0) (q0 := 0) rfl rfl) (BW.at hP hK hE hS) rfl hl.1 rfl (Nat.le_of_ble_eq_true rfl) dX0_mayBuy_42 ⟨Nat.zero_le _, Nat.zero_le _⟩ ?_
        refine lv_if_ne (tgt := 50) hx hb dX0_mayBuy_45 (by decide) (fun h4 => ?_) (fun h4 => ?_)
        · refine lv_aload_n hx hb dX0_mayBuy_50 rfl (lv_at hl 1 rfl) ?_
          refine lv_iload_n hx hb dX0_mayBuy_51 rfl (lv_at hl 4 rfl) ?_
          refine lv_iload hx hb dX0_mayBuy_52 (lv_at hl 5 rfl) ?_
          refine lv_iload_n hx hb dX0_mayBuy_54 rfl (lv_at hl 2 rfl) ?_
          refine r_callR (rest := []) Fx (m_X0_owns l (D := D) (ci := ci) (cz := cz) (cj := cj) (q := q) (F := F) (P := P) (g := g) hF hP12 f w b (by omega) (by omega) (by omega)) (cwV 3 Fx.2.2.2.2 gX0_mayBuy_X0_owns rfl rfl rfl (by decide +kernel) ⟨Nat.le_of_ble_eq_true rfl, Nat.le_of_ble_eq_true rfl⟩) BW.bl (va_recv hK hP (ci := 0) (q0 := 0) rfl rfl) (BW.at hP hK hE hS) rfl hl.1 rfl (Nat.le_of_ble_eq_true rfl) dX0_mayBuy_55 ⟨Nat.zero_le _, Nat.zero_le _⟩ ?_
          refine lv_if_gt (tgt := 74) hx hb dX0_mayBuy_58 (by decide) (fun h5 => ?_) (fun h5 => ?_)
          · refine lv_iconst (v := nI 1) hx hb dX0_mayBuy_74 (by decide) ?_
            refine lv_goto (tgt := 79) hx hb dX0_mayBuy_75 (by decide) ?_
            exact r_zret hx hb hr hlocks (by simp [sMay, bI, Int32.not_lt, Int32.not_le, h1, h2, h3, Int32.not_lt.mpr h3, h4, h5, Int32.not_le.mpr h5]) dX0_mayBuy_79
          · have h5 := Int32.not_lt.mp h5
            refine lv_aload_n hx hb dX0_mayBuy_61 rfl (lv_at hl 1 rfl) ?_
            refine lv_iload hx hb dX0_mayBuy_62 (lv_at hl 0 rfl) ?_
            refine lv_iload_n hx hb dX0_mayBuy_64 rfl (lv_at hl 3 rfl) ?_
            refine lv_iload_n hx hb dX0_mayBuy_65 rfl (lv_at hl 4 rfl) ?_
            refine lv_iload hx hb dX0_mayBuy_66 (lv_at hl 5 rfl) ?_
            refine r_callR (rest := []) Fx (m_X0_otherOwnerHas l (D := D) (ci := ci) (cz := cz) (cj := cj) (q := q) (F := F) (P := P) (g := g) hF hP12 (sPri g f w k) k f w (by omega) (by omega) (by omega)) (cwV 4 Fx.2.2.2.2 gX0_mayBuy_X0_otherOwnerHas rfl rfl rfl (by decide +kernel) ⟨Nat.le_of_ble_eq_true rfl, Nat.le_of_ble_eq_true rfl⟩) BW.bl (va_recv hK hP (ci := 0) (q0 := 0) rfl rfl) (BW.at hP hK hE hS) rfl hl.1 rfl (Nat.le_of_ble_eq_true rfl) dX0_mayBuy_68 ⟨Nat.zero_le _, Nat.zero_le _⟩ ?_
            refine b_if_ne (tgt := 78) hx hb dX0_mayBuy_71 (by decide) (fun h6 => ?_) (fun h6 => ?_)
            · refine lv_iconst (v := nI 0) hx hb dX0_mayBuy_78 (by decide) ?_
              exact r_zret hx hb hr hlocks (by simp [sMay, bI, Int32.not_lt, Int32.not_le, h1, h2, h3, Int32.not_lt.mpr h3, h4, h5, Int32.not_lt.mpr h5, h6]) dX0_mayBuy_79
            · refine lv_iconst (v := nI 1) hx hb dX0_mayBuy_74 (by decide) ?_
              refine lv_goto (tgt := 79) hx hb dX0_mayBuy_75 (by decide) ?_
              exact r_zret hx hb hr hlocks (by simp [sMay, bI, Int32.not_lt, Int32.not_le, h1, h2, h3, Int32.not_lt.mpr h3, h4, h5, Int32.not_lt.mpr h5, h6]) dX0_mayBuy_79
        · refine lv_iconst (v := nI 0) hx hb dX0_mayBuy_48 (by decide) ?_
          exact r_zret hx hb hr hlocks (by simp [sMay, bI, Int32.not_lt, Int32.not_le, h1, h2, h3, Int32.not_lt.mpr h3, h4]) dX0_mayBuy_49
      · have h3 := Int32.not_le.mp h3
        refine lv_iconst (v := nI 0) hx hb dX0_mayBuy_35 (by decide) ?_
        exact r_zret hx hb hr hlocks (by simp [sMay, bI, Int32.not_lt, Int32.not_le, h1, h2, h3, Int32.not_le.mpr h3]) dX0_mayBuy_36
set_option maxHeartbeats 4000000 in
set_option maxRecDepth 100000 in
theorem m_X0_fareOf (l : Launch) {D : va_G} {ci cz : ClassId} {cj : ClassId × ClassId} {q : Nat → Nat} {F P : Nat} {g : Nat → Nat → Int32} (hF : F ≤ 6) (hP12 : P ≤ 12) (k : Nat) (f : Nat) (w : Nat) (x : Int32) (ha0 : k < 12) (ha1 : f < 6) (ha2 : w < 4) : Met l yX0_fareOf wsX0_fareOf ({ frames := 2, cells := 0, slots := 0, locals := 45 } : Room) (va_Pc [.ref (q 0), .int (nI k), .int (nI f), .int (nI w), .int x] (B0 D ci cz cj q F P g)) (RQ (some (.int (sFar g f w k x)))) 0 0 none_ := by
  refine Met.ofR (cc := cX0_fareOf) (maxL := 5) (ret := (some .int)) (by decide) rfl (Nat.le_of_ble_eq_true rfl) ?_
  intro pg en s m bl mt cd ls Fx hr hlocks hB hl
  obtain ⟨hP, hK, hE⟩ := hB
  have hl : lv_has ls 5 [(0, .ref (q 0)), (1, .int (nI k)), (2, .int (nI f)), (3, .int (nI w)), (4, .int x)] := hl
  have Fx : CallFix pg m cd cX0_fareOf 5 s _ wsX0_fareOf RX0 := Fx
  have hx := Fx.1
  have hb := Fx.2.1
  have hin : ∀ w ∈ wsX00, w ∈ wsX0_fareOf := by decide +kernel
  have hS : va_S (aw q 8) s.heap s.heap [] := va_S.rf
  have hP : va_P D vwCl (w0 ci cz q F P g) s.heap := hP
  refine lv_aload_n hx hb dX0_fareOf_0 rfl (lv_at hl 0 rfl) ?_
  refine r_get Fx hin hK hP 0 rfl 1 (by decide) (by decide +kernel) rfl rfl dX0_fareOf_1 ?_
  refine lv_iload_n hx hb dX0_fareOf_4 rfl (lv_at hl 2 rfl) ?_
  refine r_iald Fx hK hP 1 0 rfl rfl (i := f) (by omega) (by decide) dX0_fareOf_5 ?_
  refine lv_iload hx hb dX0_fareOf_6 (lv_at hl 4 rfl) ?_
  refine lv_imul hx hb dX0_fareOf_8 ?_
  refine lv_aload_n hx hb dX0_fareOf_9 rfl (lv_at hl 0 rfl) ?_
  refine lv_iload_n hx hb dX0_fareOf_10 rfl (lv_at hl 2 rfl) ?_
  refine lv_iload_n hx hb dX0_fareOf_11 rfl (lv_at hl 3 rfl) ?_
  refine lv_iload_n hx hb dX0_fareOf_12 rfl (lv_at hl 1 rfl) ?_
  refine r_callR (rest := [.int ((g 0 f) * x)]) Fx (m_X0_owns l (D := D) (ci := ci) (cz := cz) (cj := cj) (q := q) (F := F) (P := P) (g := g) hF hP12 f w k (by omega) (by omega) (by omega)) (cwV 3 Fx.2.2.2.2 gX0_fareOf_X0_owns rfl rfl rfl (by decide +kernel) ⟨Nat.le_of_ble_eq_true rfl, Nat.le_of_ble_eq_true rfl⟩) BW.bl (va_recv hK hP (ci := 0) (q0 := 0) rfl rfl) (BW.at hP hK hE hS) rfl hl.1 rfl (Nat.le_of_ble_eq_true rfl) dX0_fareOf_13 ⟨Nat.zero_le _, Nat.zero_le _⟩ ?_
  refine lv_imul hx hb dX0_fareOf_16 ?_
  refine lv_bipush (v := nI 64) hx hb dX0_fareOf_17 (by decide) ?_
  refine lv_idiv hx hb dX0_fareOf_19 (by decide) ?_
  exact r_iret hx hb hr hlocks (rfl) dX0_fareOf_20
set_option maxHeartbeats 4000000 in
set_option maxRecDepth 100000 in
theorem m_X0_hasLivingChild (l : Launch) {D : va_G} {ci cz : ClassId} {cj : ClassId × ClassId} {q : Nat → Nat} {F P : Nat} {g : Nat → Nat → Int32} (hF : F ≤ 6) (hP12 : P ≤ 12) (k : Nat) : Met l yX0_hasLivingChild wsX0_hasLivingChild ({ frames := 0, cells := 0, slots := 0, locals := 0 } : Room) (va_Pc [.ref (q 0), .int (nI k)] (B0 D ci cz cj q F P g)) (RQ (some (.int (bI (sHlc g P k))))) 0 0 none_ := by
  refine Met.ofR (cc := cX0_hasLivingChild) (maxL := 3) (ret := (some .boolean)) (by decide) rfl (Nat.le_of_ble_eq_true rfl) ?_
  intro pg en s m bl mt cd ls Fx hr hlocks hB hl
  obtain ⟨hP, hK, hE⟩ := hB
  have hl : lv_has ls 3 [(0, .ref (q 0)), (1, .int (nI k))] := hl
  have Fx : CallFix pg m cd cX0_hasLivingChild 3 s _ wsX0_hasLivingChild RX0 := Fx
  have hx := Fx.1
  have hb := Fx.2.1
  have hin : ∀ w ∈ wsX00, w ∈ wsX0_hasLivingChild := by decide +kernel
  have hS : va_S (aw q 8) s.heap s.heap [] := va_S.rf
  have hP : va_P D vwCl (w0 ci cz q F P g) s.heap := hP
  refine lv_iconst (v := nI 0) hx hb dX0_hasLivingChild_0 (by decide) ?_
  refine lv_istore_n (lv' := [(2, .int (nI 0)), (0, .ref (q 0)), (1, .int (nI k))]) hx hb dX0_hasLivingChild_1 rfl hl (by decide) rfl (fun ls hl => ?_)
  refine rloop (nL := 3) (N := P) (fun i => ∀ z, z < i → (fun z => lv g z && decide (g 6 z = nI k)) z = false) (fun i => [(0, .ref (q 0)), (1, .int (nI k)), (2, .int (nI i))]) (all_0) (lv_sub hl [1, 2, 0] rfl) ?_ ?_
  · intro h1 ls hl
    have hl : lv_has ls 3 [(0, .ref (q 0)), (1, .int (nI k)), (2, .int (nI P))] := hl
    refine lv_iload_n hx hb dX0_hasLivingChild_2 rfl (lv_at hl 2 rfl) ?_
    refine lv_aload_n hx hb dX0_hasLivingChild_3 rfl (lv_at hl 0 rfl) ?_
    refine r_get Fx hin hK hP 0 rfl 4 (by decide) (by decide +kernel) rfl rfl dX0_hasLivingChild_4 ?_
    refine n_icmp_ge (tgt := 37) hx hb (by omega) (by omega) dX0_hasLivingChild_7 (by decide) (fun h2 => ?_) (fun h2 => by omega)
    refine lv_iconst (v := nI 0) hx hb dX0_hasLivingChild_37 (by decide) ?_
    exact r_zret hx hb hr hlocks (by rw [sHlc, an_none h1]; rfl) dX0_hasLivingChild_38
  · intro i h4 h3 ih2 ls hl
    have hl : lv_has ls 3 [(0, .ref (q 0)), (1, .int (nI k)), (2, .int (nI i))] := hl
    refine lv_iload_n hx hb dX0_hasLivingChild_2 rfl (lv_at hl 2 rfl) ?_
    refine lv_aload_n hx hb dX0_hasLivingChild_3 rfl (lv_at hl 0 rfl) ?_
    refine r_get Fx hin hK hP 0 rfl 4 (by decide) (by decide +kernel) rfl rfl dX0_hasLivingChild_4 ?_
    refine n_icmp_ge (tgt := 37) hx hb (by omega) (by omega) dX0_hasLivingChild_7 (by decide) (fun h5 => by omega) (fun h5 => ?_)
    refine lv_aload_n hx hb dX0_hasLivingChild_10 rfl (lv_at hl 0 rfl) ?_
    refine r_get Fx hin hK hP 0 rfl 5 (by decide) (by decide +kernel) rfl rfl dX0_hasLivingChild_11 ?_
    refine lv_iload_n hx hb dX0_hasLivingChild_14 rfl (lv_at hl 2 rfl) ?_
    refine r_alive Fx hK hP (i := i) (by omega) (by omega) dX0_hasLivingChild_15 ?_
    refine b_if_eq (tgt := 31) hx hb dX0_hasLivingChild_16 (by decide) (fun h6 => ?_) (fun h6 => ?_)
    · refine lv_iinc (v := nI (i + 1)) (lv' := [(2, .int (nI (i + 1))), (0, .ref (q 0)), (1, .int (nI k))]) hx hb dX0_hasLivingChild_31 hl (k := 2) rfl (nI_inc _ 1) (by decide) rfl (fun ls hl => ?_)
      refine lv_goto (tgt := 2) hx hb dX0_hasLivingChild_34 (by decide) ?_
      exact ih2 (all_s h3 (by simp [Int32.not_lt, Int32.not_le, h3, h4, h5, h6])) _ (lv_sub hl [1, 2, 0] rfl)
    · refine lv_aload_n hx hb dX0_hasLivingChild_19 rfl (lv_at hl 0 rfl) ?_
      refine r_get Fx hin hK hP 0 rfl 8 (by decide) (by decide +kernel) rfl rfl dX0_hasLivingChild_20 ?_
      refine lv_iload_n hx hb dX0_hasLivingChild_23 rfl (lv_at hl 2 rfl) ?_
      refine r_iald Fx hK hP 7 0 rfl rfl (i := i) (by omega) (by decide) dX0_hasLivingChild_24 ?_
      refine lv_iload_n hx hb dX0_hasLivingChild_25 rfl (lv_at hl 1 rfl) ?_
      refine lv_icmp_ne (tgt := 31) hx hb dX0_hasLivingChild_26 (by decide) (fun h7 => ?_) (fun h7 => ?_)
      · refine lv_iinc (v := nI (i + 1)) (lv' := [(2, .int (nI (i + 1))), (0, .ref (q 0)), (1, .int (nI k))]) hx hb dX0_hasLivingChild_31 hl (k := 2) rfl (nI_inc _ 1) (by decide) rfl (fun ls hl => ?_)
        refine lv_goto (tgt := 2) hx hb dX0_hasLivingChild_34 (by decide) ?_
        exact ih2 (all_s h3 (by simp [Int32.not_lt, Int32.not_le, h3, h4, h5, h6, h7])) _ (lv_sub hl [1, 2, 0] rfl)
      · refine lv_iconst (v := nI 1) hx hb dX0_hasLivingChild_29 (by decide) ?_
        exact r_zret hx hb hr hlocks (by rw [sHlc, an_some (k := i) (by simp [h3, h4, h5, h6, h7]) h4]; rfl) dX0_hasLivingChild_30
set_option maxHeartbeats 4000000 in
set_option maxRecDepth 100000 in
theorem m_X0_isHeir (l : Launch) {D : va_G} {ci cz : ClassId} {cj : ClassId × ClassId} {q : Nat → Nat} {F P : Nat} {g : Nat → Nat → Int32} (hF : F ≤ 6) (hP12 : P ≤ 12) (o : Nat) (k : Nat) (ha0 : o < P) (ha1 : k < P) : Met l yX0_isHeir wsX0_isHeir ({ frames := 1, cells := 0, slots := 0, locals := 22 } : Room) (va_Pc [.ref (q 0), .int (nI o), .int (nI k)] (B0 D ci cz cj q F P g)) (RQ (some (.int (bI (sIsH g P o k))))) 0 0 none_ := by
  refine Met.ofR (cc := cX0_isHeir) (maxL := 3) (ret := (some .boolean)) (by decide) rfl (Nat.le_of_ble_eq_true rfl) ?_
  intro pg en s m bl mt cd ls Fx hr hlocks hB hl
  obtain ⟨hP, hK, hE⟩ := hB
  have hl : lv_has ls 3 [(0, .ref (q 0)), (1, .int (nI o)), (2, .int (nI k))] := hl
  have Fx : CallFix pg m cd cX0_isHeir 3 s _ wsX0_isHeir RX0 := Fx
  have hx := Fx.1
  have hb := Fx.2.1
  have hin : ∀ w ∈ wsX00, w ∈ wsX0_isHeir := by decide +kernel
  have hS : va_S (aw q 8) s.heap s.heap [] := va_S.rf
  have hP : va_P D vwCl (w0 ci cz q F P g) s.heap := hP
  refine lv_aload_n hx hb dX0_isHeir_0 rfl (lv_at hl 0 rfl) ?_
  refine r_get Fx hin hK hP 0 rfl 5 (by decide) (by decide +kernel) rfl rfl dX0_isHeir_1 ?_
  refine lv_iload_n hx hb dX0_isHeir_4 rfl (lv_at hl 1 rfl) ?_
  refine r_alive Fx hK hP (i := o) (by omega) (by omega) dX0_isHeir_5 ?_
  refine b_if_eq (tgt := 14) hx hb dX0_isHeir_6 (by decide) (fun h1 => ?_) (fun h1 => ?_)
  · refine lv_iconst (v := nI 0) hx hb dX0_isHeir_14 (by decide) ?_
    exact r_zret hx hb hr hlocks (by simp [sIsH, bI, h1]) dX0_isHeir_15
  · refine lv_iload_n hx hb dX0_isHeir_9 rfl (lv_at hl 1 rfl) ?_
    refine lv_iload_n hx hb dX0_isHeir_10 rfl (lv_at hl 2 rfl) ?_
    refine n_icmp_ne (tgt := 16) hx hb (by omega) (by omega) dX0_isHeir_11 (by decide) (fun h2 => ?_) (fun h2 => ?_)
    · refine lv_aload_n hx hb dX0_isHeir_16 rfl (lv_at hl 0 rfl) ?_
      refine lv_iload_n hx hb dX0_isHeir_17 rfl (lv_at hl 2 rfl) ?_
      refine r_callR (rest := []) Fx (m_X0_hasLivingChild l (D := D) (ci := ci) (cz := cz) (cj := cj) (q := q) (F := F) (P := P) (g := g) hF hP12 k ) (cwV 1 Fx.2.2.2.2 gX0_isHeir_X0_hasLivingChild rfl rfl rfl (by decide +kernel) ⟨Nat.le_of_ble_eq_true rfl, Nat.le_of_ble_eq_true rfl⟩) BW.bl (va_recv hK hP (ci := 0) (q0 := 0) rfl rfl) (BW.at hP hK hE hS) rfl hl.1 rfl (Nat.le_of_ble_eq_true rfl) dX0_isHeir_18 ⟨Nat.zero_le _, Nat.zero_le _⟩ ?_
      refine b_if_eq (tgt := 40) hx hb dX0_isHeir_21 (by decide) (fun h3 => ?_) (fun h3 => ?_)
      · refine lv_aload_n hx hb dX0_isHeir_40 rfl (lv_at hl 0 rfl) ?_
        refine r_get Fx hin hK hP 0 rfl 8 (by decide) (by decide +kernel) rfl rfl dX0_isHeir_41 ?_
        refine lv_iload_n hx hb dX0_isHeir_44 rfl (lv_at hl 2 rfl) ?_
        refine r_iald Fx hK hP 7 0 rfl rfl (i := k) (by omega) (by decide) dX0_isHeir_45 ?_
        refine lv_iconst (v := -1) hx hb dX0_isHeir_46 (by decide) ?_
        refine lv_icmp_eq (tgt := 69) hx hb dX0_isHeir_47 (by decide) (fun h4 => ?_) (fun h4 => ?_)
        · refine lv_iconst (v := nI 0) hx hb dX0_isHeir_69 (by decide) ?_
          exact r_zret hx hb hr hlocks (by simp [sIsH, bI, h1, h2, h3, h4]) dX0_isHeir_70
        · refine lv_aload_n hx hb dX0_isHeir_50 rfl (lv_at hl 0 rfl) ?_
          refine r_get Fx hin hK hP 0 rfl 8 (by decide) (by decide +kernel) rfl rfl dX0_isHeir_51 ?_
          refine lv_iload_n hx hb dX0_isHeir_54 rfl (lv_at hl 1 rfl) ?_
          refine r_iald Fx hK hP 7 0 rfl rfl (i := o) (by omega) (by decide) dX0_isHeir_55 ?_
          refine lv_aload_n hx hb dX0_isHeir_56 rfl (lv_at hl 0 rfl) ?_
          refine r_get Fx hin hK hP 0 rfl 8 (by decide) (by decide +kernel) rfl rfl dX0_isHeir_57 ?_
          refine lv_iload_n hx hb dX0_isHeir_60 rfl (lv_at hl 2 rfl) ?_
          refine r_iald Fx hK hP 7 0 rfl rfl (i := k) (by omega) (by decide) dX0_isHeir_61 ?_
          refine lv_icmp_ne (tgt := 69) hx hb dX0_isHeir_62 (by decide) (fun h5 => ?_) (fun h5 => ?_)
          · refine lv_iconst (v := nI 0) hx hb dX0_isHeir_69 (by decide) ?_
            exact r_zret hx hb hr hlocks (by simp [sIsH, bI, h1, h2, h3, h4, h5]) dX0_isHeir_70
          · refine lv_iconst (v := nI 1) hx hb dX0_isHeir_65 (by decide) ?_
            refine lv_goto (tgt := 70) hx hb dX0_isHeir_66 (by decide) ?_
            exact r_zret hx hb hr hlocks (by simp [sIsH, bI, h1, h2, h3, h4, h5]) dX0_isHeir_70
      · refine lv_aload_n hx hb dX0_isHeir_24 rfl (lv_at hl 0 rfl) ?_
        refine r_get Fx hin hK hP 0 rfl 8 (by decide) (by decide +kernel) rfl rfl dX0_isHeir_25 ?_
        refine lv_iload_n hx hb dX0_isHeir_28 rfl (lv_at hl 1 rfl) ?_
        refine r_iald Fx hK hP 7 0 rfl rfl (i := o) (by omega) (by decide) dX0_isHeir_29 ?_
        refine lv_iload_n hx hb dX0_isHeir_30 rfl (lv_at hl 2 rfl) ?_
        refine lv_icmp_ne (tgt := 38) hx hb dX0_isHeir_31 (by decide) (fun h6 => ?_) (fun h6 => ?_)
        · refine lv_iconst (v := nI 0) hx hb dX0_isHeir_38 (by decide) ?_
          exact r_zret hx hb hr hlocks (by simp [sIsH, bI, h1, h2, h3, h6]) dX0_isHeir_39
        · refine lv_iconst (v := nI 1) hx hb dX0_isHeir_34 (by decide) ?_
          refine lv_goto (tgt := 39) hx hb dX0_isHeir_35 (by decide) ?_
          exact r_zret hx hb hr hlocks (by simp [sIsH, bI, h1, h2, h3, h6]) dX0_isHeir_39
    · refine lv_iconst (v := nI 0) hx hb dX0_isHeir_14 (by decide) ?_
      exact r_zret hx hb hr hlocks (by simp [sIsH, bI, h1, h2]) dX0_isHeir_15
set_option maxHeartbeats 4000000 in
set_option maxRecDepth 100000 in
theorem m_X0_countHeirsBelow (l : Launch) {D : va_G} {ci cz : ClassId} {cj : ClassId × ClassId} {q : Nat → Nat} {F P : Nat} {g : Nat → Nat → Int32} (hF : F ≤ 6) (hP12 : P ≤ 12) (n : Nat) (k : Nat) (ha0 : n ≤ P) (ha1 : k < P) : Met l yX0_countHeirsBelow wsX0_countHeirsBelow ({ frames := 2, cells := 0, slots := 0, locals := 44 } : Room) (va_Pc [.ref (q 0), .int (nI n), .int (nI k)] (B0 D ci cz cj q F P g)) (RQ (some (.int (nI (sCHB g P n k))))) 0 0 none_ := by
  refine Met.ofR (cc := cX0_countHeirsBelow) (maxL := 5) (ret := (some .int)) (by decide) rfl (Nat.le_of_ble_eq_true rfl) ?_
  intro pg en s m bl mt cd ls Fx hr hlocks hB hl
  obtain ⟨hP, hK, hE⟩ := hB
  have hl : lv_has ls 5 [(0, .ref (q 0)), (1, .int (nI n)), (2, .int (nI k))] := hl
  have Fx : CallFix pg m cd cX0_countHeirsBelow 5 s _ wsX0_countHeirsBelow RX0 := Fx
  have hx := Fx.1
  have hb := Fx.2.1
  have hS : va_S (aw q 8) s.heap s.heap [] := va_S.rf
  have hP : va_P D vwCl (w0 ci cz q F P g) s.heap := hP
  refine lv_iconst (v := nI 0) hx hb dX0_countHeirsBelow_0 (by decide) ?_
  refine lv_istore_n (lv' := [(3, .int (nI 0)), (0, .ref (q 0)), (1, .int (nI n)), (2, .int (nI k))]) hx hb dX0_countHeirsBelow_1 rfl hl (by decide) rfl (fun ls hl => ?_)
  refine lv_iconst (v := nI 0) hx hb dX0_countHeirsBelow_2 (by decide) ?_
  refine lv_istore (lv' := [(4, .int (nI 0)), (3, .int (nI 0)), (0, .ref (q 0)), (1, .int (nI n)), (2, .int (nI k))]) hx hb dX0_countHeirsBelow_3 hl (by decide) rfl (fun ls hl => ?_)
  refine rloop (nL := 5) (N := n) (fun _ => True) (fun i => [(0, .ref (q 0)), (1, .int (nI n)), (2, .int (nI k)), (3, .int (nI (cn (fun z => sIsH g P z k) i))), (4, .int (nI i))]) (trivial) (lv_sub hl [2, 3, 4, 1, 0] rfl) ?_ ?_
  · intro h1 ls hl
    have hl : lv_has ls 5 [(0, .ref (q 0)), (1, .int (nI n)), (2, .int (nI k)), (3, .int (nI (cn (fun z => sIsH g P z k) n))), (4, .int (nI n))] := hl
    refine lv_iload hx hb dX0_countHeirsBelow_5 (lv_at hl 4 rfl) ?_
    refine lv_iload_n hx hb dX0_countHeirsBelow_7 rfl (lv_at hl 1 rfl) ?_
    refine n_icmp_ge (tgt := 30) hx hb (by omega) (by omega) dX0_countHeirsBelow_8 (by decide) (fun h2 => ?_) (fun h2 => by omega)
    refine lv_iload_n hx hb dX0_countHeirsBelow_30 rfl (lv_at hl 3 rfl) ?_
    exact r_iret hx hb hr hlocks (rfl) dX0_countHeirsBelow_31
  · intro i h4 h3 ih5 ls hl
    have hl : lv_has ls 5 [(0, .ref (q 0)), (1, .int (nI n)), (2, .int (nI k)), (3, .int (nI (cn (fun z => sIsH g P z k) i))), (4, .int (nI i))] := hl
    refine lv_iload hx hb dX0_countHeirsBelow_5 (lv_at hl 4 rfl) ?_
    refine lv_iload_n hx hb dX0_countHeirsBelow_7 rfl (lv_at hl 1 rfl) ?_
    refine n_icmp_ge (tgt := 30) hx hb (by omega) (by omega) dX0_countHeirsBelow_8 (by decide) (fun h5 => by omega) (fun h5 => ?_)
    refine lv_aload_n hx hb dX0_countHeirsBelow_11 rfl (lv_at hl 0 rfl) ?_
    refine lv_iload hx hb dX0_countHeirsBelow_12 (lv_at hl 4 rfl) ?_
    refine lv_iload_n hx hb dX0_countHeirsBelow_14 rfl (lv_at hl 2 rfl) ?_
    refine r_callR (rest := []) Fx (m_X0_isHeir l (D := D) (ci := ci) (cz := cz) (cj := cj) (q := q) (F := F) (P := P) (g := g) hF hP12 i k (by omega) (by omega)) (cwV 2 Fx.2.2.2.2 gX0_countHeirsBelow_X0_isHeir rfl rfl rfl (by decide +kernel) ⟨Nat.le_of_ble_eq_true rfl, Nat.le_of_ble_eq_true rfl⟩) BW.bl (va_recv hK hP (ci := 0) (q0 := 0) rfl rfl) (BW.at hP hK hE hS) rfl hl.1 rfl (Nat.le_of_ble_eq_true rfl) dX0_countHeirsBelow_15 ⟨Nat.zero_le _, Nat.zero_le _⟩ ?_
    refine b_if_eq (tgt := 24) hx hb dX0_countHeirsBelow_18 (by decide) (fun h6 => ?_) (fun h6 => ?_)
    · refine lv_iinc (v := nI (i + 1)) (lv' := [(4, .int (nI (i + 1))), (0, .ref (q 0)), (1, .int (nI n)), (2, .int (nI k)), (3, .int (nI (cn (fun z => sIsH g P z k) i)))]) hx hb dX0_countHeirsBelow_24 hl (k := 4) rfl (nI_inc _ 1) (by decide) rfl (fun ls hl => ?_)
      refine lv_goto (tgt := 5) hx hb dX0_countHeirsBelow_27 (by decide) ?_
      have e3_ : nI (cn (fun z => sIsH g P z k) i) = nI (cn (fun z => sIsH g P z k) (i + 1)) := by simp [cn, h4, h5, h6]
      rw [e3_] at hl
      exact ih5 (trivial) _ (lv_sub hl [1, 2, 3, 4, 0] rfl)
    · refine lv_iinc (v := nI (cn (fun z => sIsH g P z k) i + 1)) (lv' := [(3, .int (nI (cn (fun z => sIsH g P z k) i + 1))), (0, .ref (q 0)), (1, .int (nI n)), (2, .int (nI k)), (4, .int (nI i))]) hx hb dX0_countHeirsBelow_21 hl (k := 3) rfl (nI_inc _ 1) (by decide) rfl (fun ls hl => ?_)
      refine lv_iinc (v := nI (i + 1)) (lv' := [(4, .int (nI (i + 1))), (3, .int (nI (cn (fun z => sIsH g P z k) i + 1))), (0, .ref (q 0)), (1, .int (nI n)), (2, .int (nI k))]) hx hb dX0_countHeirsBelow_24 hl (k := 4) rfl (nI_inc _ 1) (by decide) rfl (fun ls hl => ?_)
      refine lv_goto (tgt := 5) hx hb dX0_countHeirsBelow_27 (by decide) ?_
      have e3_ : nI (cn (fun z => sIsH g P z k) i + 1) = nI (cn (fun z => sIsH g P z k) (i + 1)) := by simp [cn, h4, h5, h6]
      rw [e3_] at hl
      exact ih5 (trivial) _ (lv_sub hl [2, 3, 4, 1, 0] rfl)
set_option maxHeartbeats 4000000 in
set_option maxRecDepth 100000 in
theorem m_X0_countHeirs (l : Launch) {D : va_G} {ci cz : ClassId} {cj : ClassId × ClassId} {q : Nat → Nat} {F P : Nat} {g : Nat → Nat → Int32} (hF : F ≤ 6) (hP12 : P ≤ 12) (k : Nat) (ha0 : k < P) : Met l yX0_countHeirs wsX0_countHeirs ({ frames := 3, cells := 0, slots := 0, locals := 68 } : Room) (va_Pc [.ref (q 0), .int (nI k)] (B0 D ci cz cj q F P g)) (RQ (some (.int (nI (sCHe g P k))))) 0 0 none_ := by
  refine Met.ofR (cc := cX0_countHeirs) (maxL := 2) (ret := (some .int)) (by decide) rfl (Nat.le_of_ble_eq_true rfl) ?_
  intro pg en s m bl mt cd ls Fx hr hlocks hB hl
  obtain ⟨hP, hK, hE⟩ := hB
  have hl : lv_has ls 2 [(0, .ref (q 0)), (1, .int (nI k))] := hl
  have Fx : CallFix pg m cd cX0_countHeirs 2 s _ wsX0_countHeirs RX0 := Fx
  have hx := Fx.1
  have hb := Fx.2.1
  have hin : ∀ w ∈ wsX00, w ∈ wsX0_countHeirs := by decide +kernel
  have hS : va_S (aw q 8) s.heap s.heap [] := va_S.rf
  have hP : va_P D vwCl (w0 ci cz q F P g) s.heap := hP
  refine lv_aload_n hx hb dX0_countHeirs_0 rfl (lv_at hl 0 rfl) ?_
  refine lv_aload_n hx hb dX0_countHeirs_1 rfl (lv_at hl 0 rfl) ?_
  refine r_get Fx hin hK hP 0 rfl 4 (by decide) (by decide +kernel) rfl rfl dX0_countHeirs_2 ?_
  refine lv_iload_n hx hb dX0_countHeirs_5 rfl (lv_at hl 1 rfl) ?_
  refine r_callR (rest := []) Fx (m_X0_countHeirsBelow l (D := D) (ci := ci) (cz := cz) (cj := cj) (q := q) (F := F) (P := P) (g := g) hF hP12 P k (by omega) (by omega)) (cwV 2 Fx.2.2.2.2 gX0_countHeirs_X0_countHeirsBelow rfl rfl rfl (by decide +kernel) ⟨Nat.le_of_ble_eq_true rfl, Nat.le_of_ble_eq_true rfl⟩) BW.bl (va_recv hK hP (ci := 0) (q0 := 0) rfl rfl) (BW.at hP hK hE hS) rfl hl.1 rfl (Nat.le_of_ble_eq_true rfl) dX0_countHeirs_6 ⟨Nat.zero_le _, Nat.zero_le _⟩ ?_
  exact r_iret hx hb hr hlocks (rfl) dX0_countHeirs_9
set_option maxHeartbeats 4000000 in
set_option maxRecDepth 100000 in
theorem m_X0_findHeir (l : Launch) {D : va_G} {ci cz : ClassId} {cj : ClassId × ClassId} {q : Nat → Nat} {F P : Nat} {g : Nat → Nat → Int32} (hF : F ≤ 6) (hP12 : P ≤ 12) (k : Nat) (x : Int32) (ha0 : k < P) : Met l yX0_findHeir wsX0_findHeir ({ frames := 2, cells := 0, slots := 0, locals := 44 } : Room) (va_Pc [.ref (q 0), .int (nI k), .int x] (B0 D ci cz cj q F P g)) (RQ (some (.int (sFH g P k x)))) 0 0 none_ := by
  refine Met.ofR (cc := cX0_findHeir) (maxL := 5) (ret := (some .int)) (by decide) rfl (Nat.le_of_ble_eq_true rfl) ?_
  intro pg en s m bl mt cd ls Fx hr hlocks hB hl
  obtain ⟨hP, hK, hE⟩ := hB
  have hl : lv_has ls 5 [(0, .ref (q 0)), (1, .int (nI k)), (2, .int x)] := hl
  have Fx : CallFix pg m cd cX0_findHeir 5 s _ wsX0_findHeir RX0 := Fx
  have hx := Fx.1
  have hb := Fx.2.1
  have hin : ∀ w ∈ wsX00, w ∈ wsX0_findHeir := by decide +kernel
  have hS : va_S (aw q 8) s.heap s.heap [] := va_S.rf
  have hP : va_P D vwCl (w0 ci cz q F P g) s.heap := hP
  refine lv_iconst (v := nI 0) hx hb dX0_findHeir_0 (by decide) ?_
  refine lv_istore_n (lv' := [(3, .int (nI 0)), (0, .ref (q 0)), (1, .int (nI k)), (2, .int x)]) hx hb dX0_findHeir_1 rfl hl (by decide) rfl (fun ls hl => ?_)
  refine lv_iconst (v := nI 0) hx hb dX0_findHeir_2 (by decide) ?_
  refine lv_istore (lv' := [(4, .int (nI 0)), (3, .int (nI 0)), (0, .ref (q 0)), (1, .int (nI k)), (2, .int x)]) hx hb dX0_findHeir_3 hl (by decide) rfl (fun ls hl => ?_)
  refine rloop (nL := 5) (N := P) (fun i => ∀ z, z < i → (fun z => sIsH g P z k && decide (nI (cn (fun z => sIsH g P z k) z) = x)) z = false) (fun i => [(0, .ref (q 0)), (1, .int (nI k)), (2, .int x), (3, .int (nI (cn (fun z => sIsH g P z k) i))), (4, .int (nI i))]) (all_0) (lv_sub hl [2, 3, 4, 1, 0] rfl) ?_ ?_
  · intro h1 ls hl
    have hl : lv_has ls 5 [(0, .ref (q 0)), (1, .int (nI k)), (2, .int x), (3, .int (nI (cn (fun z => sIsH g P z k) P))), (4, .int (nI P))] := hl
    refine lv_iload hx hb dX0_findHeir_5 (lv_at hl 4 rfl) ?_
    refine lv_aload_n hx hb dX0_findHeir_7 rfl (lv_at hl 0 rfl) ?_
    refine r_get Fx hin hK hP 0 rfl 4 (by decide) (by decide +kernel) rfl rfl dX0_findHeir_8 ?_
    refine n_icmp_ge (tgt := 41) hx hb (by omega) (by omega) dX0_findHeir_11 (by decide) (fun h2 => ?_) (fun h2 => by omega)
    refine lv_iconst (v := -1) hx hb dX0_findHeir_41 (by decide) ?_
    exact r_iret hx hb hr hlocks ((ff_none h1).symm) dX0_findHeir_42
  · intro i h4 h3 ih5 ls hl
    have hl : lv_has ls 5 [(0, .ref (q 0)), (1, .int (nI k)), (2, .int x), (3, .int (nI (cn (fun z => sIsH g P z k) i))), (4, .int (nI i))] := hl
    refine lv_iload hx hb dX0_findHeir_5 (lv_at hl 4 rfl) ?_
    refine lv_aload_n hx hb dX0_findHeir_7 rfl (lv_at hl 0 rfl) ?_
    refine r_get Fx hin hK hP 0 rfl 4 (by decide) (by decide +kernel) rfl rfl dX0_findHeir_8 ?_
    refine n_icmp_ge (tgt := 41) hx hb (by omega) (by omega) dX0_findHeir_11 (by decide) (fun h5 => by omega) (fun h5 => ?_)
    refine lv_aload_n hx hb dX0_findHeir_14 rfl (lv_at hl 0 rfl) ?_
    refine lv_iload hx hb dX0_findHeir_15 (lv_at hl 4 rfl) ?_
    refine lv_iload_n hx hb dX0_findHeir_17 rfl (lv_at hl 1 rfl) ?_
    refine r_callR (rest := []) Fx (m_X0_isHeir l (D := D) (ci := ci) (cz := cz) (cj := cj) (q := q) (F := F) (P := P) (g := g) hF hP12 i k (by omega) (by omega)) (cwV 2 Fx.2.2.2.2 gX0_findHeir_X0_isHeir rfl rfl rfl (by decide +kernel) ⟨Nat.le_of_ble_eq_true rfl, Nat.le_of_ble_eq_true rfl⟩) BW.bl (va_recv hK hP (ci := 0) (q0 := 0) rfl rfl) (BW.at hP hK hE hS) rfl hl.1 rfl (Nat.le_of_ble_eq_true rfl) dX0_findHeir_18 ⟨Nat.zero_le _, Nat.zero_le _⟩ ?_
    refine b_if_eq (tgt := 35) hx hb dX0_findHeir_21 (by decide) (fun h6 => ?_) (fun h6 => ?_)
    · refine lv_iinc (v := nI (i + 1)) (lv' := [(4, .int (nI (i + 1))), (0, .ref (q 0)), (1, .int (nI k)), (2, .int x), (3, .int (nI (cn (fun z => sIsH g P z k) i)))]) hx hb dX0_findHeir_35 hl (k := 4) rfl (nI_inc _ 1) (by decide) rfl (fun ls hl => ?_)
      refine lv_goto (tgt := 5) hx hb dX0_findHeir_38 (by decide) ?_
      have e3_ : nI (cn (fun z => sIsH g P z k) i) = nI (cn (fun z => sIsH g P z k) (i + 1)) := by simp [cn, h3, h4, h5, h6]
      rw [e3_] at hl
      exact ih5 (all_s h3 (by simp [Int32.not_lt, Int32.not_le, h3, h4, h5, h6])) _ (lv_sub hl [1, 2, 3, 4, 0] rfl)
    · refine lv_iload_n hx hb dX0_findHeir_24 rfl (lv_at hl 3 rfl) ?_
      refine lv_iload_n hx hb dX0_findHeir_25 rfl (lv_at hl 2 rfl) ?_
      refine lv_icmp_ne (tgt := 32) hx hb dX0_findHeir_26 (by decide) (fun h7 => ?_) (fun h7 => ?_)
      · refine lv_iinc (v := nI (cn (fun z => sIsH g P z k) i + 1)) (lv' := [(3, .int (nI (cn (fun z => sIsH g P z k) i + 1))), (0, .ref (q 0)), (1, .int (nI k)), (2, .int x), (4, .int (nI i))]) hx hb dX0_findHeir_32 hl (k := 3) rfl (nI_inc _ 1) (by decide) rfl (fun ls hl => ?_)
        refine lv_iinc (v := nI (i + 1)) (lv' := [(4, .int (nI (i + 1))), (3, .int (nI (cn (fun z => sIsH g P z k) i + 1))), (0, .ref (q 0)), (1, .int (nI k)), (2, .int x)]) hx hb dX0_findHeir_35 hl (k := 4) rfl (nI_inc _ 1) (by decide) rfl (fun ls hl => ?_)
        refine lv_goto (tgt := 5) hx hb dX0_findHeir_38 (by decide) ?_
        have e3_ : nI (cn (fun z => sIsH g P z k) i + 1) = nI (cn (fun z => sIsH g P z k) (i + 1)) := by simp [cn, h3, h4, h5, h6, h7]
        rw [e3_] at hl
        exact ih5 (all_s h3 (by simp [Int32.not_lt, Int32.not_le, h3, h4, h5, h6, h7])) _ (lv_sub hl [2, 3, 4, 1, 0] rfl)
      · refine lv_iload hx hb dX0_findHeir_29 (lv_at hl 4 rfl) ?_
        exact r_iret hx hb hr hlocks ((ff_some h3 (by simp [h3, h4, h5, h6, h7]) h4).symm) dX0_findHeir_31
set_option maxHeartbeats 4000000 in
set_option maxRecDepth 100000 in
theorem m_X0_partOf (l : Launch) {D : va_G} {ci cz : ClassId} {cj : ClassId × ClassId} {q : Nat → Nat} {F P : Nat} {g : Nat → Nat → Int32} (hF : F ≤ 6) (hP12 : P ≤ 12) (x : Int32) (c : Nat) (k : Nat) (ha0 : c ≤ 12) (ha1 : k ≤ 12) : Met l yX0_partOf wsX0_partOf ({ frames := 0, cells := 0, slots := 0, locals := 0 } : Room) (va_Pc [.int x, .int (nI c), .int (nI k)] (B0 D ci cz cj q F P g)) (RQ (some (.int (sPar x c k)))) 0 0 none_ := by
  refine Met.ofR (cc := cX0_partOf) (maxL := 6) (ret := (some .int)) (by decide) rfl (Nat.le_of_ble_eq_true rfl) ?_
  intro pg en s m bl mt cd ls Fx hr hlocks hB hl
  obtain ⟨hP, hK, hE⟩ := hB
  have hl : lv_has ls 6 [(0, .int x), (1, .int (nI c)), (2, .int (nI k))] := hl
  have Fx : CallFix pg m cd cX0_partOf 6 s _ wsX0_partOf RX0 := Fx
  have hx := Fx.1
  have hb := Fx.2.1
  have hS : va_S (aw q 8) s.heap s.heap [] := va_S.rf
  have hP : va_P D vwCl (w0 ci cz q F P g) s.heap := hP
  refine lv_iload_n hx hb dX0_partOf_0 rfl (lv_at hl 1 rfl) ?_
  refine lv_iconst (v := nI 1) hx hb dX0_partOf_1 (by decide) ?_
  refine n_icmp_gt (tgt := 7) hx hb (by omega) (by omega) dX0_partOf_2 (by decide) (fun h1 => ?_) (fun h1 => ?_)
  · refine lv_iload_n hx hb dX0_partOf_7 rfl (lv_at hl 0 rfl) ?_
    refine lv_iconst (v := nI 2) hx hb dX0_partOf_8 (by decide) ?_
    refine lv_idiv hx hb dX0_partOf_9 (by decide) ?_
    refine lv_istore_n (lv' := [(3, .int (x / (nI 2))), (0, .int x), (1, .int (nI c)), (2, .int (nI k))]) hx hb dX0_partOf_10 rfl hl (by decide) rfl (fun ls hl => ?_)
    refine lv_iload_n hx hb dX0_partOf_11 rfl (lv_at hl 3 rfl) ?_
    refine n_if_ne (tgt := 19) hx hb (by omega) dX0_partOf_12 (by decide) (fun h2 => ?_) (fun h2 => ?_)
    · refine lv_iload_n hx hb dX0_partOf_19 rfl (lv_at hl 2 rfl) ?_
      refine lv_iconst (v := nI 1) hx hb dX0_partOf_20 (by decide) ?_
      refine r_isub_n hx hb (by omega) dX0_partOf_21 ?_
      refine lv_istore (lv' := [(4, .int (nI (c - 1))), (3, .int (x / (nI 2))), (0, .int x), (1, .int (nI c)), (2, .int (nI k))]) hx hb dX0_partOf_22 hl (by decide) rfl (fun ls hl => ?_)
      refine lv_iload_n hx hb dX0_partOf_24 rfl (lv_at hl 1 rfl) ?_
      refine lv_iload hx hb dX0_partOf_25 (lv_at hl 0 rfl) ?_
      refine lv_idiv hx hb dX0_partOf_27 (nI_ne0 (by omega) (by omega)) ?_
      refine lv_istore (lv' := [(5, .int ((x / (nI 2)) / (nI (c - 1)))), (4, .int (nI (c - 1))), (3, .int (x / (nI 2))), (0, .int x), (1, .int (nI c)), (2, .int (nI k))]) hx hb dX0_partOf_28 hl (by decide) rfl (fun ls hl => ?_)
      refine lv_iload_n hx hb dX0_partOf_30 rfl (lv_at hl 5 rfl) ?_
      refine lv_iconst (v := nI 1) hx hb dX0_partOf_31 (by decide) ?_
      refine r_isub_n hx hb (by omega) dX0_partOf_32 ?_
      refine lv_iload_n hx hb dX0_partOf_33 rfl (lv_at hl 2 rfl) ?_
      refine lv_iload hx hb dX0_partOf_34 (lv_at hl 1 rfl) ?_
      refine lv_irem hx hb dX0_partOf_36 (nI_ne0 (by omega) (by omega)) ?_
      refine lv_icmp_ge (tgt := 47) hx hb dX0_partOf_37 (by decide) (fun h3 => ?_) (fun h3 => ?_)
      · refine lv_iload hx hb dX0_partOf_47 (lv_at hl 0 rfl) ?_
        exact r_iret hx hb hr hlocks (by simp [sPar, h1, Nat.not_le.mpr h1, Nat.ne_of_gt h1, h2, h3, Int32.not_lt.mpr h3]) dX0_partOf_49
      · have h3 := Int32.not_le.mp h3
        refine lv_iload hx hb dX0_partOf_40 (lv_at hl 0 rfl) ?_
        refine lv_iconst (v := nI 1) hx hb dX0_partOf_42 (by decide) ?_
        refine lv_iadd hx hb dX0_partOf_43 ?_
        refine lv_goto (tgt := 49) hx hb dX0_partOf_44 (by decide) ?_
        exact r_iret hx hb hr hlocks (by simp [sPar, h1, Nat.not_le.mpr h1, Nat.ne_of_gt h1, h2, h3, Int32.not_le.mpr h3]) dX0_partOf_49
    · refine lv_iload_n hx hb dX0_partOf_15 rfl (lv_at hl 1 rfl) ?_
      refine lv_iload_n hx hb dX0_partOf_16 rfl (lv_at hl 0 rfl) ?_
      refine lv_isub hx hb dX0_partOf_17 ?_
      exact r_iret hx hb hr hlocks (by simp [sPar, h1, Nat.not_le.mpr h1, Nat.ne_of_gt h1, h2]) dX0_partOf_18
  · refine lv_iload_n hx hb dX0_partOf_5 rfl (lv_at hl 0 rfl) ?_
    exact r_iret hx hb hr hlocks (by simp [sPar, h1, Nat.not_lt.mpr h1]) dX0_partOf_6
set_option maxHeartbeats 4000000 in
set_option maxRecDepth 100000 in
theorem m_X0_countChildren (l : Launch) {D : va_G} {ci cz : ClassId} {cj : ClassId × ClassId} {q : Nat → Nat} {F P : Nat} {g : Nat → Nat → Int32} (hF : F ≤ 6) (hP12 : P ≤ 12) (k : Nat) : Met l yX0_countChildren wsX0_countChildren ({ frames := 0, cells := 0, slots := 0, locals := 0 } : Room) (va_Pc [.ref (q 0), .int (nI k)] (B0 D ci cz cj q F P g)) (RQ (some (.int (nI (sChi g P k))))) 0 0 none_ := by
  refine Met.ofR (cc := cX0_countChildren) (maxL := 4) (ret := (some .int)) (by decide) rfl (Nat.le_of_ble_eq_true rfl) ?_
  intro pg en s m bl mt cd ls Fx hr hlocks hB hl
  obtain ⟨hP, hK, hE⟩ := hB
  have hl : lv_has ls 4 [(0, .ref (q 0)), (1, .int (nI k))] := hl
  have Fx : CallFix pg m cd cX0_countChildren 4 s _ wsX0_countChildren RX0 := Fx
  have hx := Fx.1
  have hb := Fx.2.1
  have hin : ∀ w ∈ wsX00, w ∈ wsX0_countChildren := by decide +kernel
  have hS : va_S (aw q 8) s.heap s.heap [] := va_S.rf
  have hP : va_P D vwCl (w0 ci cz q F P g) s.heap := hP
  refine lv_iconst (v := nI 0) hx hb dX0_countChildren_0 (by decide) ?_
  refine lv_istore_n (lv' := [(2, .int (nI 0)), (0, .ref (q 0)), (1, .int (nI k))]) hx hb dX0_countChildren_1 rfl hl (by decide) rfl (fun ls hl => ?_)
  refine lv_iconst (v := nI 0) hx hb dX0_countChildren_2 (by decide) ?_
  refine lv_istore_n (lv' := [(3, .int (nI 0)), (2, .int (nI 0)), (0, .ref (q 0)), (1, .int (nI k))]) hx hb dX0_countChildren_3 rfl hl (by decide) rfl (fun ls hl => ?_)
  refine rloop (nL := 4) (N := P) (fun _ => True) (fun i => [(0, .ref (q 0)), (1, .int (nI k)), (2, .int (nI (cn (fun z => decide (g 6 z = nI k)) i))), (3, .int (nI i))]) (trivial) (lv_sub hl [2, 3, 1, 0] rfl) ?_ ?_
  · intro h1 ls hl
    have hl : lv_has ls 4 [(0, .ref (q 0)), (1, .int (nI k)), (2, .int (nI (cn (fun z => decide (g 6 z = nI k)) P))), (3, .int (nI P))] := hl
    refine lv_iload_n hx hb dX0_countChildren_4 rfl (lv_at hl 3 rfl) ?_
    refine lv_aload_n hx hb dX0_countChildren_5 rfl (lv_at hl 0 rfl) ?_
    refine r_get Fx hin hK hP 0 rfl 4 (by decide) (by decide +kernel) rfl rfl dX0_countChildren_6 ?_
    refine n_icmp_ge (tgt := 31) hx hb (by omega) (by omega) dX0_countChildren_9 (by decide) (fun h2 => ?_) (fun h2 => by omega)
    refine lv_iload_n hx hb dX0_countChildren_31 rfl (lv_at hl 2 rfl) ?_
    exact r_iret hx hb hr hlocks (rfl) dX0_countChildren_32
  · intro i h4 h3 ih4 ls hl
    have hl : lv_has ls 4 [(0, .ref (q 0)), (1, .int (nI k)), (2, .int (nI (cn (fun z => decide (g 6 z = nI k)) i))), (3, .int (nI i))] := hl
    refine lv_iload_n hx hb dX0_countChildren_4 rfl (lv_at hl 3 rfl) ?_
    refine lv_aload_n hx hb dX0_countChildren_5 rfl (lv_at hl 0 rfl) ?_
    refine r_get Fx hin hK hP 0 rfl 4 (by decide) (by decide +kernel) rfl rfl dX0_countChildren_6 ?_
    refine n_icmp_ge (tgt := 31) hx hb (by omega) (by omega) dX0_countChildren_9 (by decide) (fun h5 => by omega) (fun h5 => ?_)
    refine lv_aload_n hx hb dX0_countChildren_12 rfl (lv_at hl 0 rfl) ?_
    refine r_get Fx hin hK hP 0 rfl 8 (by decide) (by decide +kernel) rfl rfl dX0_countChildren_13 ?_
    refine lv_iload_n hx hb dX0_countChildren_16 rfl (lv_at hl 3 rfl) ?_
    refine r_iald Fx hK hP 7 0 rfl rfl (i := i) (by omega) (by decide) dX0_countChildren_17 ?_
    refine lv_iload_n hx hb dX0_countChildren_18 rfl (lv_at hl 1 rfl) ?_
    refine lv_icmp_ne (tgt := 25) hx hb dX0_countChildren_19 (by decide) (fun h6 => ?_) (fun h6 => ?_)
    · refine lv_iinc (v := nI (i + 1)) (lv' := [(3, .int (nI (i + 1))), (0, .ref (q 0)), (1, .int (nI k)), (2, .int (nI (cn (fun z => decide (g 6 z = nI k)) i)))]) hx hb dX0_countChildren_25 hl (k := 3) rfl (nI_inc _ 1) (by decide) rfl (fun ls hl => ?_)
      refine lv_goto (tgt := 4) hx hb dX0_countChildren_28 (by decide) ?_
      have e2_ : nI (cn (fun z => decide (g 6 z = nI k)) i) = nI (cn (fun z => decide (g 6 z = nI k)) (i + 1)) := by simp [cn, h4, h5, h6]
      rw [e2_] at hl
      exact ih4 (trivial) _ (lv_sub hl [1, 2, 3, 0] rfl)
    · refine lv_iinc (v := nI (cn (fun z => decide (g 6 z = nI k)) i + 1)) (lv' := [(2, .int (nI (cn (fun z => decide (g 6 z = nI k)) i + 1))), (0, .ref (q 0)), (1, .int (nI k)), (3, .int (nI i))]) hx hb dX0_countChildren_22 hl (k := 2) rfl (nI_inc _ 1) (by decide) rfl (fun ls hl => ?_)
      refine lv_iinc (v := nI (i + 1)) (lv' := [(3, .int (nI (i + 1))), (2, .int (nI (cn (fun z => decide (g 6 z = nI k)) i + 1))), (0, .ref (q 0)), (1, .int (nI k))]) hx hb dX0_countChildren_25 hl (k := 3) rfl (nI_inc _ 1) (by decide) rfl (fun ls hl => ?_)
      refine lv_goto (tgt := 4) hx hb dX0_countChildren_28 (by decide) ?_
      have e2_ : nI (cn (fun z => decide (g 6 z = nI k)) i + 1) = nI (cn (fun z => decide (g 6 z = nI k)) (i + 1)) := by simp [cn, h4, h5, h6]
      rw [e2_] at hl
      exact ih4 (trivial) _ (lv_sub hl [2, 3, 1, 0] rfl)
set_option maxHeartbeats 4000000 in
set_option maxRecDepth 100000 in
theorem m_X0_living (l : Launch) {D : va_G} {ci cz : ClassId} {cj : ClassId × ClassId} {q : Nat → Nat} {F P : Nat} {g : Nat → Nat → Int32} (hF : F ≤ 6) (hP12 : P ≤ 12) : Met l yX0_living wsX0_living ({ frames := 0, cells := 0, slots := 0, locals := 0 } : Room) (va_Pc [.ref (q 0)] (B0 D ci cz cj q F P g)) (RQ (some (.int (nI (sLiv g P))))) 0 0 none_ := by
  refine Met.ofR (cc := cX0_living) (maxL := 3) (ret := (some .int)) (by decide) rfl (Nat.le_of_ble_eq_true rfl) ?_
  intro pg en s m bl mt cd ls Fx hr hlocks hB hl
  obtain ⟨hP, hK, hE⟩ := hB
  have hl : lv_has ls 3 [(0, .ref (q 0))] := hl
  have Fx : CallFix pg m cd cX0_living 3 s _ wsX0_living RX0 := Fx
  have hx := Fx.1
  have hb := Fx.2.1
  have hin : ∀ w ∈ wsX00, w ∈ wsX0_living := by decide +kernel
  have hS : va_S (aw q 8) s.heap s.heap [] := va_S.rf
  have hP : va_P D vwCl (w0 ci cz q F P g) s.heap := hP
  refine lv_iconst (v := nI 0) hx hb dX0_living_0 (by decide) ?_
  refine lv_istore_n (lv' := [(1, .int (nI 0)), (0, .ref (q 0))]) hx hb dX0_living_1 rfl hl (by decide) rfl (fun ls hl => ?_)
  refine lv_iconst (v := nI 0) hx hb dX0_living_2 (by decide) ?_
  refine lv_istore_n (lv' := [(2, .int (nI 0)), (1, .int (nI 0)), (0, .ref (q 0))]) hx hb dX0_living_3 rfl hl (by decide) rfl (fun ls hl => ?_)
  refine rloop (nL := 3) (N := P) (fun _ => True) (fun i => [(0, .ref (q 0)), (1, .int (nI (cn (fun z => lv g z) i))), (2, .int (nI i))]) (trivial) (lv_sub hl [2, 1, 0] rfl) ?_ ?_
  · intro h1 ls hl
    have hl : lv_has ls 3 [(0, .ref (q 0)), (1, .int (nI (cn (fun z => lv g z) P))), (2, .int (nI P))] := hl
    refine lv_iload_n hx hb dX0_living_4 rfl (lv_at hl 2 rfl) ?_
    refine lv_aload_n hx hb dX0_living_5 rfl (lv_at hl 0 rfl) ?_
    refine r_get Fx hin hK hP 0 rfl 4 (by decide) (by decide +kernel) rfl rfl dX0_living_6 ?_
    refine n_icmp_ge (tgt := 30) hx hb (by omega) (by omega) dX0_living_9 (by decide) (fun h2 => ?_) (fun h2 => by omega)
    refine lv_iload_n hx hb dX0_living_30 rfl (lv_at hl 1 rfl) ?_
    exact r_iret hx hb hr hlocks (rfl) dX0_living_31
  · intro i h4 h3 ih4 ls hl
    have hl : lv_has ls 3 [(0, .ref (q 0)), (1, .int (nI (cn (fun z => lv g z) i))), (2, .int (nI i))] := hl
    refine lv_iload_n hx hb dX0_living_4 rfl (lv_at hl 2 rfl) ?_
    refine lv_aload_n hx hb dX0_living_5 rfl (lv_at hl 0 rfl) ?_
    refine r_get Fx hin hK hP 0 rfl 4 (by decide) (by decide +kernel) rfl rfl dX0_living_6 ?_
    refine n_icmp_ge (tgt := 30) hx hb (by omega) (by omega) dX0_living_9 (by decide) (fun h5 => by omega) (fun h5 => ?_)
    refine lv_aload_n hx hb dX0_living_12 rfl (lv_at hl 0 rfl) ?_
    refine r_get Fx hin hK hP 0 rfl 5 (by decide) (by decide +kernel) rfl rfl dX0_living_13 ?_
    refine lv_iload_n hx hb dX0_living_16 rfl (lv_at hl 2 rfl) ?_
    refine r_alive Fx hK hP (i := i) (by omega) (by omega) dX0_living_17 ?_
    refine b_if_eq (tgt := 24) hx hb dX0_living_18 (by decide) (fun h6 => ?_) (fun h6 => ?_)
    · refine lv_iinc (v := nI (i + 1)) (lv' := [(2, .int (nI (i + 1))), (0, .ref (q 0)), (1, .int (nI (cn (fun z => lv g z) i)))]) hx hb dX0_living_24 hl (k := 2) rfl (nI_inc _ 1) (by decide) rfl (fun ls hl => ?_)
      refine lv_goto (tgt := 4) hx hb dX0_living_27 (by decide) ?_
      have e1_ : nI (cn (fun z => lv g z) i) = nI (cn (fun z => lv g z) (i + 1)) := by simp [cn, h4, h5, h6]
      rw [e1_] at hl
      exact ih4 (trivial) _ (lv_sub hl [1, 2, 0] rfl)
    · refine lv_iinc (v := nI (cn (fun z => lv g z) i + 1)) (lv' := [(1, .int (nI (cn (fun z => lv g z) i + 1))), (0, .ref (q 0)), (2, .int (nI i))]) hx hb dX0_living_21 hl (k := 1) rfl (nI_inc _ 1) (by decide) rfl (fun ls hl => ?_)
      refine lv_iinc (v := nI (i + 1)) (lv' := [(2, .int (nI (i + 1))), (1, .int (nI (cn (fun z => lv g z) i + 1))), (0, .ref (q 0))]) hx hb dX0_living_24 hl (k := 2) rfl (nI_inc _ 1) (by decide) rfl (fun ls hl => ?_)
      refine lv_goto (tgt := 4) hx hb dX0_living_27 (by decide) ?_
      have e1_ : nI (cn (fun z => lv g z) i + 1) = nI (cn (fun z => lv g z) (i + 1)) := by simp [cn, h4, h5, h6]
      rw [e1_] at hl
      exact ih4 (trivial) _ (lv_sub hl [2, 1, 0] rfl)
set_option maxHeartbeats 4000000 in
set_option maxRecDepth 100000 in
theorem m_X0_mix (l : Launch) {D : va_G} {ci cz : ClassId} {cj : ClassId × ClassId} {q : Nat → Nat} {F P : Nat} {g : Nat → Nat → Int32} (hF : F ≤ 6) (hP12 : P ≤ 12) (y : Int64) (x : Int64) : Met l yX0_mix wsX0_mix ({ frames := 0, cells := 0, slots := 0, locals := 0 } : Room) (va_Pc [.long y, .long x] (B0 D ci cz cj q F P g)) (RQ (some (.long (mx y x)))) 0 0 none_ := by
  refine Met.ofR (cc := cX0_mix) (maxL := 4) (ret := (some .long)) (by decide) rfl (Nat.le_of_ble_eq_true rfl) ?_
  intro pg en s m bl mt cd ls Fx hr hlocks hB hl
  obtain ⟨hP, hK, hE⟩ := hB
  have hl : lv_has ls 4 [(0, .long y), (2, .long x)] := hl
  have Fx : CallFix pg m cd cX0_mix 4 s _ wsX0_mix RX0 := Fx
  have hx := Fx.1
  have hb := Fx.2.1
  have hS : va_S (aw q 8) s.heap s.heap [] := va_S.rf
  have hP : va_P D vwCl (w0 ci cz q F P g) s.heap := hP
  refine lv_lload_n hx hb dX0_mix_0 rfl (lv_at hl 0 rfl) ?_
  refine lv_ldc2 hx hb Fx.2.2.2.1 (Fx.2.2.2.2 (.constantLong RX0 229 (31)) (by decide +kernel)) dX0_mix_1 ?_
  refine lv_lmul hx hb dX0_mix_4 ?_
  refine lv_lload_n hx hb dX0_mix_5 rfl (lv_at hl 1 rfl) ?_
  refine lv_ladd hx hb dX0_mix_6 ?_
  exact r_lret hx hb hr hlocks (rfl) dX0_mix_7
set_option maxHeartbeats 4000000 in
set_option maxRecDepth 100000 in
theorem m_X0_mixFerry (l : Launch) {D : va_G} {ci cz : ClassId} {cj : ClassId × ClassId} {q : Nat → Nat} {F P : Nat} {g : Nat → Nat → Int32} (hF : F ≤ 6) (hP12 : P ≤ 12) (y : Int64) (f : Nat) (ha0 : f < 6) : Met l yX0_mixFerry wsX0_mixFerry ({ frames := 2, cells := 0, slots := 0, locals := 45 } : Room) (va_Pc [.ref (q 0), .long y, .int (nI f)] (B0 D ci cz cj q F P g)) (RQ (some (.long (sDF g P y f)))) 0 0 none_ := by
  refine Met.ofR (cc := cX0_mixFerry) (maxL := 8) (ret := (some .long)) (by decide) rfl (Nat.le_of_ble_eq_true rfl) ?_
  intro pg en s m bl mt cd ls Fx hr hlocks hB hl
  obtain ⟨hP, hK, hE⟩ := hB
  have hl : lv_has ls 8 [(0, .ref (q 0)), (1, .long y), (3, .int (nI f))] := hl
  have Fx : CallFix pg m cd cX0_mixFerry 8 s _ wsX0_mixFerry RX0 := Fx
  have hx := Fx.1
  have hb := Fx.2.1
  have hin : ∀ w ∈ wsX00, w ∈ wsX0_mixFerry := by decide +kernel
  have hS : va_S (aw q 8) s.heap s.heap [] := va_S.rf
  have hP : va_P D vwCl (w0 ci cz q F P g) s.heap := hP
  refine lv_lload_n hx hb dX0_mixFerry_0 rfl (lv_at hl 1 rfl) ?_
  refine lv_aload_n hx hb dX0_mixFerry_1 rfl (lv_at hl 0 rfl) ?_
  refine r_get Fx hin hK hP 0 rfl 1 (by decide) (by decide +kernel) rfl rfl dX0_mixFerry_2 ?_
  refine lv_iload_n hx hb dX0_mixFerry_5 rfl (lv_at hl 2 rfl) ?_
  refine r_iald Fx hK hP 1 0 rfl rfl (i := f) (by omega) (by decide) dX0_mixFerry_6 ?_
  refine lv_i2l hx hb dX0_mixFerry_7 rfl ?_
  refine r_callRS (rest := []) Fx (m_X0_mix l (D := D) (ci := ci) (cz := cz) (cj := cj) (q := q) (F := F) (P := P) (g := g) hF hP12 y ((g 0 f).toInt64) ) (va_cwS 2 Fx.2.2.2.2 gX0_mixFerry_X0_mix rfl rfl rfl (by decide +kernel) ⟨Nat.le_of_ble_eq_true rfl, Nat.le_of_ble_eq_true rfl⟩) BW.bl (BW.at hP hK hE hS) rfl hl.1 rfl (Nat.le_of_ble_eq_true rfl) dX0_mixFerry_8 ⟨Nat.zero_le _, Nat.zero_le _⟩ ?_
  refine lv_lstore (lv' := [(4, .long (mx y ((g 0 f).toInt64))), (0, .ref (q 0)), (1, .long y), (3, .int (nI f))]) hx hb dX0_mixFerry_11 hl (by decide) rfl (fun ls hl => ?_)
  refine lv_lload hx hb dX0_mixFerry_13 (lv_at hl 0 rfl) ?_
  refine lv_aload_n hx hb dX0_mixFerry_15 rfl (lv_at hl 1 rfl) ?_
  refine r_get Fx hin hK hP 0 rfl 2 (by decide) (by decide +kernel) rfl rfl dX0_mixFerry_16 ?_
  refine lv_iload_n hx hb dX0_mixFerry_19 rfl (lv_at hl 3 rfl) ?_
  refine r_iald Fx hK hP 2 0 rfl rfl (i := f) (by omega) (by decide) dX0_mixFerry_20 ?_
  refine lv_i2l hx hb dX0_mixFerry_21 rfl ?_
  refine r_callRS (rest := []) Fx (m_X0_mix l (D := D) (ci := ci) (cz := cz) (cj := cj) (q := q) (F := F) (P := P) (g := g) hF hP12 (mx y ((g 0 f).toInt64)) ((g 1 f).toInt64) ) (va_cwS 2 Fx.2.2.2.2 gX0_mixFerry_X0_mix rfl rfl rfl (by decide +kernel) ⟨Nat.le_of_ble_eq_true rfl, Nat.le_of_ble_eq_true rfl⟩) BW.bl (BW.at hP hK hE hS) rfl hl.1 rfl (Nat.le_of_ble_eq_true rfl) dX0_mixFerry_22 ⟨Nat.zero_le _, Nat.zero_le _⟩ ?_
  refine lv_lstore (lv' := [(4, .long (mx (mx y ((g 0 f).toInt64)) ((g 1 f).toInt64))), (0, .ref (q 0)), (1, .long y), (3, .int (nI f))]) hx hb dX0_mixFerry_25 hl (by decide) rfl (fun ls hl => ?_)
  refine lv_iconst (v := nI 0) hx hb dX0_mixFerry_27 (by decide) ?_
  refine lv_istore (lv' := [(6, .int (nI 0)), (4, .long (mx (mx y ((g 0 f).toInt64)) ((g 1 f).toInt64))), (0, .ref (q 0)), (1, .long y), (3, .int (nI f))]) hx hb dX0_mixFerry_28 hl (by decide) rfl (fun ls hl => ?_)
  refine rloop (nL := 8) (N := 4) (fun _ => True) (fun i => [(0, .ref (q 0)), (1, .long y), (3, .int (nI f)), (4, .long (fo (fun d w => sDW g P f d w) (mx (mx y (g 0 f).toInt64) (g 1 f).toInt64) i)), (6, .int (nI i))]) (trivial) (lv_sub hl [2, 3, 4, 1, 0] rfl) ?_ ?_
  · intro h1 ls hl
    have hl : lv_has ls 8 [(0, .ref (q 0)), (1, .long y), (3, .int (nI f)), (4, .long (fo (fun d w => sDW g P f d w) (mx (mx y (g 0 f).toInt64) (g 1 f).toInt64) 4)), (6, .int (nI 4))] := hl
    refine lv_iload hx hb dX0_mixFerry_30 (lv_at hl 4 rfl) ?_
    refine lv_iconst (v := nI 4) hx hb dX0_mixFerry_32 (by decide) ?_
    refine n_icmp_ge (tgt := 77) hx hb (by omega) (by omega) dX0_mixFerry_33 (by decide) (fun h2 => ?_) (fun h2 => by omega)
    refine lv_lload hx hb dX0_mixFerry_77 (lv_at hl 3 rfl) ?_
    exact r_lret hx hb hr hlocks (rfl) dX0_mixFerry_79
  · intro i h4 h3 ih30 ls hl
    have hl : lv_has ls 8 [(0, .ref (q 0)), (1, .long y), (3, .int (nI f)), (4, .long (fo (fun d w => sDW g P f d w) (mx (mx y (g 0 f).toInt64) (g 1 f).toInt64) i)), (6, .int (nI i))] := hl
    refine lv_iload hx hb dX0_mixFerry_30 (lv_at hl 4 rfl) ?_
    refine lv_iconst (v := nI 4) hx hb dX0_mixFerry_32 (by decide) ?_
    refine n_icmp_ge (tgt := 77) hx hb (by omega) (by omega) dX0_mixFerry_33 (by decide) (fun h5 => by omega) (fun h5 => ?_)
    refine lv_iconst (v := nI 0) hx hb dX0_mixFerry_36 (by decide) ?_
    refine lv_istore (lv' := [(7, .int (nI 0)), (0, .ref (q 0)), (1, .long y), (3, .int (nI f)), (4, .long (fo (fun d w => sDW g P f d w) (mx (mx y (g 0 f).toInt64) (g 1 f).toInt64) i)), (6, .int (nI i))]) hx hb dX0_mixFerry_37 hl (by decide) rfl (fun ls hl => ?_)
    refine rloop (nL := 8) (N := P) (fun _ => True) (fun i' => [(0, .ref (q 0)), (1, .long y), (3, .int (nI f)), (4, .long (fo (fun d z => mx d (own g f i z).toInt64) (fo (fun d w => sDW g P f d w) (mx (mx y (g 0 f).toInt64) (g 1 f).toInt64) i) i')), (6, .int (nI i)), (7, .int (nI i'))]) (trivial) (lv_sub hl [1, 2, 3, 4, 5, 0] rfl) ?_ ?_
    · intro h6 ls hl
      have hl : lv_has ls 8 [(0, .ref (q 0)), (1, .long y), (3, .int (nI f)), (4, .long (fo (fun d z => mx d (own g f i z).toInt64) (fo (fun d w => sDW g P f d w) (mx (mx y (g 0 f).toInt64) (g 1 f).toInt64) i) P)), (6, .int (nI i)), (7, .int (nI P))] := hl
      refine lv_iload hx hb dX0_mixFerry_39 (lv_at hl 5 rfl) ?_
      refine lv_aload_n hx hb dX0_mixFerry_41 rfl (lv_at hl 0 rfl) ?_
      refine r_get Fx hin hK hP 0 rfl 4 (by decide) (by decide +kernel) rfl rfl dX0_mixFerry_42 ?_
      refine n_icmp_ge (tgt := 71) hx hb (by omega) (by omega) dX0_mixFerry_45 (by decide) (fun h7 => ?_) (fun h7 => by omega)
      refine lv_iinc (v := nI (i + 1)) (lv' := [(6, .int (nI (i + 1))), (0, .ref (q 0)), (1, .long y), (3, .int (nI f)), (4, .long (fo (fun d z => mx d (own g f i z).toInt64) (fo (fun d w => sDW g P f d w) (mx (mx y (g 0 f).toInt64) (g 1 f).toInt64) i) P)), (7, .int (nI P))]) hx hb dX0_mixFerry_71 hl (k := 4) rfl (nI_inc _ 1) (by decide) rfl (fun ls hl => ?_)
      refine lv_goto (tgt := 30) hx hb dX0_mixFerry_74 (by decide) ?_
      exact ih30 (trivial) _ (lv_sub hl [1, 2, 3, 4, 0] rfl)
    · intro i' h9 h8 ih39 ls hl
      have hl : lv_has ls 8 [(0, .ref (q 0)), (1, .long y), (3, .int (nI f)), (4, .long (fo (fun d z => mx d (own g f i z).toInt64) (fo (fun d w => sDW g P f d w) (mx (mx y (g 0 f).toInt64) (g 1 f).toInt64) i) i')), (6, .int (nI i)), (7, .int (nI i'))] := hl
      refine lv_iload hx hb dX0_mixFerry_39 (lv_at hl 5 rfl) ?_
      refine lv_aload_n hx hb dX0_mixFerry_41 rfl (lv_at hl 0 rfl) ?_
      refine r_get Fx hin hK hP 0 rfl 4 (by decide) (by decide +kernel) rfl rfl dX0_mixFerry_42 ?_
      refine n_icmp_ge (tgt := 71) hx hb (by omega) (by omega) dX0_mixFerry_45 (by decide) (fun h10 => by omega) (fun h10 => ?_)
      refine lv_lload hx hb dX0_mixFerry_48 (lv_at hl 3 rfl) ?_
      refine lv_aload_n hx hb dX0_mixFerry_50 rfl (lv_at hl 0 rfl) ?_
      refine lv_iload_n hx hb dX0_mixFerry_51 rfl (lv_at hl 2 rfl) ?_
      refine lv_iload hx hb dX0_mixFerry_52 (lv_at hl 4 rfl) ?_
      refine lv_iload hx hb dX0_mixFerry_54 (lv_at hl 5 rfl) ?_
      refine r_callR (rest := [.long (fo (fun d z => mx d (own g f i z).toInt64) (fo (fun d w => sDW g P f d w) (mx (mx y (g 0 f).toInt64) (g 1 f).toInt64) i) i')]) Fx (m_X0_owns l (D := D) (ci := ci) (cz := cz) (cj := cj) (q := q) (F := F) (P := P) (g := g) hF hP12 f i i' (by omega) (by omega) (by omega)) (cwV 3 Fx.2.2.2.2 gX0_mixFerry_X0_owns rfl rfl rfl (by decide +kernel) ⟨Nat.le_of_ble_eq_true rfl, Nat.le_of_ble_eq_true rfl⟩) BW.bl (va_recv hK hP (ci := 0) (q0 := 0) rfl rfl) (BW.at hP hK hE hS) rfl hl.1 rfl (Nat.le_of_ble_eq_true rfl) dX0_mixFerry_56 ⟨Nat.zero_le _, Nat.zero_le _⟩ ?_
      refine lv_i2l hx hb dX0_mixFerry_59 rfl ?_
      refine r_callRS (rest := []) Fx (m_X0_mix l (D := D) (ci := ci) (cz := cz) (cj := cj) (q := q) (F := F) (P := P) (g := g) hF hP12 (fo (fun d z => mx d (own g f i z).toInt64) (fo (fun d w => sDW g P f d w) (mx (mx y (g 0 f).toInt64) (g 1 f).toInt64) i) i') ((own g f i i').toInt64) ) (va_cwS 2 Fx.2.2.2.2 gX0_mixFerry_X0_mix rfl rfl rfl (by decide +kernel) ⟨Nat.le_of_ble_eq_true rfl, Nat.le_of_ble_eq_true rfl⟩) BW.bl (BW.at hP hK hE hS) rfl hl.1 rfl (Nat.le_of_ble_eq_true rfl) dX0_mixFerry_60 ⟨Nat.zero_le _, Nat.zero_le _⟩ ?_
      refine lv_lstore (lv' := [(4, .long (mx (fo (fun d z => mx d (own g f i z).toInt64) (fo (fun d w => sDW g P f d w) (mx (mx y (g 0 f).toInt64) (g 1 f).toInt64) i) i') ((own g f i i').toInt64))), (0, .ref (q 0)), (1, .long y), (3, .int (nI f)), (6, .int (nI i)), (7, .int (nI i'))]) hx hb dX0_mixFerry_63 hl (by decide) rfl (fun ls hl => ?_)
      refine lv_iinc (v := nI (i' + 1)) (lv' := [(7, .int (nI (i' + 1))), (4, .long (mx (fo (fun d z => mx d (own g f i z).toInt64) (fo (fun d w => sDW g P f d w) (mx (mx y (g 0 f).toInt64) (g 1 f).toInt64) i) i') ((own g f i i').toInt64))), (0, .ref (q 0)), (1, .long y), (3, .int (nI f)), (6, .int (nI i))]) hx hb dX0_mixFerry_65 hl (k := 5) rfl (nI_inc _ 1) (by decide) rfl (fun ls hl => ?_)
      refine lv_goto (tgt := 39) hx hb dX0_mixFerry_68 (by decide) ?_
      exact ih39 (trivial) _ (lv_sub hl [2, 3, 4, 1, 5, 0] rfl)
set_option maxHeartbeats 4000000 in
set_option maxRecDepth 100000 in
theorem m_X0_mixPerson (l : Launch) {D : va_G} {ci cz : ClassId} {cj : ClassId × ClassId} {q : Nat → Nat} {F P : Nat} {g : Nat → Nat → Int32} (hF : F ≤ 6) (hP12 : P ≤ 12) (y : Int64) (k : Nat) (ha0 : k < P) : Met l yX0_mixPerson wsX0_mixPerson ({ frames := 4, cells := 0, slots := 0, locals := 92 } : Room) (va_Pc [.ref (q 0), .long y, .int (nI k)] (B0 D ci cz cj q F P g)) (RQ (some (.long (sDP g F P y k)))) 0 0 none_ := by
  refine Met.ofR (cc := cX0_mixPerson) (maxL := 6) (ret := (some .long)) (by decide) rfl (Nat.le_of_ble_eq_true rfl) ?_
  intro pg en s m bl mt cd ls Fx hr hlocks hB hl
  obtain ⟨hP, hK, hE⟩ := hB
  have hl : lv_has ls 6 [(0, .ref (q 0)), (1, .long y), (3, .int (nI k))] := hl
  have Fx : CallFix pg m cd cX0_mixPerson 6 s _ wsX0_mixPerson RX0 := Fx
  have hx := Fx.1
  have hb := Fx.2.1
  have hin : ∀ w ∈ wsX00, w ∈ wsX0_mixPerson := by decide +kernel
  have hS : va_S (aw q 8) s.heap s.heap [] := va_S.rf
  have hP : va_P D vwCl (w0 ci cz q F P g) s.heap := hP
  refine lv_lload_n hx hb dX0_mixPerson_0 rfl (lv_at hl 1 rfl) ?_
  refine lv_aload_n hx hb dX0_mixPerson_1 rfl (lv_at hl 0 rfl) ?_
  refine r_get Fx hin hK hP 0 rfl 5 (by decide) (by decide +kernel) rfl rfl dX0_mixPerson_2 ?_
  refine lv_iload_n hx hb dX0_mixPerson_5 rfl (lv_at hl 2 rfl) ?_
  refine r_alive Fx hK hP (i := k) (by omega) (by omega) dX0_mixPerson_6 ?_
  refine b_if_eq (tgt := 14) hx hb dX0_mixPerson_7 (by decide) (fun h1 => ?_) (fun h1 => ?_)
  · refine lv_lconst (v := (0 : Int64)) hx hb dX0_mixPerson_14 (by decide) ?_
    refine r_callRS (rest := []) Fx (m_X0_mix l (D := D) (ci := ci) (cz := cz) (cj := cj) (q := q) (F := F) (P := P) (g := g) hF hP12 y (0 : Int64) ) (va_cwS 2 Fx.2.2.2.2 gX0_mixPerson_X0_mix rfl rfl rfl (by decide +kernel) ⟨Nat.le_of_ble_eq_true rfl, Nat.le_of_ble_eq_true rfl⟩) BW.bl (BW.at hP hK hE hS) rfl hl.1 rfl (Nat.le_of_ble_eq_true rfl) dX0_mixPerson_15 ⟨Nat.zero_le _, Nat.zero_le _⟩ ?_
    refine lv_lstore (lv' := [(4, .long (mx y (0 : Int64))), (0, .ref (q 0)), (1, .long y), (3, .int (nI k))]) hx hb dX0_mixPerson_18 hl (by decide) rfl (fun ls hl => ?_)
    refine lv_lload hx hb dX0_mixPerson_20 (lv_at hl 0 rfl) ?_
    refine lv_aload_n hx hb dX0_mixPerson_22 rfl (lv_at hl 1 rfl) ?_
    refine r_get Fx hin hK hP 0 rfl 6 (by decide) (by decide +kernel) rfl rfl dX0_mixPerson_23 ?_
    refine lv_iload_n hx hb dX0_mixPerson_26 rfl (lv_at hl 3 rfl) ?_
    refine r_iald Fx hK hP 5 0 rfl rfl (i := k) (by omega) (by decide) dX0_mixPerson_27 ?_
    refine lv_i2l hx hb dX0_mixPerson_28 rfl ?_
    refine r_callRS (rest := []) Fx (m_X0_mix l (D := D) (ci := ci) (cz := cz) (cj := cj) (q := q) (F := F) (P := P) (g := g) hF hP12 (mx y (0 : Int64)) ((g 4 k).toInt64) ) (va_cwS 2 Fx.2.2.2.2 gX0_mixPerson_X0_mix rfl rfl rfl (by decide +kernel) ⟨Nat.le_of_ble_eq_true rfl, Nat.le_of_ble_eq_true rfl⟩) BW.bl (BW.at hP hK hE hS) rfl hl.1 rfl (Nat.le_of_ble_eq_true rfl) dX0_mixPerson_29 ⟨Nat.zero_le _, Nat.zero_le _⟩ ?_
    refine lv_lstore (lv' := [(4, .long (mx (mx y (0 : Int64)) ((g 4 k).toInt64))), (0, .ref (q 0)), (1, .long y), (3, .int (nI k))]) hx hb dX0_mixPerson_32 hl (by decide) rfl (fun ls hl => ?_)
    refine lv_lload hx hb dX0_mixPerson_34 (lv_at hl 0 rfl) ?_
    refine lv_aload_n hx hb dX0_mixPerson_36 rfl (lv_at hl 1 rfl) ?_
    refine r_get Fx hin hK hP 0 rfl 7 (by decide) (by decide +kernel) rfl rfl dX0_mixPerson_37 ?_
    refine lv_iload_n hx hb dX0_mixPerson_40 rfl (lv_at hl 3 rfl) ?_
    refine r_iald Fx hK hP 6 0 rfl rfl (i := k) (by omega) (by decide) dX0_mixPerson_41 ?_
    refine lv_i2l hx hb dX0_mixPerson_42 rfl ?_
    refine r_callRS (rest := []) Fx (m_X0_mix l (D := D) (ci := ci) (cz := cz) (cj := cj) (q := q) (F := F) (P := P) (g := g) hF hP12 (mx (mx y (0 : Int64)) ((g 4 k).toInt64)) ((g 5 k).toInt64) ) (va_cwS 2 Fx.2.2.2.2 gX0_mixPerson_X0_mix rfl rfl rfl (by decide +kernel) ⟨Nat.le_of_ble_eq_true rfl, Nat.le_of_ble_eq_true rfl⟩) BW.bl (BW.at hP hK hE hS) rfl hl.1 rfl (Nat.le_of_ble_eq_true rfl) dX0_mixPerson_43 ⟨Nat.zero_le _, Nat.zero_le _⟩ ?_
    refine lv_lstore (lv' := [(4, .long (mx (mx (mx y (0 : Int64)) ((g 4 k).toInt64)) ((g 5 k).toInt64))), (0, .ref (q 0)), (1, .long y), (3, .int (nI k))]) hx hb dX0_mixPerson_46 hl (by decide) rfl (fun ls hl => ?_)
    refine lv_lload hx hb dX0_mixPerson_48 (lv_at hl 0 rfl) ?_
    refine lv_aload_n hx hb dX0_mixPerson_50 rfl (lv_at hl 1 rfl) ?_
    refine lv_iload_n hx hb dX0_mixPerson_51 rfl (lv_at hl 3 rfl) ?_
    refine r_callR (rest := [.long (mx (mx (mx y (0 : Int64)) ((g 4 k).toInt64)) ((g 5 k).toInt64))]) Fx (m_X0_countAllShares l (D := D) (ci := ci) (cz := cz) (cj := cj) (q := q) (F := F) (P := P) (g := g) hF hP12 k (by omega)) (cwV 1 Fx.2.2.2.2 gX0_mixPerson_X0_countAllShares rfl rfl rfl (by decide +kernel) ⟨Nat.le_of_ble_eq_true rfl, Nat.le_of_ble_eq_true rfl⟩) BW.bl (va_recv hK hP (ci := 0) (q0 := 0) rfl rfl) (BW.at hP hK hE hS) rfl hl.1 rfl (Nat.le_of_ble_eq_true rfl) dX0_mixPerson_52 ⟨Nat.zero_le _, Nat.zero_le _⟩ ?_
    refine lv_i2l hx hb dX0_mixPerson_55 rfl ?_
    refine r_callRS (rest := []) Fx (m_X0_mix l (D := D) (ci := ci) (cz := cz) (cj := cj) (q := q) (F := F) (P := P) (g := g) hF hP12 (mx (mx (mx y (0 : Int64)) ((g 4 k).toInt64)) ((g 5 k).toInt64)) ((sAll g F k).toInt64) ) (va_cwS 2 Fx.2.2.2.2 gX0_mixPerson_X0_mix rfl rfl rfl (by decide +kernel) ⟨Nat.le_of_ble_eq_true rfl, Nat.le_of_ble_eq_true rfl⟩) BW.bl (BW.at hP hK hE hS) rfl hl.1 rfl (Nat.le_of_ble_eq_true rfl) dX0_mixPerson_56 ⟨Nat.zero_le _, Nat.zero_le _⟩ ?_
    refine lv_lstore (lv' := [(4, .long (mx (mx (mx (mx y (0 : Int64)) ((g 4 k).toInt64)) ((g 5 k).toInt64)) ((sAll g F k).toInt64))), (0, .ref (q 0)), (1, .long y), (3, .int (nI k))]) hx hb dX0_mixPerson_59 hl (by decide) rfl (fun ls hl => ?_)
    refine lv_lload hx hb dX0_mixPerson_61 (lv_at hl 0 rfl) ?_
    refine lv_aload_n hx hb dX0_mixPerson_63 rfl (lv_at hl 1 rfl) ?_
    refine lv_iload_n hx hb dX0_mixPerson_64 rfl (lv_at hl 3 rfl) ?_
    refine r_callR (rest := [.long (mx (mx (mx (mx y (0 : Int64)) ((g 4 k).toInt64)) ((g 5 k).toInt64)) ((sAll g F k).toInt64))]) Fx (m_X0_countChildren l (D := D) (ci := ci) (cz := cz) (cj := cj) (q := q) (F := F) (P := P) (g := g) hF hP12 k ) (cwV 1 Fx.2.2.2.2 gX0_mixPerson_X0_countChildren rfl rfl rfl (by decide +kernel) ⟨Nat.le_of_ble_eq_true rfl, Nat.le_of_ble_eq_true rfl⟩) BW.bl (va_recv hK hP (ci := 0) (q0 := 0) rfl rfl) (BW.at hP hK hE hS) rfl hl.1 rfl (Nat.le_of_ble_eq_true rfl) dX0_mixPerson_65 ⟨Nat.zero_le _, Nat.zero_le _⟩ ?_
    refine lv_i2l hx hb dX0_mixPerson_68 rfl ?_
    refine r_callRS (rest := []) Fx (m_X0_mix l (D := D) (ci := ci) (cz := cz) (cj := cj) (q := q) (F := F) (P := P) (g := g) hF hP12 (mx (mx (mx (mx y (0 : Int64)) ((g 4 k).toInt64)) ((g 5 k).toInt64)) ((sAll g F k).toInt64)) ((nI (sChi g P k)).toInt64) ) (va_cwS 2 Fx.2.2.2.2 gX0_mixPerson_X0_mix rfl rfl rfl (by decide +kernel) ⟨Nat.le_of_ble_eq_true rfl, Nat.le_of_ble_eq_true rfl⟩) BW.bl (BW.at hP hK hE hS) rfl hl.1 rfl (Nat.le_of_ble_eq_true rfl) dX0_mixPerson_69 ⟨Nat.zero_le _, Nat.zero_le _⟩ ?_
    refine lv_lstore (lv' := [(4, .long (mx (mx (mx (mx (mx y (0 : Int64)) ((g 4 k).toInt64)) ((g 5 k).toInt64)) ((sAll g F k).toInt64)) ((nI (sChi g P k)).toInt64))), (0, .ref (q 0)), (1, .long y), (3, .int (nI k))]) hx hb dX0_mixPerson_72 hl (by decide) rfl (fun ls hl => ?_)
    refine lv_lload hx hb dX0_mixPerson_74 (lv_at hl 0 rfl) ?_
    refine lv_aload_n hx hb dX0_mixPerson_76 rfl (lv_at hl 1 rfl) ?_
    refine lv_iload_n hx hb dX0_mixPerson_77 rfl (lv_at hl 3 rfl) ?_
    refine r_callR (rest := [.long (mx (mx (mx (mx (mx y (0 : Int64)) ((g 4 k).toInt64)) ((g 5 k).toInt64)) ((sAll g F k).toInt64)) ((nI (sChi g P k)).toInt64))]) Fx (m_X0_countHeirs l (D := D) (ci := ci) (cz := cz) (cj := cj) (q := q) (F := F) (P := P) (g := g) hF hP12 k (by omega)) (cwV 1 Fx.2.2.2.2 gX0_mixPerson_X0_countHeirs rfl rfl rfl (by decide +kernel) ⟨Nat.le_of_ble_eq_true rfl, Nat.le_of_ble_eq_true rfl⟩) BW.bl (va_recv hK hP (ci := 0) (q0 := 0) rfl rfl) (BW.at hP hK hE hS) rfl hl.1 rfl (Nat.le_of_ble_eq_true rfl) dX0_mixPerson_78 ⟨Nat.zero_le _, Nat.zero_le _⟩ ?_
    refine lv_i2l hx hb dX0_mixPerson_81 rfl ?_
    refine r_callRS (rest := []) Fx (m_X0_mix l (D := D) (ci := ci) (cz := cz) (cj := cj) (q := q) (F := F) (P := P) (g := g) hF hP12 (mx (mx (mx (mx (mx y (0 : Int64)) ((g 4 k).toInt64)) ((g 5 k).toInt64)) ((sAll g F k).toInt64)) ((nI (sChi g P k)).toInt64)) ((nI (sCHe g P k)).toInt64) ) (va_cwS 2 Fx.2.2.2.2 gX0_mixPerson_X0_mix rfl rfl rfl (by decide +kernel) ⟨Nat.le_of_ble_eq_true rfl, Nat.le_of_ble_eq_true rfl⟩) BW.bl (BW.at hP hK hE hS) rfl hl.1 rfl (Nat.le_of_ble_eq_true rfl) dX0_mixPerson_82 ⟨Nat.zero_le _, Nat.zero_le _⟩ ?_
    exact r_lret hx hb hr hlocks (by simp [sDP, h1]) dX0_mixPerson_85
  · refine lv_lconst (v := (1 : Int64)) hx hb dX0_mixPerson_10 (by decide) ?_
    refine lv_goto (tgt := 15) hx hb dX0_mixPerson_11 (by decide) ?_
    refine r_callRS (rest := []) Fx (m_X0_mix l (D := D) (ci := ci) (cz := cz) (cj := cj) (q := q) (F := F) (P := P) (g := g) hF hP12 y (1 : Int64) ) (va_cwS 2 Fx.2.2.2.2 gX0_mixPerson_X0_mix rfl rfl rfl (by decide +kernel) ⟨Nat.le_of_ble_eq_true rfl, Nat.le_of_ble_eq_true rfl⟩) BW.bl (BW.at hP hK hE hS) rfl hl.1 rfl (Nat.le_of_ble_eq_true rfl) dX0_mixPerson_15 ⟨Nat.zero_le _, Nat.zero_le _⟩ ?_
    refine lv_lstore (lv' := [(4, .long (mx y (1 : Int64))), (0, .ref (q 0)), (1, .long y), (3, .int (nI k))]) hx hb dX0_mixPerson_18 hl (by decide) rfl (fun ls hl => ?_)
    refine lv_lload hx hb dX0_mixPerson_20 (lv_at hl 0 rfl) ?_
    refine lv_aload_n hx hb dX0_mixPerson_22 rfl (lv_at hl 1 rfl) ?_
    refine r_get Fx hin hK hP 0 rfl 6 (by decide) (by decide +kernel) rfl rfl dX0_mixPerson_23 ?_
    refine lv_iload_n hx hb dX0_mixPerson_26 rfl (lv_at hl 3 rfl) ?_
    refine r_iald Fx hK hP 5 0 rfl rfl (i := k) (by omega) (by decide) dX0_mixPerson_27 ?_
    refine lv_i2l hx hb dX0_mixPerson_28 rfl ?_
    refine r_callRS (rest := []) Fx (m_X0_mix l (D := D) (ci := ci) (cz := cz) (cj := cj) (q := q) (F := F) (P := P) (g := g) hF hP12 (mx y (1 : Int64)) ((g 4 k).toInt64) ) (va_cwS 2 Fx.2.2.2.2 gX0_mixPerson_X0_mix rfl rfl rfl (by decide +kernel) ⟨Nat.le_of_ble_eq_true rfl, Nat.le_of_ble_eq_true rfl⟩) BW.bl (BW.at hP hK hE hS) rfl hl.1 rfl (Nat.le_of_ble_eq_true rfl) dX0_mixPerson_29 ⟨Nat.zero_le _, Nat.zero_le _⟩ ?_
    refine lv_lstore (lv' := [(4, .long (mx (mx y (1 : Int64)) ((g 4 k).toInt64))), (0, .ref (q 0)), (1, .long y), (3, .int (nI k))]) hx hb dX0_mixPerson_32 hl (by decide) rfl (fun ls hl => ?_)
    refine lv_lload hx hb dX0_mixPerson_34 (lv_at hl 0 rfl) ?_
    refine lv_aload_n hx hb dX0_mixPerson_36 rfl (lv_at hl 1 rfl) ?_
    refine r_get Fx hin hK hP 0 rfl 7 (by decide) (by decide +kernel) rfl rfl dX0_mixPerson_37 ?_
    refine lv_iload_n hx hb dX0_mixPerson_40 rfl (lv_at hl 3 rfl) ?_
    refine r_iald Fx hK hP 6 0 rfl rfl (i := k) (by omega) (by decide) dX0_mixPerson_41 ?_
    refine lv_i2l hx hb dX0_mixPerson_42 rfl ?_
    refine r_callRS (rest := []) Fx (m_X0_mix l (D := D) (ci := ci) (cz := cz) (cj := cj) (q := q) (F := F) (P := P) (g := g) hF hP12 (mx (mx y (1 : Int64)) ((g 4 k).toInt64)) ((g 5 k).toInt64) ) (va_cwS 2 Fx.2.2.2.2 gX0_mixPerson_X0_mix rfl rfl rfl (by decide +kernel) ⟨Nat.le_of_ble_eq_true rfl, Nat.le_of_ble_eq_true rfl⟩) BW.bl (BW.at hP hK hE hS) rfl hl.1 rfl (Nat.le_of_ble_eq_true rfl) dX0_mixPerson_43 ⟨Nat.zero_le _, Nat.zero_le _⟩ ?_
    refine lv_lstore (lv' := [(4, .long (mx (mx (mx y (1 : Int64)) ((g 4 k).toInt64)) ((g 5 k).toInt64))), (0, .ref (q 0)), (1, .long y), (3, .int (nI k))]) hx hb dX0_mixPerson_46 hl (by decide) rfl (fun ls hl => ?_)
    refine lv_lload hx hb dX0_mixPerson_48 (lv_at hl 0 rfl) ?_
    refine lv_aload_n hx hb dX0_mixPerson_50 rfl (lv_at hl 1 rfl) ?_
    refine lv_iload_n hx hb dX0_mixPerson_51 rfl (lv_at hl 3 rfl) ?_
    refine r_callR (rest := [.long (mx (mx (mx y (1 : Int64)) ((g 4 k).toInt64)) ((g 5 k).toInt64))]) Fx (m_X0_countAllShares l (D := D) (ci := ci) (cz := cz) (cj := cj) (q := q) (F := F) (P := P) (g := g) hF hP12 k (by omega)) (cwV 1 Fx.2.2.2.2 gX0_mixPerson_X0_countAllShares rfl rfl rfl (by decide +kernel) ⟨Nat.le_of_ble_eq_true rfl, Nat.le_of_ble_eq_true rfl⟩) BW.bl (va_recv hK hP (ci := 0) (q0 := 0) rfl rfl) (BW.at hP hK hE hS) rfl hl.1 rfl (Nat.le_of_ble_eq_true rfl) dX0_mixPerson_52 ⟨Nat.zero_le _, Nat.zero_le _⟩ ?_
    refine lv_i2l hx hb dX0_mixPerson_55 rfl ?_
    refine r_callRS (rest := []) Fx (m_X0_mix l (D := D) (ci := ci) (cz := cz) (cj := cj) (q := q) (F := F) (P := P) (g := g) hF hP12 (mx (mx (mx y (1 : Int64)) ((g 4 k).toInt64)) ((g 5 k).toInt64)) ((sAll g F k).toInt64) ) (va_cwS 2 Fx.2.2.2.2 gX0_mixPerson_X0_mix rfl rfl rfl (by decide +kernel) ⟨Nat.le_of_ble_eq_true rfl, Nat.le_of_ble_eq_true rfl⟩) BW.bl (BW.at hP hK hE hS) rfl hl.1 rfl (Nat.le_of_ble_eq_true rfl) dX0_mixPerson_56 ⟨Nat.zero_le _, Nat.zero_le _⟩ ?_
    refine lv_lstore (lv' := [(4, .long (mx (mx (mx (mx y (1 : Int64)) ((g 4 k).toInt64)) ((g 5 k).toInt64)) ((sAll g F k).toInt64))), (0, .ref (q 0)), (1, .long y), (3, .int (nI k))]) hx hb dX0_mixPerson_59 hl (by decide) rfl (fun ls hl => ?_)
    refine lv_lload hx hb dX0_mixPerson_61 (lv_at hl 0 rfl) ?_
    refine lv_aload_n hx hb dX0_mixPerson_63 rfl (lv_at hl 1 rfl) ?_
    refine lv_iload_n hx hb dX0_mixPerson_64 rfl (lv_at hl 3 rfl) ?_
    refine r_callR (rest := [.long (mx (mx (mx (mx y (1 : Int64)) ((g 4 k).toInt64)) ((g 5 k).toInt64)) ((sAll g F k).toInt64))]) Fx (m_X0_countChildren l (D := D) (ci := ci) (cz := cz) (cj := cj) (q := q) (F := F) (P := P) (g := g) hF hP12 k ) (cwV 1 Fx.2.2.2.2 gX0_mixPerson_X0_countChildren rfl rfl rfl (by decide +kernel) ⟨Nat.le_of_ble_eq_true rfl, Nat.le_of_ble_eq_true rfl⟩) BW.bl (va_recv hK hP (ci := 0) (q0 := 0) rfl rfl) (BW.at hP hK hE hS) rfl hl.1 rfl (Nat.le_of_ble_eq_true rfl) dX0_mixPerson_65 ⟨Nat.zero_le _, Nat.zero_le _⟩ ?_
    refine lv_i2l hx hb dX0_mixPerson_68 rfl ?_
    refine r_callRS (rest := []) Fx (m_X0_mix l (D := D) (ci := ci) (cz := cz) (cj := cj) (q := q) (F := F) (P := P) (g := g) hF hP12 (mx (mx (mx (mx y (1 : Int64)) ((g 4 k).toInt64)) ((g 5 k).toInt64)) ((sAll g F k).toInt64)) ((nI (sChi g P k)).toInt64) ) (va_cwS 2 Fx.2.2.2.2 gX0_mixPerson_X0_mix rfl rfl rfl (by decide +kernel) ⟨Nat.le_of_ble_eq_true rfl, Nat.le_of_ble_eq_true rfl⟩) BW.bl (BW.at hP hK hE hS) rfl hl.1 rfl (Nat.le_of_ble_eq_true rfl) dX0_mixPerson_69 ⟨Nat.zero_le _, Nat.zero_le _⟩ ?_
    refine lv_lstore (lv' := [(4, .long (mx (mx (mx (mx (mx y (1 : Int64)) ((g 4 k).toInt64)) ((g 5 k).toInt64)) ((sAll g F k).toInt64)) ((nI (sChi g P k)).toInt64))), (0, .ref (q 0)), (1, .long y), (3, .int (nI k))]) hx hb dX0_mixPerson_72 hl (by decide) rfl (fun ls hl => ?_)
    refine lv_lload hx hb dX0_mixPerson_74 (lv_at hl 0 rfl) ?_
    refine lv_aload_n hx hb dX0_mixPerson_76 rfl (lv_at hl 1 rfl) ?_
    refine lv_iload_n hx hb dX0_mixPerson_77 rfl (lv_at hl 3 rfl) ?_
    refine r_callR (rest := [.long (mx (mx (mx (mx (mx y (1 : Int64)) ((g 4 k).toInt64)) ((g 5 k).toInt64)) ((sAll g F k).toInt64)) ((nI (sChi g P k)).toInt64))]) Fx (m_X0_countHeirs l (D := D) (ci := ci) (cz := cz) (cj := cj) (q := q) (F := F) (P := P) (g := g) hF hP12 k (by omega)) (cwV 1 Fx.2.2.2.2 gX0_mixPerson_X0_countHeirs rfl rfl rfl (by decide +kernel) ⟨Nat.le_of_ble_eq_true rfl, Nat.le_of_ble_eq_true rfl⟩) BW.bl (va_recv hK hP (ci := 0) (q0 := 0) rfl rfl) (BW.at hP hK hE hS) rfl hl.1 rfl (Nat.le_of_ble_eq_true rfl) dX0_mixPerson_78 ⟨Nat.zero_le _, Nat.zero_le _⟩ ?_
    refine lv_i2l hx hb dX0_mixPerson_81 rfl ?_
    refine r_callRS (rest := []) Fx (m_X0_mix l (D := D) (ci := ci) (cz := cz) (cj := cj) (q := q) (F := F) (P := P) (g := g) hF hP12 (mx (mx (mx (mx (mx y (1 : Int64)) ((g 4 k).toInt64)) ((g 5 k).toInt64)) ((sAll g F k).toInt64)) ((nI (sChi g P k)).toInt64)) ((nI (sCHe g P k)).toInt64) ) (va_cwS 2 Fx.2.2.2.2 gX0_mixPerson_X0_mix rfl rfl rfl (by decide +kernel) ⟨Nat.le_of_ble_eq_true rfl, Nat.le_of_ble_eq_true rfl⟩) BW.bl (BW.at hP hK hE hS) rfl hl.1 rfl (Nat.le_of_ble_eq_true rfl) dX0_mixPerson_82 ⟨Nat.zero_le _, Nat.zero_le _⟩ ?_
    exact r_lret hx hb hr hlocks (by simp [sDP, h1]) dX0_mixPerson_85
set_option maxHeartbeats 4000000 in
set_option maxRecDepth 100000 in
theorem m_X0_digest (l : Launch) {D : va_G} {ci cz : ClassId} {cj : ClassId × ClassId} {q : Nat → Nat} {F P : Nat} {g : Nat → Nat → Int32} (hF : F ≤ 6) (hP12 : P ≤ 12) : Met l yX0_digest wsX0_digest ({ frames := 5, cells := 0, slots := 0, locals := 117 } : Room) (va_Pc [.ref (q 0)] (B0 D ci cz cj q F P g)) (RQ (some (.long (sDig g F P)))) 0 0 none_ := by
  refine Met.ofR (cc := cX0_digest) (maxL := 4) (ret := (some .long)) (by decide) rfl (Nat.le_of_ble_eq_true rfl) ?_
  intro pg en s m bl mt cd ls Fx hr hlocks hB hl
  obtain ⟨hP, hK, hE⟩ := hB
  have hl : lv_has ls 4 [(0, .ref (q 0))] := hl
  have Fx : CallFix pg m cd cX0_digest 4 s _ wsX0_digest RX0 := Fx
  have hx := Fx.1
  have hb := Fx.2.1
  have hin : ∀ w ∈ wsX00, w ∈ wsX0_digest := by decide +kernel
  have hS : va_S (aw q 8) s.heap s.heap [] := va_S.rf
  have hP : va_P D vwCl (w0 ci cz q F P g) s.heap := hP
  refine lv_ldc2 hx hb Fx.2.2.2.1 (Fx.2.2.2.2 (.constantLong RX0 173 (1861)) (by decide +kernel)) dX0_digest_0 ?_
  refine lv_lstore_n (lv' := [(1, .long (1861 : Int64)), (0, .ref (q 0))]) hx hb dX0_digest_3 rfl hl (by decide) rfl (fun ls hl => ?_)
  refine lv_lload_n hx hb dX0_digest_4 rfl (lv_at hl 0 rfl) ?_
  refine lv_aload_n hx hb dX0_digest_5 rfl (lv_at hl 1 rfl) ?_
  refine r_get Fx hin hK hP 0 rfl 0 (by decide) (by decide +kernel) rfl rfl dX0_digest_6 ?_
  refine lv_i2l hx hb dX0_digest_9 rfl ?_
  refine r_callRS (rest := []) Fx (m_X0_mix l (D := D) (ci := ci) (cz := cz) (cj := cj) (q := q) (F := F) (P := P) (g := g) hF hP12 (1861 : Int64) ((nI F).toInt64) ) (va_cwS 2 Fx.2.2.2.2 gX0_digest_X0_mix rfl rfl rfl (by decide +kernel) ⟨Nat.le_of_ble_eq_true rfl, Nat.le_of_ble_eq_true rfl⟩) BW.bl (BW.at hP hK hE hS) rfl hl.1 rfl (Nat.le_of_ble_eq_true rfl) dX0_digest_10 ⟨Nat.zero_le _, Nat.zero_le _⟩ ?_
  refine lv_lstore_n (lv' := [(1, .long (mx (1861 : Int64) ((nI F).toInt64))), (0, .ref (q 0))]) hx hb dX0_digest_13 rfl hl (by decide) rfl (fun ls hl => ?_)
  refine lv_lload_n hx hb dX0_digest_14 rfl (lv_at hl 0 rfl) ?_
  refine lv_aload_n hx hb dX0_digest_15 rfl (lv_at hl 1 rfl) ?_
  refine r_get Fx hin hK hP 0 rfl 4 (by decide) (by decide +kernel) rfl rfl dX0_digest_16 ?_
  refine lv_i2l hx hb dX0_digest_19 rfl ?_
  refine r_callRS (rest := []) Fx (m_X0_mix l (D := D) (ci := ci) (cz := cz) (cj := cj) (q := q) (F := F) (P := P) (g := g) hF hP12 (mx (1861 : Int64) ((nI F).toInt64)) ((nI P).toInt64) ) (va_cwS 2 Fx.2.2.2.2 gX0_digest_X0_mix rfl rfl rfl (by decide +kernel) ⟨Nat.le_of_ble_eq_true rfl, Nat.le_of_ble_eq_true rfl⟩) BW.bl (BW.at hP hK hE hS) rfl hl.1 rfl (Nat.le_of_ble_eq_true rfl) dX0_digest_20 ⟨Nat.zero_le _, Nat.zero_le _⟩ ?_
  refine lv_lstore_n (lv' := [(1, .long (mx (mx (1861 : Int64) ((nI F).toInt64)) ((nI P).toInt64))), (0, .ref (q 0))]) hx hb dX0_digest_23 rfl hl (by decide) rfl (fun ls hl => ?_)
  refine lv_lload_n hx hb dX0_digest_24 rfl (lv_at hl 0 rfl) ?_
  refine lv_aload_n hx hb dX0_digest_25 rfl (lv_at hl 1 rfl) ?_
  refine r_callR (rest := [.long (mx (mx (1861 : Int64) ((nI F).toInt64)) ((nI P).toInt64))]) Fx (m_X0_living l (D := D) (ci := ci) (cz := cz) (cj := cj) (q := q) (F := F) (P := P) (g := g) hF hP12  ) (cwV 0 Fx.2.2.2.2 gX0_digest_X0_living rfl rfl rfl (by decide +kernel) ⟨Nat.le_of_ble_eq_true rfl, Nat.le_of_ble_eq_true rfl⟩) BW.bl (va_recv hK hP (ci := 0) (q0 := 0) rfl rfl) (BW.at hP hK hE hS) rfl hl.1 rfl (Nat.le_of_ble_eq_true rfl) dX0_digest_26 ⟨Nat.zero_le _, Nat.zero_le _⟩ ?_
  refine lv_i2l hx hb dX0_digest_29 rfl ?_
  refine r_callRS (rest := []) Fx (m_X0_mix l (D := D) (ci := ci) (cz := cz) (cj := cj) (q := q) (F := F) (P := P) (g := g) hF hP12 (mx (mx (1861 : Int64) ((nI F).toInt64)) ((nI P).toInt64)) ((nI (sLiv g P)).toInt64) ) (va_cwS 2 Fx.2.2.2.2 gX0_digest_X0_mix rfl rfl rfl (by decide +kernel) ⟨Nat.le_of_ble_eq_true rfl, Nat.le_of_ble_eq_true rfl⟩) BW.bl (BW.at hP hK hE hS) rfl hl.1 rfl (Nat.le_of_ble_eq_true rfl) dX0_digest_30 ⟨Nat.zero_le _, Nat.zero_le _⟩ ?_
  refine lv_lstore_n (lv' := [(1, .long (mx (mx (mx (1861 : Int64) ((nI F).toInt64)) ((nI P).toInt64)) ((nI (sLiv g P)).toInt64))), (0, .ref (q 0))]) hx hb dX0_digest_33 rfl hl (by decide) rfl (fun ls hl => ?_)
  refine lv_lload_n hx hb dX0_digest_34 rfl (lv_at hl 0 rfl) ?_
  refine lv_aload_n hx hb dX0_digest_35 rfl (lv_at hl 1 rfl) ?_
  refine r_get Fx hin hK hP 0 rfl 9 (by decide) (by decide +kernel) rfl rfl dX0_digest_36 ?_
  refine lv_i2l hx hb dX0_digest_39 rfl ?_
  refine r_callRS (rest := []) Fx (m_X0_mix l (D := D) (ci := ci) (cz := cz) (cj := cj) (q := q) (F := F) (P := P) (g := g) hF hP12 (mx (mx (mx (1861 : Int64) ((nI F).toInt64)) ((nI P).toInt64)) ((nI (sLiv g P)).toInt64)) ((g 7 0).toInt64) ) (va_cwS 2 Fx.2.2.2.2 gX0_digest_X0_mix rfl rfl rfl (by decide +kernel) ⟨Nat.le_of_ble_eq_true rfl, Nat.le_of_ble_eq_true rfl⟩) BW.bl (BW.at hP hK hE hS) rfl hl.1 rfl (Nat.le_of_ble_eq_true rfl) dX0_digest_40 ⟨Nat.zero_le _, Nat.zero_le _⟩ ?_
  refine lv_lstore_n (lv' := [(1, .long (mx (mx (mx (mx (1861 : Int64) ((nI F).toInt64)) ((nI P).toInt64)) ((nI (sLiv g P)).toInt64)) ((g 7 0).toInt64))), (0, .ref (q 0))]) hx hb dX0_digest_43 rfl hl (by decide) rfl (fun ls hl => ?_)
  refine lv_iconst (v := nI 0) hx hb dX0_digest_44 (by decide) ?_
  refine lv_istore_n (lv' := [(3, .int (nI 0)), (1, .long (mx (mx (mx (mx (1861 : Int64) ((nI F).toInt64)) ((nI P).toInt64)) ((nI (sLiv g P)).toInt64)) ((g 7 0).toInt64))), (0, .ref (q 0))]) hx hb dX0_digest_45 rfl hl (by decide) rfl (fun ls hl => ?_)
  refine rloop (nL := 4) (N := F) (fun _ => True) (fun i => [(0, .ref (q 0)), (1, .long (fo (fun d f => sDF g P d f) (sDig0 g F P) i)), (3, .int (nI i))]) (trivial) (lv_sub hl [2, 1, 0] rfl) ?_ ?_
  · intro h1 ls hl
    have hl : lv_has ls 4 [(0, .ref (q 0)), (1, .long (fo (fun d f => sDF g P d f) (sDig0 g F P) F)), (3, .int (nI F))] := hl
    refine lv_iload_n hx hb dX0_digest_46 rfl (lv_at hl 2 rfl) ?_
    refine lv_aload_n hx hb dX0_digest_47 rfl (lv_at hl 0 rfl) ?_
    refine r_get Fx hin hK hP 0 rfl 0 (by decide) (by decide +kernel) rfl rfl dX0_digest_48 ?_
    refine n_icmp_ge (tgt := 67) hx hb (by omega) (by omega) dX0_digest_51 (by decide) (fun h2 => ?_) (fun h2 => by omega)
    refine lv_iconst (v := nI 0) hx hb dX0_digest_67 (by decide) ?_
    refine lv_istore_n (lv' := [(3, .int (nI 0)), (0, .ref (q 0)), (1, .long (fo (fun d f => sDF g P d f) (sDig0 g F P) F))]) hx hb dX0_digest_68 rfl hl (by decide) rfl (fun ls hl => ?_)
    refine rloop (nL := 4) (N := P) (fun _ => True) (fun i' => [(0, .ref (q 0)), (1, .long (fo (fun d k => sDP g F P d k) (fo (fun d f => sDF g P d f) (sDig0 g F P) F) i')), (3, .int (nI i'))]) (trivial) (lv_sub hl [1, 2, 0] rfl) ?_ ?_
    · intro h3 ls hl
      have hl : lv_has ls 4 [(0, .ref (q 0)), (1, .long (fo (fun d k => sDP g F P d k) (fo (fun d f => sDF g P d f) (sDig0 g F P) F) P)), (3, .int (nI P))] := hl
      refine lv_iload_n hx hb dX0_digest_69 rfl (lv_at hl 2 rfl) ?_
      refine lv_aload_n hx hb dX0_digest_70 rfl (lv_at hl 0 rfl) ?_
      refine r_get Fx hin hK hP 0 rfl 4 (by decide) (by decide +kernel) rfl rfl dX0_digest_71 ?_
      refine n_icmp_ge (tgt := 90) hx hb (by omega) (by omega) dX0_digest_74 (by decide) (fun h4 => ?_) (fun h4 => by omega)
      refine lv_lload_n hx hb dX0_digest_90 rfl (lv_at hl 1 rfl) ?_
      exact r_lret hx hb hr hlocks (rfl) dX0_digest_91
    · intro i' h6 h5 ih69 ls hl
      have hl : lv_has ls 4 [(0, .ref (q 0)), (1, .long (fo (fun d k => sDP g F P d k) (fo (fun d f => sDF g P d f) (sDig0 g F P) F) i')), (3, .int (nI i'))] := hl
      refine lv_iload_n hx hb dX0_digest_69 rfl (lv_at hl 2 rfl) ?_
      refine lv_aload_n hx hb dX0_digest_70 rfl (lv_at hl 0 rfl) ?_
      refine r_get Fx hin hK hP 0 rfl 4 (by decide) (by decide +kernel) rfl rfl dX0_digest_71 ?_
      refine n_icmp_ge (tgt := 90) hx hb (by omega) (by omega) dX0_digest_74 (by decide) (fun h7 => by omega) (fun h7 => ?_)
      refine lv_aload_n hx hb dX0_digest_77 rfl (lv_at hl 0 rfl) ?_
      refine lv_lload_n hx hb dX0_digest_78 rfl (lv_at hl 1 rfl) ?_
      refine lv_iload_n hx hb dX0_digest_79 rfl (lv_at hl 2 rfl) ?_
      refine r_callR (rest := []) Fx (m_X0_mixPerson l (D := D) (ci := ci) (cz := cz) (cj := cj) (q := q) (F := F) (P := P) (g := g) hF hP12 (fo (fun d k => sDP g F P d k) (fo (fun d f => sDF g P d f) (sDig0 g F P) F) i') i' (by omega)) (cwV 2 Fx.2.2.2.2 gX0_digest_X0_mixPerson rfl rfl rfl (by decide +kernel) ⟨Nat.le_of_ble_eq_true rfl, Nat.le_of_ble_eq_true rfl⟩) BW.bl (va_recv hK hP (ci := 0) (q0 := 0) rfl rfl) (BW.at hP hK hE hS) rfl hl.1 rfl (Nat.le_of_ble_eq_true rfl) dX0_digest_80 ⟨Nat.zero_le _, Nat.zero_le _⟩ ?_
      refine lv_lstore_n (lv' := [(1, .long (sDP g F P (fo (fun d k => sDP g F P d k) (fo (fun d f => sDF g P d f) (sDig0 g F P) F) i') i')), (0, .ref (q 0)), (3, .int (nI i'))]) hx hb dX0_digest_83 rfl hl (by decide) rfl (fun ls hl => ?_)
      refine lv_iinc (v := nI (i' + 1)) (lv' := [(3, .int (nI (i' + 1))), (1, .long (sDP g F P (fo (fun d k => sDP g F P d k) (fo (fun d f => sDF g P d f) (sDig0 g F P) F) i') i')), (0, .ref (q 0))]) hx hb dX0_digest_84 hl (k := 2) rfl (nI_inc _ 1) (by decide) rfl (fun ls hl => ?_)
      refine lv_goto (tgt := 69) hx hb dX0_digest_87 (by decide) ?_
      exact ih69 (trivial) _ (lv_sub hl [2, 1, 0] rfl)
  · intro i h9 h8 ih46 ls hl
    have hl : lv_has ls 4 [(0, .ref (q 0)), (1, .long (fo (fun d f => sDF g P d f) (sDig0 g F P) i)), (3, .int (nI i))] := hl
    refine lv_iload_n hx hb dX0_digest_46 rfl (lv_at hl 2 rfl) ?_
    refine lv_aload_n hx hb dX0_digest_47 rfl (lv_at hl 0 rfl) ?_
    refine r_get Fx hin hK hP 0 rfl 0 (by decide) (by decide +kernel) rfl rfl dX0_digest_48 ?_
    refine n_icmp_ge (tgt := 67) hx hb (by omega) (by omega) dX0_digest_51 (by decide) (fun h10 => by omega) (fun h10 => ?_)
    refine lv_aload_n hx hb dX0_digest_54 rfl (lv_at hl 0 rfl) ?_
    refine lv_lload_n hx hb dX0_digest_55 rfl (lv_at hl 1 rfl) ?_
    refine lv_iload_n hx hb dX0_digest_56 rfl (lv_at hl 2 rfl) ?_
    refine r_callR (rest := []) Fx (m_X0_mixFerry l (D := D) (ci := ci) (cz := cz) (cj := cj) (q := q) (F := F) (P := P) (g := g) hF hP12 (fo (fun d f => sDF g P d f) (sDig0 g F P) i) i (by omega)) (cwV 2 Fx.2.2.2.2 gX0_digest_X0_mixFerry rfl rfl rfl (by decide +kernel) ⟨Nat.le_of_ble_eq_true rfl, Nat.le_of_ble_eq_true rfl⟩) BW.bl (va_recv hK hP (ci := 0) (q0 := 0) rfl rfl) (BW.at hP hK hE hS) rfl hl.1 rfl (Nat.le_of_ble_eq_true rfl) dX0_digest_57 ⟨Nat.zero_le _, Nat.zero_le _⟩ ?_
    refine lv_lstore_n (lv' := [(1, .long (sDF g P (fo (fun d f => sDF g P d f) (sDig0 g F P) i) i)), (0, .ref (q 0)), (3, .int (nI i))]) hx hb dX0_digest_60 rfl hl (by decide) rfl (fun ls hl => ?_)
    refine lv_iinc (v := nI (i + 1)) (lv' := [(3, .int (nI (i + 1))), (1, .long (sDF g P (fo (fun d f => sDF g P d f) (sDig0 g F P) i) i)), (0, .ref (q 0))]) hx hb dX0_digest_61 hl (k := 2) rfl (nI_inc _ 1) (by decide) rfl (fun ls hl => ?_)
    refine lv_goto (tgt := 46) hx hb dX0_digest_64 (by decide) ?_
    exact ih46 (trivial) _ (lv_sub hl [2, 1, 0] rfl)
end
section
/-! FerryRights, III: the face, what is asked -/
set_option maxHeartbeats 4000000 in
set_option maxRecDepth 100000 in
theorem m_X0_ferries (l : Launch) {D : va_G} {ci cz : ClassId} {cj : ClassId × ClassId} {q : Nat → Nat} {F P : Nat} {g : Nat → Nat → Int32} (hF : F ≤ 6) (hP12 : P ≤ 12) : Met l yX0_ferries wsX0_ferries ({ frames := 0, cells := 0, slots := 0, locals := 0 } : Room) (va_Pc [.ref (q 0)] (B0 D ci cz cj q F P g)) (RQ (some (.int (nI F)))) 0 0 none_ := by
  refine Met.ofR (cc := cX0_ferries) (maxL := 1) (ret := (some .int)) (by decide) rfl (Nat.le_of_ble_eq_true rfl) ?_
  intro pg en s m bl mt cd ls Fx hr hlocks hB hl
  obtain ⟨hP, hK, hE⟩ := hB
  have hl : lv_has ls 1 [(0, .ref (q 0))] := hl
  have Fx : CallFix pg m cd cX0_ferries 1 s _ wsX0_ferries RX0 := Fx
  have hx := Fx.1
  have hb := Fx.2.1
  have hin : ∀ w ∈ wsX00, w ∈ wsX0_ferries := by decide +kernel
  have hS : va_S (aw q 8) s.heap s.heap [] := va_S.rf
  have hP : va_P D vwCl (w0 ci cz q F P g) s.heap := hP
  refine lv_aload_n hx hb dX0_ferries_0 rfl (lv_at hl 0 rfl) ?_
  refine r_get Fx hin hK hP 0 rfl 0 (by decide) (by decide +kernel) rfl rfl dX0_ferries_1 ?_
  exact r_iret hx hb hr hlocks (rfl) dX0_ferries_4
set_option maxHeartbeats 4000000 in
set_option maxRecDepth 100000 in
theorem m_X0_people (l : Launch) {D : va_G} {ci cz : ClassId} {cj : ClassId × ClassId} {q : Nat → Nat} {F P : Nat} {g : Nat → Nat → Int32} (hF : F ≤ 6) (hP12 : P ≤ 12) : Met l yX0_people wsX0_people ({ frames := 0, cells := 0, slots := 0, locals := 0 } : Room) (va_Pc [.ref (q 0)] (B0 D ci cz cj q F P g)) (RQ (some (.int (nI P)))) 0 0 none_ := by
  refine Met.ofR (cc := cX0_people) (maxL := 1) (ret := (some .int)) (by decide) rfl (Nat.le_of_ble_eq_true rfl) ?_
  intro pg en s m bl mt cd ls Fx hr hlocks hB hl
  obtain ⟨hP, hK, hE⟩ := hB
  have hl : lv_has ls 1 [(0, .ref (q 0))] := hl
  have Fx : CallFix pg m cd cX0_people 1 s _ wsX0_people RX0 := Fx
  have hx := Fx.1
  have hb := Fx.2.1
  have hin : ∀ w ∈ wsX00, w ∈ wsX0_people := by decide +kernel
  have hS : va_S (aw q 8) s.heap s.heap [] := va_S.rf
  have hP : va_P D vwCl (w0 ci cz q F P g) s.heap := hP
  refine lv_aload_n hx hb dX0_people_0 rfl (lv_at hl 0 rfl) ?_
  refine r_get Fx hin hK hP 0 rfl 4 (by decide) (by decide +kernel) rfl rfl dX0_people_1 ?_
  exact r_iret hx hb hr hlocks (rfl) dX0_people_4
set_option maxHeartbeats 4000000 in
set_option maxRecDepth 100000 in
theorem m_X0_crownCoins (l : Launch) {D : va_G} {ci cz : ClassId} {cj : ClassId × ClassId} {q : Nat → Nat} {F P : Nat} {g : Nat → Nat → Int32} (hF : F ≤ 6) (hP12 : P ≤ 12) : Met l yX0_crownCoins wsX0_crownCoins ({ frames := 0, cells := 0, slots := 0, locals := 0 } : Room) (va_Pc [.ref (q 0)] (B0 D ci cz cj q F P g)) (RQ (some (.int (g 7 0)))) 0 0 none_ := by
  refine Met.ofR (cc := cX0_crownCoins) (maxL := 1) (ret := (some .int)) (by decide) rfl (Nat.le_of_ble_eq_true rfl) ?_
  intro pg en s m bl mt cd ls Fx hr hlocks hB hl
  obtain ⟨hP, hK, hE⟩ := hB
  have hl : lv_has ls 1 [(0, .ref (q 0))] := hl
  have Fx : CallFix pg m cd cX0_crownCoins 1 s _ wsX0_crownCoins RX0 := Fx
  have hx := Fx.1
  have hb := Fx.2.1
  have hin : ∀ w ∈ wsX00, w ∈ wsX0_crownCoins := by decide +kernel
  have hS : va_S (aw q 8) s.heap s.heap [] := va_S.rf
  have hP : va_P D vwCl (w0 ci cz q F P g) s.heap := hP
  refine lv_aload_n hx hb dX0_crownCoins_0 rfl (lv_at hl 0 rfl) ?_
  refine r_get Fx hin hK hP 0 rfl 9 (by decide) (by decide +kernel) rfl rfl dX0_crownCoins_1 ?_
  exact r_iret hx hb hr hlocks (rfl) dX0_crownCoins_4
set_option maxHeartbeats 4000000 in
set_option maxRecDepth 100000 in
theorem m_X0_toll (l : Launch) (hl0 : l.stackTraces = false) {D : va_G} {ci cz : ClassId} {cj : ClassId × ClassId} {q : Nat → Nat} {F P : Nat} {g : Nat → Nat → Int32} (hq : DQ q 8) (hF : F ≤ 6) (hP12 : P ≤ 12) (a : Int32) : vx_Met l yX0_toll wsX0_toll ({ frames := 7, cells := 1, slots := 6, locals := 103 } : Room) (va_Pc [.ref (q 0), .int a] (B0 D ci cz cj q F P g)) (PQ (k_1 F a) (some (.int (g 0 (ix a)))) (fun H => va_P D vwCl (w0 ci cz q F P g) H) (aw q 8)) (PX (k_1 F a) [xIO]) 1 6 (aw q 8) := by
  refine vx_ofX (cc := cX0_toll) (maxL := 2) (ret := (some .int)) (by decide) rfl (Nat.le_of_ble_eq_true rfl) ?_
  intro pg en s m bl mt cd ls Fx hr hlocks hex hB hl
  obtain ⟨hP, hK, hE⟩ := hB
  have hl : lv_has ls 2 [(0, .ref (q 0)), (1, .int a)] := hl
  have Fx : CallFix pg m cd cX0_toll 2 s _ wsX0_toll RX0 := Fx
  have hx := Fx.1
  have hb := Fx.2.1
  have hin : ∀ w ∈ wsX00, w ∈ wsX0_toll := by decide +kernel
  have hS : va_S (aw q 8) s.heap s.heap [] := va_S.rf
  have hP : va_P D vwCl (w0 ci cz q F P g) s.heap := hP
  refine lv_aload_n hx hb dX0_toll_0 rfl (lv_at hl 0 rfl) ?_
  refine lv_iload_n hx hb dX0_toll_1 rfl (lv_at hl 1 rfl) ?_
  by_cases h1 : inR a F
  rotate_left
  · refine r_callX (rest := []) Fx (m_X0_needFerry_x l hl0 (D := D) (ci := ci) (cz := cz) (cj := cj) (q := q) (F := F) (P := P) (g := g) hF hP12 a h1) (cwV 1 Fx.2.2.2.2 gX0_toll_X0_needFerry rfl rfl rfl (by decide +kernel) ⟨Nat.le_of_ble_eq_true rfl, Nat.le_of_ble_eq_true rfl⟩) BW.bl (va_recv hK hP (ci := 0) (q0 := 0) rfl rfl) (BW.at hP hK hE hS) rfl hl.1 rfl (Nat.le_of_ble_eq_true rfl) dX0_toll_2 ⟨Nat.le_of_ble_eq_true rfl, Nat.le_of_ble_eq_true rfl⟩ (fun ce q9 H1 hh hce hcv hcl => ?_)
    exact p_out hex hlocks hh hce hcv hcl ⟨0, (by simp [k_1, inR, inB, h1]), rfl⟩ (Nat.le_refl _) (Nat.le_refl _)
  obtain ⟨ja, h2, rfl⟩ := inR_of h1 (by omega)
  have h3 : ix (nI ja) = ja := ix_nI (by omega)
  refine r_callR (rest := []) Fx (m_X0_needFerry l (D := D) (ci := ci) (cz := cz) (cj := cj) (q := q) (F := F) (P := P) (g := g) hF hP12 ja (by omega)) (cwV 1 Fx.2.2.2.2 gX0_toll_X0_needFerry rfl rfl rfl (by decide +kernel) ⟨Nat.le_of_ble_eq_true rfl, Nat.le_of_ble_eq_true rfl⟩) BW.bl (va_recv hK hP (ci := 0) (q0 := 0) rfl rfl) (BW.at hP hK hE hS) rfl hl.1 rfl (Nat.le_of_ble_eq_true rfl) dX0_toll_2 ⟨Nat.zero_le _, Nat.zero_le _⟩ ?_
  refine lv_aload_n hx hb dX0_toll_5 rfl (lv_at hl 0 rfl) ?_
  refine r_get Fx hin hK hP 0 rfl 1 (by decide) (by decide +kernel) rfl rfl dX0_toll_6 ?_
  refine lv_iload_n hx hb dX0_toll_9 rfl (lv_at hl 1 rfl) ?_
  refine r_iald Fx hK hP 1 0 rfl rfl (i := ja) (by omega) (by decide) dX0_toll_10 ?_
  exact p_iret hx hb hr hlocks hS (hP) (by simp [k_1, inR, inB, h1, h2, h3]) (by simp [k_1, h1, h2, h3]) (Nat.zero_le _) (Nat.zero_le _) dX0_toll_11
set_option maxHeartbeats 4000000 in
set_option maxRecDepth 100000 in
theorem m_X0_carried (l : Launch) (hl0 : l.stackTraces = false) {D : va_G} {ci cz : ClassId} {cj : ClassId × ClassId} {q : Nat → Nat} {F P : Nat} {g : Nat → Nat → Int32} (hq : DQ q 8) (hF : F ≤ 6) (hP12 : P ≤ 12) (a : Int32) : vx_Met l yX0_carried wsX0_carried ({ frames := 7, cells := 1, slots := 6, locals := 103 } : Room) (va_Pc [.ref (q 0), .int a] (B0 D ci cz cj q F P g)) (PQ (k_1 F a) (some (.int (g 1 (ix a)))) (fun H => va_P D vwCl (w0 ci cz q F P g) H) (aw q 8)) (PX (k_1 F a) [xIO]) 1 6 (aw q 8) := by
  refine vx_ofX (cc := cX0_carried) (maxL := 2) (ret := (some .int)) (by decide) rfl (Nat.le_of_ble_eq_true rfl) ?_
  intro pg en s m bl mt cd ls Fx hr hlocks hex hB hl
  obtain ⟨hP, hK, hE⟩ := hB
  have hl : lv_has ls 2 [(0, .ref (q 0)), (1, .int a)] := hl
  have Fx : CallFix pg m cd cX0_carried 2 s _ wsX0_carried RX0 := Fx
  have hx := Fx.1
  have hb := Fx.2.1
  have hin : ∀ w ∈ wsX00, w ∈ wsX0_carried := by decide +kernel
  have hS : va_S (aw q 8) s.heap s.heap [] := va_S.rf
  have hP : va_P D vwCl (w0 ci cz q F P g) s.heap := hP
  refine lv_aload_n hx hb dX0_carried_0 rfl (lv_at hl 0 rfl) ?_
  refine lv_iload_n hx hb dX0_carried_1 rfl (lv_at hl 1 rfl) ?_
  by_cases h1 : inR a F
  rotate_left
  · refine r_callX (rest := []) Fx (m_X0_needFerry_x l hl0 (D := D) (ci := ci) (cz := cz) (cj := cj) (q := q) (F := F) (P := P) (g := g) hF hP12 a h1) (cwV 1 Fx.2.2.2.2 gX0_carried_X0_needFerry rfl rfl rfl (by decide +kernel) ⟨Nat.le_of_ble_eq_true rfl, Nat.le_of_ble_eq_true rfl⟩) BW.bl (va_recv hK hP (ci := 0) (q0 := 0) rfl rfl) (BW.at hP hK hE hS) rfl hl.1 rfl (Nat.le_of_ble_eq_true rfl) dX0_carried_2 ⟨Nat.le_of_ble_eq_true rfl, Nat.le_of_ble_eq_true rfl⟩ (fun ce q9 H1 hh hce hcv hcl => ?_)
    exact p_out hex hlocks hh hce hcv hcl ⟨0, (by simp [k_1, inR, inB, h1]), rfl⟩ (Nat.le_refl _) (Nat.le_refl _)
  obtain ⟨ja, h2, rfl⟩ := inR_of h1 (by omega)
  have h3 : ix (nI ja) = ja := ix_nI (by omega)
  refine r_callR (rest := []) Fx (m_X0_needFerry l (D := D) (ci := ci) (cz := cz) (cj := cj) (q := q) (F := F) (P := P) (g := g) hF hP12 ja (by omega)) (cwV 1 Fx.2.2.2.2 gX0_carried_X0_needFerry rfl rfl rfl (by decide +kernel) ⟨Nat.le_of_ble_eq_true rfl, Nat.le_of_ble_eq_true rfl⟩) BW.bl (va_recv hK hP (ci := 0) (q0 := 0) rfl rfl) (BW.at hP hK hE hS) rfl hl.1 rfl (Nat.le_of_ble_eq_true rfl) dX0_carried_2 ⟨Nat.zero_le _, Nat.zero_le _⟩ ?_
  refine lv_aload_n hx hb dX0_carried_5 rfl (lv_at hl 0 rfl) ?_
  refine r_get Fx hin hK hP 0 rfl 2 (by decide) (by decide +kernel) rfl rfl dX0_carried_6 ?_
  refine lv_iload_n hx hb dX0_carried_9 rfl (lv_at hl 1 rfl) ?_
  refine r_iald Fx hK hP 2 0 rfl rfl (i := ja) (by omega) (by decide) dX0_carried_10 ?_
  exact p_iret hx hb hr hlocks hS (hP) (by simp [k_1, inR, inB, h1, h2, h3]) (by simp [k_1, h1, h2, h3]) (Nat.zero_le _) (Nat.zero_le _) dX0_carried_11
set_option maxHeartbeats 4000000 in
set_option maxRecDepth 100000 in
theorem m_X0_shares (l : Launch) (hl0 : l.stackTraces = false) {D : va_G} {ci cz : ClassId} {cj : ClassId × ClassId} {q : Nat → Nat} {F P : Nat} {g : Nat → Nat → Int32} (hq : DQ q 8) (hF : F ≤ 6) (hP12 : P ≤ 12) (f : Int32) (w : Int32) (a : Int32) : vx_Met l yX0_shares wsX0_shares ({ frames := 7, cells := 1, slots := 6, locals := 103 } : Room) (va_Pc [.ref (q 0), .int f, .int w, .int a] (B0 D ci cz cj q F P g)) (PQ (k_fwp F P f w a) (some (.int (own g (ix f) (ix w) (ix a)))) (fun H => va_P D vwCl (w0 ci cz q F P g) H) (aw q 8)) (PX (k_fwp F P f w a) [xIO]) 1 6 (aw q 8) := by
  refine vx_ofX (cc := cX0_shares) (maxL := 4) (ret := (some .int)) (by decide) rfl (Nat.le_of_ble_eq_true rfl) ?_
  intro pg en s m bl mt cd ls Fx hr hlocks hex hB hl
  obtain ⟨hP, hK, hE⟩ := hB
  have hl : lv_has ls 4 [(0, .ref (q 0)), (1, .int f), (2, .int w), (3, .int a)] := hl
  have Fx : CallFix pg m cd cX0_shares 4 s _ wsX0_shares RX0 := Fx
  have hx := Fx.1
  have hb := Fx.2.1
  have hS : va_S (aw q 8) s.heap s.heap [] := va_S.rf
  have hP : va_P D vwCl (w0 ci cz q F P g) s.heap := hP
  refine lv_aload_n hx hb dX0_shares_0 rfl (lv_at hl 0 rfl) ?_
  refine lv_iload_n hx hb dX0_shares_1 rfl (lv_at hl 1 rfl) ?_
  by_cases h1 : inR f F
  rotate_left
  · refine r_callX (rest := []) Fx (m_X0_needFerry_x l hl0 (D := D) (ci := ci) (cz := cz) (cj := cj) (q := q) (F := F) (P := P) (g := g) hF hP12 f h1) (cwV 1 Fx.2.2.2.2 gX0_shares_X0_needFerry rfl rfl rfl (by decide +kernel) ⟨Nat.le_of_ble_eq_true rfl, Nat.le_of_ble_eq_true rfl⟩) BW.bl (va_recv hK hP (ci := 0) (q0 := 0) rfl rfl) (BW.at hP hK hE hS) rfl hl.1 rfl (Nat.le_of_ble_eq_true rfl) dX0_shares_2 ⟨Nat.le_of_ble_eq_true rfl, Nat.le_of_ble_eq_true rfl⟩ (fun ce q9 H1 hh hce hcv hcl => ?_)
    exact p_out hex hlocks hh hce hcv hcl ⟨0, (by simp [k_fwp, inR, inB, h1]), rfl⟩ (Nat.le_refl _) (Nat.le_refl _)
  obtain ⟨jf, h2, rfl⟩ := inR_of h1 (by omega)
  have h3 : ix (nI jf) = jf := ix_nI (by omega)
  refine r_callR (rest := []) Fx (m_X0_needFerry l (D := D) (ci := ci) (cz := cz) (cj := cj) (q := q) (F := F) (P := P) (g := g) hF hP12 jf (by omega)) (cwV 1 Fx.2.2.2.2 gX0_shares_X0_needFerry rfl rfl rfl (by decide +kernel) ⟨Nat.le_of_ble_eq_true rfl, Nat.le_of_ble_eq_true rfl⟩) BW.bl (va_recv hK hP (ci := 0) (q0 := 0) rfl rfl) (BW.at hP hK hE hS) rfl hl.1 rfl (Nat.le_of_ble_eq_true rfl) dX0_shares_2 ⟨Nat.zero_le _, Nat.zero_le _⟩ ?_
  refine lv_iload_n hx hb dX0_shares_5 rfl (lv_at hl 2 rfl) ?_
  by_cases h4 : inR w 4
  rotate_left
  · refine r_callXS (rest := []) Fx (m_X0_needWatch_x l hl0 (D := D) (ci := ci) (cz := cz) (cj := cj) (q := q) (F := F) (P := P) (g := g) hF hP12 w h4) (va_cwS 1 Fx.2.2.2.2 gX0_shares_X0_needWatch rfl rfl rfl (by decide +kernel) ⟨Nat.le_of_ble_eq_true rfl, Nat.le_of_ble_eq_true rfl⟩) BW.bl (BW.at hP hK hE hS) rfl hl.1 rfl (Nat.le_of_ble_eq_true rfl) dX0_shares_6 ⟨Nat.le_of_ble_eq_true rfl, Nat.le_of_ble_eq_true rfl⟩ (fun ce q9 H1 hh hce hcv hcl => ?_)
    exact p_out hex hlocks hh hce hcv hcl ⟨0, (by simp [k_fwp, inR, inB, h1, h2, h3, h4]), rfl⟩ (Nat.le_refl _) (Nat.le_refl _)
  obtain ⟨jw, h5, rfl⟩ := inR_of h4 (by omega)
  have h6 : ix (nI jw) = jw := ix_nI (by omega)
  refine r_callRS (rest := []) Fx (m_X0_needWatch l (D := D) (ci := ci) (cz := cz) (cj := cj) (q := q) (F := F) (P := P) (g := g) hF hP12 jw (by omega)) (va_cwS 1 Fx.2.2.2.2 gX0_shares_X0_needWatch rfl rfl rfl (by decide +kernel) ⟨Nat.le_of_ble_eq_true rfl, Nat.le_of_ble_eq_true rfl⟩) BW.bl (BW.at hP hK hE hS) rfl hl.1 rfl (Nat.le_of_ble_eq_true rfl) dX0_shares_6 ⟨Nat.zero_le _, Nat.zero_le _⟩ ?_
  refine lv_aload_n hx hb dX0_shares_9 rfl (lv_at hl 0 rfl) ?_
  refine lv_iload_n hx hb dX0_shares_10 rfl (lv_at hl 3 rfl) ?_
  by_cases h7 : inR a P
  rotate_left
  · refine r_callX (rest := []) Fx (m_X0_needPerson_x l hl0 (D := D) (ci := ci) (cz := cz) (cj := cj) (q := q) (F := F) (P := P) (g := g) hF hP12 a h7) (cwV 1 Fx.2.2.2.2 gX0_shares_X0_needPerson rfl rfl rfl (by decide +kernel) ⟨Nat.le_of_ble_eq_true rfl, Nat.le_of_ble_eq_true rfl⟩) BW.bl (va_recv hK hP (ci := 0) (q0 := 0) rfl rfl) (BW.at hP hK hE hS) rfl hl.1 rfl (Nat.le_of_ble_eq_true rfl) dX0_shares_11 ⟨Nat.le_of_ble_eq_true rfl, Nat.le_of_ble_eq_true rfl⟩ (fun ce q9 H1 hh hce hcv hcl => ?_)
    exact p_out hex hlocks hh hce hcv hcl ⟨0, (by simp [k_fwp, inR, inB, h1, h2, h3, h4, h5, h6, h7]), rfl⟩ (Nat.le_refl _) (Nat.le_refl _)
  obtain ⟨ja, h8, rfl⟩ := inR_of h7 (by omega)
  have h9 : ix (nI ja) = ja := ix_nI (by omega)
  refine r_callR (rest := []) Fx (m_X0_needPerson l (D := D) (ci := ci) (cz := cz) (cj := cj) (q := q) (F := F) (P := P) (g := g) hF hP12 ja (by omega)) (cwV 1 Fx.2.2.2.2 gX0_shares_X0_needPerson rfl rfl rfl (by decide +kernel) ⟨Nat.le_of_ble_eq_true rfl, Nat.le_of_ble_eq_true rfl⟩) BW.bl (va_recv hK hP (ci := 0) (q0 := 0) rfl rfl) (BW.at hP hK hE hS) rfl hl.1 rfl (Nat.le_of_ble_eq_true rfl) dX0_shares_11 ⟨Nat.zero_le _, Nat.zero_le _⟩ ?_
  refine lv_aload_n hx hb dX0_shares_14 rfl (lv_at hl 0 rfl) ?_
  refine lv_iload_n hx hb dX0_shares_15 rfl (lv_at hl 1 rfl) ?_
  refine lv_iload_n hx hb dX0_shares_16 rfl (lv_at hl 2 rfl) ?_
  refine lv_iload_n hx hb dX0_shares_17 rfl (lv_at hl 3 rfl) ?_
  refine r_callR (rest := []) Fx (m_X0_owns l (D := D) (ci := ci) (cz := cz) (cj := cj) (q := q) (F := F) (P := P) (g := g) hF hP12 jf jw ja (by omega) (by omega) (by omega)) (cwV 3 Fx.2.2.2.2 gX0_shares_X0_owns rfl rfl rfl (by decide +kernel) ⟨Nat.le_of_ble_eq_true rfl, Nat.le_of_ble_eq_true rfl⟩) BW.bl (va_recv hK hP (ci := 0) (q0 := 0) rfl rfl) (BW.at hP hK hE hS) rfl hl.1 rfl (Nat.le_of_ble_eq_true rfl) dX0_shares_18 ⟨Nat.zero_le _, Nat.zero_le _⟩ ?_
  exact p_iret hx hb hr hlocks hS (hP) (by simp [k_fwp, inR, inB, h1, h2, h3, h4, h5, h6, h7, h8, h9]) (by simp [k_fwp, h1, h2, h3, h4, h5, h6, h7, h8, h9]) (Nat.zero_le _) (Nat.zero_le _) dX0_shares_21
set_option maxHeartbeats 4000000 in
set_option maxRecDepth 100000 in
theorem m_X0_crownShares (l : Launch) (hl0 : l.stackTraces = false) {D : va_G} {ci cz : ClassId} {cj : ClassId × ClassId} {q : Nat → Nat} {F P : Nat} {g : Nat → Nat → Int32} (hq : DQ q 8) (hF : F ≤ 6) (hP12 : P ≤ 12) (f : Int32) (w : Int32) : vx_Met l yX0_crownShares wsX0_crownShares ({ frames := 7, cells := 1, slots := 6, locals := 103 } : Room) (va_Pc [.ref (q 0), .int f, .int w] (B0 D ci cz cj q F P g)) (PQ (k_fw F f w) (some (.int (sCro g P (ix f) (ix w)))) (fun H => va_P D vwCl (w0 ci cz q F P g) H) (aw q 8)) (PX (k_fw F f w) [xIO]) 1 6 (aw q 8) := by
  refine vx_ofX (cc := cX0_crownShares) (maxL := 3) (ret := (some .int)) (by decide) rfl (Nat.le_of_ble_eq_true rfl) ?_
  intro pg en s m bl mt cd ls Fx hr hlocks hex hB hl
  obtain ⟨hP, hK, hE⟩ := hB
  have hl : lv_has ls 3 [(0, .ref (q 0)), (1, .int f), (2, .int w)] := hl
  have Fx : CallFix pg m cd cX0_crownShares 3 s _ wsX0_crownShares RX0 := Fx
  have hx := Fx.1
  have hb := Fx.2.1
  have hS : va_S (aw q 8) s.heap s.heap [] := va_S.rf
  have hP : va_P D vwCl (w0 ci cz q F P g) s.heap := hP
  refine lv_aload_n hx hb dX0_crownShares_0 rfl (lv_at hl 0 rfl) ?_
  refine lv_iload_n hx hb dX0_crownShares_1 rfl (lv_at hl 1 rfl) ?_
  by_cases h1 : inR f F
  rotate_left
  · refine r_callX (rest := []) Fx (m_X0_needFerry_x l hl0 (D := D) (ci := ci) (cz := cz) (cj := cj) (q := q) (F := F) (P := P) (g := g) hF hP12 f h1) (cwV 1 Fx.2.2.2.2 gX0_crownShares_X0_needFerry rfl rfl rfl (by decide +kernel) ⟨Nat.le_of_ble_eq_true rfl, Nat.le_of_ble_eq_true rfl⟩) BW.bl (va_recv hK hP (ci := 0) (q0 := 0) rfl rfl) (BW.at hP hK hE hS) rfl hl.1 rfl (Nat.le_of_ble_eq_true rfl) dX0_crownShares_2 ⟨Nat.le_of_ble_eq_true rfl, Nat.le_of_ble_eq_true rfl⟩ (fun ce q9 H1 hh hce hcv hcl => ?_)
    exact p_out hex hlocks hh hce hcv hcl ⟨0, (by simp [k_fw, inR, inB, h1]), rfl⟩ (Nat.le_refl _) (Nat.le_refl _)
  obtain ⟨jf, h2, rfl⟩ := inR_of h1 (by omega)
  have h3 : ix (nI jf) = jf := ix_nI (by omega)
  refine r_callR (rest := []) Fx (m_X0_needFerry l (D := D) (ci := ci) (cz := cz) (cj := cj) (q := q) (F := F) (P := P) (g := g) hF hP12 jf (by omega)) (cwV 1 Fx.2.2.2.2 gX0_crownShares_X0_needFerry rfl rfl rfl (by decide +kernel) ⟨Nat.le_of_ble_eq_true rfl, Nat.le_of_ble_eq_true rfl⟩) BW.bl (va_recv hK hP (ci := 0) (q0 := 0) rfl rfl) (BW.at hP hK hE hS) rfl hl.1 rfl (Nat.le_of_ble_eq_true rfl) dX0_crownShares_2 ⟨Nat.zero_le _, Nat.zero_le _⟩ ?_
  refine lv_iload_n hx hb dX0_crownShares_5 rfl (lv_at hl 2 rfl) ?_
  by_cases h4 : inR w 4
  rotate_left
  · refine r_callXS (rest := []) Fx (m_X0_needWatch_x l hl0 (D := D) (ci := ci) (cz := cz) (cj := cj) (q := q) (F := F) (P := P) (g := g) hF hP12 w h4) (va_cwS 1 Fx.2.2.2.2 gX0_crownShares_X0_needWatch rfl rfl rfl (by decide +kernel) ⟨Nat.le_of_ble_eq_true rfl, Nat.le_of_ble_eq_true rfl⟩) BW.bl (BW.at hP hK hE hS) rfl hl.1 rfl (Nat.le_of_ble_eq_true rfl) dX0_crownShares_6 ⟨Nat.le_of_ble_eq_true rfl, Nat.le_of_ble_eq_true rfl⟩ (fun ce q9 H1 hh hce hcv hcl => ?_)
    exact p_out hex hlocks hh hce hcv hcl ⟨0, (by simp [k_fw, inR, inB, h1, h2, h3, h4]), rfl⟩ (Nat.le_refl _) (Nat.le_refl _)
  obtain ⟨jw, h5, rfl⟩ := inR_of h4 (by omega)
  have h6 : ix (nI jw) = jw := ix_nI (by omega)
  refine r_callRS (rest := []) Fx (m_X0_needWatch l (D := D) (ci := ci) (cz := cz) (cj := cj) (q := q) (F := F) (P := P) (g := g) hF hP12 jw (by omega)) (va_cwS 1 Fx.2.2.2.2 gX0_crownShares_X0_needWatch rfl rfl rfl (by decide +kernel) ⟨Nat.le_of_ble_eq_true rfl, Nat.le_of_ble_eq_true rfl⟩) BW.bl (BW.at hP hK hE hS) rfl hl.1 rfl (Nat.le_of_ble_eq_true rfl) dX0_crownShares_6 ⟨Nat.zero_le _, Nat.zero_le _⟩ ?_
  refine lv_aload_n hx hb dX0_crownShares_9 rfl (lv_at hl 0 rfl) ?_
  refine lv_iload_n hx hb dX0_crownShares_10 rfl (lv_at hl 1 rfl) ?_
  refine lv_iload_n hx hb dX0_crownShares_11 rfl (lv_at hl 2 rfl) ?_
  refine r_callR (rest := []) Fx (m_X0_crownOwns l (D := D) (ci := ci) (cz := cz) (cj := cj) (q := q) (F := F) (P := P) (g := g) hF hP12 jf jw (by omega) (by omega)) (cwV 2 Fx.2.2.2.2 gX0_crownShares_X0_crownOwns rfl rfl rfl (by decide +kernel) ⟨Nat.le_of_ble_eq_true rfl, Nat.le_of_ble_eq_true rfl⟩) BW.bl (va_recv hK hP (ci := 0) (q0 := 0) rfl rfl) (BW.at hP hK hE hS) rfl hl.1 rfl (Nat.le_of_ble_eq_true rfl) dX0_crownShares_12 ⟨Nat.zero_le _, Nat.zero_le _⟩ ?_
  exact p_iret hx hb hr hlocks hS (hP) (by simp [k_fw, inR, inB, h1, h2, h3, h4, h5, h6]) (by simp [k_fw, h1, h2, h3, h4, h5, h6]) (Nat.zero_le _) (Nat.zero_le _) dX0_crownShares_15
set_option maxHeartbeats 4000000 in
set_option maxRecDepth 100000 in
theorem m_X0_owners (l : Launch) (hl0 : l.stackTraces = false) {D : va_G} {ci cz : ClassId} {cj : ClassId × ClassId} {q : Nat → Nat} {F P : Nat} {g : Nat → Nat → Int32} (hq : DQ q 8) (hF : F ≤ 6) (hP12 : P ≤ 12) (f : Int32) (w : Int32) : vx_Met l yX0_owners wsX0_owners ({ frames := 7, cells := 1, slots := 6, locals := 103 } : Room) (va_Pc [.ref (q 0), .int f, .int w] (B0 D ci cz cj q F P g)) (PQ (k_fw F f w) (some (.int (nI (sOwn g P (ix f) (ix w))))) (fun H => va_P D vwCl (w0 ci cz q F P g) H) (aw q 8)) (PX (k_fw F f w) [xIO]) 1 6 (aw q 8) := by
  refine vx_ofX (cc := cX0_owners) (maxL := 5) (ret := (some .int)) (by decide) rfl (Nat.le_of_ble_eq_true rfl) ?_
  intro pg en s m bl mt cd ls Fx hr hlocks hex hB hl
  obtain ⟨hP, hK, hE⟩ := hB
  have hl : lv_has ls 5 [(0, .ref (q 0)), (1, .int f), (2, .int w)] := hl
  have Fx : CallFix pg m cd cX0_owners 5 s _ wsX0_owners RX0 := Fx
  have hx := Fx.1
  have hb := Fx.2.1
  have hin : ∀ w ∈ wsX00, w ∈ wsX0_owners := by decide +kernel
  have hS : va_S (aw q 8) s.heap s.heap [] := va_S.rf
  have hP : va_P D vwCl (w0 ci cz q F P g) s.heap := hP
  refine lv_aload_n hx hb dX0_owners_0 rfl (lv_at hl 0 rfl) ?_
  refine lv_iload_n hx hb dX0_owners_1 rfl (lv_at hl 1 rfl) ?_
  by_cases h1 : inR f F
  rotate_left
  · refine r_callX (rest := []) Fx (m_X0_needFerry_x l hl0 (D := D) (ci := ci) (cz := cz) (cj := cj) (q := q) (F := F) (P := P) (g := g) hF hP12 f h1) (cwV 1 Fx.2.2.2.2 gX0_owners_X0_needFerry rfl rfl rfl (by decide +kernel) ⟨Nat.le_of_ble_eq_true rfl, Nat.le_of_ble_eq_true rfl⟩) BW.bl (va_recv hK hP (ci := 0) (q0 := 0) rfl rfl) (BW.at hP hK hE hS) rfl hl.1 rfl (Nat.le_of_ble_eq_true rfl) dX0_owners_2 ⟨Nat.le_of_ble_eq_true rfl, Nat.le_of_ble_eq_true rfl⟩ (fun ce q9 H1 hh hce hcv hcl => ?_)
    exact p_out hex hlocks hh hce hcv hcl ⟨0, (by simp [k_fw, sOwn, inR, inB, h1]), rfl⟩ (Nat.le_refl _) (Nat.le_refl _)
  obtain ⟨jf, h2, rfl⟩ := inR_of h1 (by omega)
  have h3 : ix (nI jf) = jf := ix_nI (by omega)
  refine r_callR (rest := []) Fx (m_X0_needFerry l (D := D) (ci := ci) (cz := cz) (cj := cj) (q := q) (F := F) (P := P) (g := g) hF hP12 jf (by omega)) (cwV 1 Fx.2.2.2.2 gX0_owners_X0_needFerry rfl rfl rfl (by decide +kernel) ⟨Nat.le_of_ble_eq_true rfl, Nat.le_of_ble_eq_true rfl⟩) BW.bl (va_recv hK hP (ci := 0) (q0 := 0) rfl rfl) (BW.at hP hK hE hS) rfl hl.1 rfl (Nat.le_of_ble_eq_true rfl) dX0_owners_2 ⟨Nat.zero_le _, Nat.zero_le _⟩ ?_
  refine lv_iload_n hx hb dX0_owners_5 rfl (lv_at hl 2 rfl) ?_
  by_cases h4 : inR w 4
  rotate_left
  · refine r_callXS (rest := []) Fx (m_X0_needWatch_x l hl0 (D := D) (ci := ci) (cz := cz) (cj := cj) (q := q) (F := F) (P := P) (g := g) hF hP12 w h4) (va_cwS 1 Fx.2.2.2.2 gX0_owners_X0_needWatch rfl rfl rfl (by decide +kernel) ⟨Nat.le_of_ble_eq_true rfl, Nat.le_of_ble_eq_true rfl⟩) BW.bl (BW.at hP hK hE hS) rfl hl.1 rfl (Nat.le_of_ble_eq_true rfl) dX0_owners_6 ⟨Nat.le_of_ble_eq_true rfl, Nat.le_of_ble_eq_true rfl⟩ (fun ce q9 H1 hh hce hcv hcl => ?_)
    exact p_out hex hlocks hh hce hcv hcl ⟨0, (by simp [k_fw, sOwn, inR, inB, h1, h2, h3, h4]), rfl⟩ (Nat.le_refl _) (Nat.le_refl _)
  obtain ⟨jw, h5, rfl⟩ := inR_of h4 (by omega)
  have h6 : ix (nI jw) = jw := ix_nI (by omega)
  refine r_callRS (rest := []) Fx (m_X0_needWatch l (D := D) (ci := ci) (cz := cz) (cj := cj) (q := q) (F := F) (P := P) (g := g) hF hP12 jw (by omega)) (va_cwS 1 Fx.2.2.2.2 gX0_owners_X0_needWatch rfl rfl rfl (by decide +kernel) ⟨Nat.le_of_ble_eq_true rfl, Nat.le_of_ble_eq_true rfl⟩) BW.bl (BW.at hP hK hE hS) rfl hl.1 rfl (Nat.le_of_ble_eq_true rfl) dX0_owners_6 ⟨Nat.zero_le _, Nat.zero_le _⟩ ?_
  refine lv_iconst (v := nI 0) hx hb dX0_owners_9 (by decide) ?_
  refine lv_istore_n (lv' := [(3, .int (nI 0)), (0, .ref (q 0)), (1, .int (nI jf)), (2, .int (nI jw))]) hx hb dX0_owners_10 rfl hl (by decide) rfl (fun ls hl => ?_)
  refine lv_iconst (v := nI 0) hx hb dX0_owners_11 (by decide) ?_
  refine lv_istore (lv' := [(4, .int (nI 0)), (3, .int (nI 0)), (0, .ref (q 0)), (1, .int (nI jf)), (2, .int (nI jw))]) hx hb dX0_owners_12 hl (by decide) rfl (fun ls hl => ?_)
  refine rloop (nL := 5) (N := P) (fun _ => True) (fun i => [(0, .ref (q 0)), (1, .int (nI jf)), (2, .int (nI jw)), (3, .int (nI (cn (fun z => decide (0 < own g jf jw z)) i))), (4, .int (nI i))]) (trivial) (lv_sub hl [2, 3, 4, 1, 0] rfl) ?_ ?_
  · intro h7 ls hl
    have hl : lv_has ls 5 [(0, .ref (q 0)), (1, .int (nI jf)), (2, .int (nI jw)), (3, .int (nI (cn (fun z => decide (0 < own g jf jw z)) P))), (4, .int (nI P))] := hl
    refine lv_iload hx hb dX0_owners_14 (lv_at hl 4 rfl) ?_
    refine lv_aload_n hx hb dX0_owners_16 rfl (lv_at hl 0 rfl) ?_
    refine r_get Fx hin hK hP 0 rfl 4 (by decide) (by decide +kernel) rfl rfl dX0_owners_17 ?_
    refine n_icmp_ge (tgt := 43) hx hb (by omega) (by omega) dX0_owners_20 (by decide) (fun h8 => ?_) (fun h8 => by omega)
    refine lv_iload_n hx hb dX0_owners_43 rfl (lv_at hl 3 rfl) ?_
    exact p_iret hx hb hr hlocks hS (hP) (by simp [k_fw, sOwn, inR, inB, h1, h2, h3, h4, h5, h6, h8]) (by simp [k_fw, sOwn, h1, h2, h3, h4, h5, h6, h8]) (Nat.zero_le _) (Nat.zero_le _) dX0_owners_44
  · intro i h10 h9 ih14 ls hl
    have hl : lv_has ls 5 [(0, .ref (q 0)), (1, .int (nI jf)), (2, .int (nI jw)), (3, .int (nI (cn (fun z => decide (0 < own g jf jw z)) i))), (4, .int (nI i))] := hl
    refine lv_iload hx hb dX0_owners_14 (lv_at hl 4 rfl) ?_
    refine lv_aload_n hx hb dX0_owners_16 rfl (lv_at hl 0 rfl) ?_
    refine r_get Fx hin hK hP 0 rfl 4 (by decide) (by decide +kernel) rfl rfl dX0_owners_17 ?_
    refine n_icmp_ge (tgt := 43) hx hb (by omega) (by omega) dX0_owners_20 (by decide) (fun h11 => by omega) (fun h11 => ?_)
    refine lv_aload_n hx hb dX0_owners_23 rfl (lv_at hl 0 rfl) ?_
    refine lv_iload_n hx hb dX0_owners_24 rfl (lv_at hl 1 rfl) ?_
    refine lv_iload_n hx hb dX0_owners_25 rfl (lv_at hl 2 rfl) ?_
    refine lv_iload hx hb dX0_owners_26 (lv_at hl 4 rfl) ?_
    refine r_callR (rest := []) Fx (m_X0_owns l (D := D) (ci := ci) (cz := cz) (cj := cj) (q := q) (F := F) (P := P) (g := g) hF hP12 jf jw i (by omega) (by omega) (by omega)) (cwV 3 Fx.2.2.2.2 gX0_owners_X0_owns rfl rfl rfl (by decide +kernel) ⟨Nat.le_of_ble_eq_true rfl, Nat.le_of_ble_eq_true rfl⟩) BW.bl (va_recv hK hP (ci := 0) (q0 := 0) rfl rfl) (BW.at hP hK hE hS) rfl hl.1 rfl (Nat.le_of_ble_eq_true rfl) dX0_owners_28 ⟨Nat.zero_le _, Nat.zero_le _⟩ ?_
    refine lv_if_le (tgt := 37) hx hb dX0_owners_31 (by decide) (fun h12 => ?_) (fun h12 => ?_)
    · refine lv_iinc (v := nI (i + 1)) (lv' := [(4, .int (nI (i + 1))), (0, .ref (q 0)), (1, .int (nI jf)), (2, .int (nI jw)), (3, .int (nI (cn (fun z => decide (0 < own g jf jw z)) i)))]) hx hb dX0_owners_37 hl (k := 4) rfl (nI_inc _ 1) (by decide) rfl (fun ls hl => ?_)
      refine lv_goto (tgt := 14) hx hb dX0_owners_40 (by decide) ?_
      have e3_ : nI (cn (fun z => decide (0 < own g jf jw z)) i) = nI (cn (fun z => decide (0 < own g jf jw z)) (i + 1)) := by simp [cn, h1, h2, h3, h4, h5, h6, h10, h11, h12, Int32.not_lt.mpr h12]
      rw [e3_] at hl
      exact ih14 (trivial) _ (lv_sub hl [1, 2, 3, 4, 0] rfl)
    · have h12 := Int32.not_le.mp h12
      refine lv_iinc (v := nI (cn (fun z => decide (0 < own g jf jw z)) i + 1)) (lv' := [(3, .int (nI (cn (fun z => decide (0 < own g jf jw z)) i + 1))), (0, .ref (q 0)), (1, .int (nI jf)), (2, .int (nI jw)), (4, .int (nI i))]) hx hb dX0_owners_34 hl (k := 3) rfl (nI_inc _ 1) (by decide) rfl (fun ls hl => ?_)
      refine lv_iinc (v := nI (i + 1)) (lv' := [(4, .int (nI (i + 1))), (3, .int (nI (cn (fun z => decide (0 < own g jf jw z)) i + 1))), (0, .ref (q 0)), (1, .int (nI jf)), (2, .int (nI jw))]) hx hb dX0_owners_37 hl (k := 4) rfl (nI_inc _ 1) (by decide) rfl (fun ls hl => ?_)
      refine lv_goto (tgt := 14) hx hb dX0_owners_40 (by decide) ?_
      have e3_ : nI (cn (fun z => decide (0 < own g jf jw z)) i + 1) = nI (cn (fun z => decide (0 < own g jf jw z)) (i + 1)) := by simp [cn, h1, h2, h3, h4, h5, h6, h10, h11, h12, Int32.not_le.mpr h12]
      rw [e3_] at hl
      exact ih14 (trivial) _ (lv_sub hl [2, 3, 4, 1, 0] rfl)
set_option maxHeartbeats 4000000 in
set_option maxRecDepth 100000 in
theorem m_X0_holder (l : Launch) (hl0 : l.stackTraces = false) {D : va_G} {ci cz : ClassId} {cj : ClassId × ClassId} {q : Nat → Nat} {F P : Nat} {g : Nat → Nat → Int32} (hq : DQ q 8) (hF : F ≤ 6) (hP12 : P ≤ 12) (f : Int32) (w : Int32) : vx_Met l yX0_holder wsX0_holder ({ frames := 7, cells := 1, slots := 6, locals := 103 } : Room) (va_Pc [.ref (q 0), .int f, .int w] (B0 D ci cz cj q F P g)) (PQ (k_holder F P g f w) (some (.int (sHol g P (ix f) (ix w)))) (fun H => va_P D vwCl (w0 ci cz q F P g) H) (aw q 8)) (PX (k_holder F P g f w) [xIO, xIS]) 1 6 (aw q 8) := by
  refine vx_ofX (cc := cX0_holder) (maxL := 7) (ret := (some .int)) (by decide) rfl (Nat.le_of_ble_eq_true rfl) ?_
  intro pg en s m bl mt cd ls Fx hr hlocks hex hB hl
  obtain ⟨hP, hK, hE⟩ := hB
  have hl : lv_has ls 7 [(0, .ref (q 0)), (1, .int f), (2, .int w)] := hl
  have Fx : CallFix pg m cd cX0_holder 7 s _ wsX0_holder RX0 := Fx
  have hx := Fx.1
  have hb := Fx.2.1
  have hin : ∀ w ∈ wsX00, w ∈ wsX0_holder := by decide +kernel
  have hS : va_S (aw q 8) s.heap s.heap [] := va_S.rf
  have hP : va_P D vwCl (w0 ci cz q F P g) s.heap := hP
  refine lv_aload_n hx hb dX0_holder_0 rfl (lv_at hl 0 rfl) ?_
  refine lv_iload_n hx hb dX0_holder_1 rfl (lv_at hl 1 rfl) ?_
  by_cases h1 : inR f F
  rotate_left
  · refine r_callX (rest := []) Fx (m_X0_needFerry_x l hl0 (D := D) (ci := ci) (cz := cz) (cj := cj) (q := q) (F := F) (P := P) (g := g) hF hP12 f h1) (cwV 1 Fx.2.2.2.2 gX0_holder_X0_needFerry rfl rfl rfl (by decide +kernel) ⟨Nat.le_of_ble_eq_true rfl, Nat.le_of_ble_eq_true rfl⟩) BW.bl (va_recv hK hP (ci := 0) (q0 := 0) rfl rfl) (BW.at hP hK hE hS) rfl hl.1 rfl (Nat.le_of_ble_eq_true rfl) dX0_holder_2 ⟨Nat.le_of_ble_eq_true rfl, Nat.le_of_ble_eq_true rfl⟩ (fun ce q9 H1 hh hce hcv hcl => ?_)
    exact p_out hex hlocks hh hce hcv hcl ⟨0, (by simp [k_holder, sHol, inR, inB, h1]), rfl⟩ (Nat.le_refl _) (Nat.le_refl _)
  obtain ⟨jf, h2, rfl⟩ := inR_of h1 (by omega)
  have h3 : ix (nI jf) = jf := ix_nI (by omega)
  refine r_callR (rest := []) Fx (m_X0_needFerry l (D := D) (ci := ci) (cz := cz) (cj := cj) (q := q) (F := F) (P := P) (g := g) hF hP12 jf (by omega)) (cwV 1 Fx.2.2.2.2 gX0_holder_X0_needFerry rfl rfl rfl (by decide +kernel) ⟨Nat.le_of_ble_eq_true rfl, Nat.le_of_ble_eq_true rfl⟩) BW.bl (va_recv hK hP (ci := 0) (q0 := 0) rfl rfl) (BW.at hP hK hE hS) rfl hl.1 rfl (Nat.le_of_ble_eq_true rfl) dX0_holder_2 ⟨Nat.zero_le _, Nat.zero_le _⟩ ?_
  refine lv_iload_n hx hb dX0_holder_5 rfl (lv_at hl 2 rfl) ?_
  by_cases h4 : inR w 4
  rotate_left
  · refine r_callXS (rest := []) Fx (m_X0_needWatch_x l hl0 (D := D) (ci := ci) (cz := cz) (cj := cj) (q := q) (F := F) (P := P) (g := g) hF hP12 w h4) (va_cwS 1 Fx.2.2.2.2 gX0_holder_X0_needWatch rfl rfl rfl (by decide +kernel) ⟨Nat.le_of_ble_eq_true rfl, Nat.le_of_ble_eq_true rfl⟩) BW.bl (BW.at hP hK hE hS) rfl hl.1 rfl (Nat.le_of_ble_eq_true rfl) dX0_holder_6 ⟨Nat.le_of_ble_eq_true rfl, Nat.le_of_ble_eq_true rfl⟩ (fun ce q9 H1 hh hce hcv hcl => ?_)
    exact p_out hex hlocks hh hce hcv hcl ⟨0, (by simp [k_holder, sHol, inR, inB, h1, h2, h3, h4]), rfl⟩ (Nat.le_refl _) (Nat.le_refl _)
  obtain ⟨jw, h5, rfl⟩ := inR_of h4 (by omega)
  have h6 : ix (nI jw) = jw := ix_nI (by omega)
  refine r_callRS (rest := []) Fx (m_X0_needWatch l (D := D) (ci := ci) (cz := cz) (cj := cj) (q := q) (F := F) (P := P) (g := g) hF hP12 jw (by omega)) (va_cwS 1 Fx.2.2.2.2 gX0_holder_X0_needWatch rfl rfl rfl (by decide +kernel) ⟨Nat.le_of_ble_eq_true rfl, Nat.le_of_ble_eq_true rfl⟩) BW.bl (BW.at hP hK hE hS) rfl hl.1 rfl (Nat.le_of_ble_eq_true rfl) dX0_holder_6 ⟨Nat.zero_le _, Nat.zero_le _⟩ ?_
  refine lv_iconst (v := -1) hx hb dX0_holder_9 (by decide) ?_
  refine lv_istore_n (lv' := [(3, .int (-1)), (0, .ref (q 0)), (1, .int (nI jf)), (2, .int (nI jw))]) hx hb dX0_holder_10 rfl hl (by decide) rfl (fun ls hl => ?_)
  refine lv_iconst (v := nI 0) hx hb dX0_holder_11 (by decide) ?_
  refine lv_istore (lv' := [(4, .int (nI 0)), (3, .int (-1)), (0, .ref (q 0)), (1, .int (nI jf)), (2, .int (nI jw))]) hx hb dX0_holder_12 hl (by decide) rfl (fun ls hl => ?_)
  refine lv_iconst (v := nI 0) hx hb dX0_holder_14 (by decide) ?_
  refine lv_istore (lv' := [(5, .int (nI 0)), (4, .int (nI 0)), (3, .int (-1)), (0, .ref (q 0)), (1, .int (nI jf)), (2, .int (nI jw))]) hx hb dX0_holder_15 hl (by decide) rfl (fun ls hl => ?_)
  refine rloop (nL := 7) (N := P) (fun _ => True) (fun i => [(0, .ref (q 0)), (1, .int (nI jf)), (2, .int (nI jw)), (3, .int ((ho (fun z => own g jf jw z) i).1)), (4, .int ((ho (fun z => own g jf jw z) i).2)), (5, .int (nI i))]) (trivial) (lv_sub hl [3, 4, 5, 2, 1, 0] rfl) ?_ ?_
  · intro h7 ls hl
    have hl : lv_has ls 7 [(0, .ref (q 0)), (1, .int (nI jf)), (2, .int (nI jw)), (3, .int ((ho (fun z => own g jf jw z) P).1)), (4, .int ((ho (fun z => own g jf jw z) P).2)), (5, .int (nI P))] := hl
    refine lv_iload hx hb dX0_holder_17 (lv_at hl 5 rfl) ?_
    refine lv_aload_n hx hb dX0_holder_19 rfl (lv_at hl 0 rfl) ?_
    refine r_get Fx hin hK hP 0 rfl 4 (by decide) (by decide +kernel) rfl rfl dX0_holder_20 ?_
    refine n_icmp_ge (tgt := 56) hx hb (by omega) (by omega) dX0_holder_23 (by decide) (fun h8 => ?_) (fun h8 => by omega)
    refine lv_iload_n hx hb dX0_holder_56 rfl (lv_at hl 3 rfl) ?_
    refine lv_iconst (v := -1) hx hb dX0_holder_57 (by decide) ?_
    refine lv_icmp_ne (tgt := 71) hx hb dX0_holder_58 (by decide) (fun h9 => ?_) (fun h9 => ?_)
    · refine lv_iload_n hx hb dX0_holder_71 rfl (lv_at hl 3 rfl) ?_
      exact p_iret hx hb hr hlocks hS (hP) (by simp [k_holder, sHol, inR, inB, h1, h2, h3, h4, h5, h6, h8, h9]) (by simp [k_holder, sHol, h1, h2, h3, h4, h5, h6, h8, h9]) (Nat.zero_le _) (Nat.zero_le _) dX0_holder_72
    · exact x0_throw (cls := xIS) (text := "nobody owns any share of it") Fx hl0 hE hS hex hlocks (by decide +kernel) (by decide +kernel) (by decide +kernel) (by decide +kernel) (by decide +kernel) hl.1 dX0_holder_61 dX0_holder_64 dX0_holder_65 dX0_holder_67 dX0_holder_70 (Nat.le_of_ble_eq_true rfl) (Nat.le_of_ble_eq_true rfl) (Nat.le_of_ble_eq_true rfl) (Nat.le_of_ble_eq_true rfl) (fun t ht => ⟨⟨1, (by simp [k_holder, sHol, inR, inB, h1, h2, h3, h4, h5, h6, h8, h9]), rfl⟩, ht⟩) nin (Nat.le_refl _) (Nat.le_refl _)
  · intro i h11 h10 ih17 ls hl
    have hl : lv_has ls 7 [(0, .ref (q 0)), (1, .int (nI jf)), (2, .int (nI jw)), (3, .int ((ho (fun z => own g jf jw z) i).1)), (4, .int ((ho (fun z => own g jf jw z) i).2)), (5, .int (nI i))] := hl
    refine lv_iload hx hb dX0_holder_17 (lv_at hl 5 rfl) ?_
    refine lv_aload_n hx hb dX0_holder_19 rfl (lv_at hl 0 rfl) ?_
    refine r_get Fx hin hK hP 0 rfl 4 (by decide) (by decide +kernel) rfl rfl dX0_holder_20 ?_
    refine n_icmp_ge (tgt := 56) hx hb (by omega) (by omega) dX0_holder_23 (by decide) (fun h12 => by omega) (fun h12 => ?_)
    refine lv_aload_n hx hb dX0_holder_26 rfl (lv_at hl 0 rfl) ?_
    refine lv_iload_n hx hb dX0_holder_27 rfl (lv_at hl 1 rfl) ?_
    refine lv_iload_n hx hb dX0_holder_28 rfl (lv_at hl 2 rfl) ?_
    refine lv_iload hx hb dX0_holder_29 (lv_at hl 5 rfl) ?_
    refine r_callR (rest := []) Fx (m_X0_owns l (D := D) (ci := ci) (cz := cz) (cj := cj) (q := q) (F := F) (P := P) (g := g) hF hP12 jf jw i (by omega) (by omega) (by omega)) (cwV 3 Fx.2.2.2.2 gX0_holder_X0_owns rfl rfl rfl (by decide +kernel) ⟨Nat.le_of_ble_eq_true rfl, Nat.le_of_ble_eq_true rfl⟩) BW.bl (va_recv hK hP (ci := 0) (q0 := 0) rfl rfl) (BW.at hP hK hE hS) rfl hl.1 rfl (Nat.le_of_ble_eq_true rfl) dX0_holder_31 ⟨Nat.zero_le _, Nat.zero_le _⟩ ?_
    refine lv_istore (lv' := [(6, .int (own g jf jw i)), (0, .ref (q 0)), (1, .int (nI jf)), (2, .int (nI jw)), (3, .int ((ho (fun z => own g jf jw z) i).1)), (4, .int ((ho (fun z => own g jf jw z) i).2)), (5, .int (nI i))]) hx hb dX0_holder_34 hl (by decide) rfl (fun ls hl => ?_)
    refine lv_iload hx hb dX0_holder_36 (lv_at hl 0 rfl) ?_
    refine lv_iload hx hb dX0_holder_38 (lv_at hl 5 rfl) ?_
    refine lv_icmp_le (tgt := 50) hx hb dX0_holder_40 (by decide) (fun h13 => ?_) (fun h13 => ?_)
    · refine lv_iinc (v := nI (i + 1)) (lv' := [(5, .int (nI (i + 1))), (6, .int (own g jf jw i)), (0, .ref (q 0)), (1, .int (nI jf)), (2, .int (nI jw)), (3, .int ((ho (fun z => own g jf jw z) i).1)), (4, .int ((ho (fun z => own g jf jw z) i).2))]) hx hb dX0_holder_50 hl (k := 6) rfl (nI_inc _ 1) (by decide) rfl (fun ls hl => ?_)
      refine lv_goto (tgt := 17) hx hb dX0_holder_53 (by decide) ?_
      have e3_ : (ho (fun z => own g jf jw z) i).1 = (ho (fun z => own g jf jw z) (i + 1)).1 := by simp [ho, h1, h2, h3, h4, h5, h6, h11, h12, h13, Int32.not_lt.mpr h13]
      rw [e3_] at hl
      have e4_ : (ho (fun z => own g jf jw z) i).2 = (ho (fun z => own g jf jw z) (i + 1)).2 := by simp [ho, h1, h2, h3, h4, h5, h6, h11, h12, h13, Int32.not_lt.mpr h13]
      rw [e4_] at hl
      exact ih17 (trivial) _ (lv_sub hl [2, 3, 4, 5, 6, 0] rfl)
    · have h13 := Int32.not_le.mp h13
      refine lv_iload hx hb dX0_holder_43 (lv_at hl 6 rfl) ?_
      refine lv_istore_n (lv' := [(3, .int (nI i)), (6, .int (own g jf jw i)), (0, .ref (q 0)), (1, .int (nI jf)), (2, .int (nI jw)), (4, .int ((ho (fun z => own g jf jw z) i).2)), (5, .int (nI i))]) hx hb dX0_holder_45 rfl hl (by decide) rfl (fun ls hl => ?_)
      refine lv_iload hx hb dX0_holder_46 (lv_at hl 1 rfl) ?_
      refine lv_istore (lv' := [(4, .int (own g jf jw i)), (3, .int (nI i)), (6, .int (own g jf jw i)), (0, .ref (q 0)), (1, .int (nI jf)), (2, .int (nI jw)), (5, .int (nI i))]) hx hb dX0_holder_48 hl (by decide) rfl (fun ls hl => ?_)
      refine lv_iinc (v := nI (i + 1)) (lv' := [(5, .int (nI (i + 1))), (4, .int (own g jf jw i)), (3, .int (nI i)), (6, .int (own g jf jw i)), (0, .ref (q 0)), (1, .int (nI jf)), (2, .int (nI jw))]) hx hb dX0_holder_50 hl (k := 6) rfl (nI_inc _ 1) (by decide) rfl (fun ls hl => ?_)
      refine lv_goto (tgt := 17) hx hb dX0_holder_53 (by decide) ?_
      have e3_ : nI i = (ho (fun z => own g jf jw z) (i + 1)).1 := by simp [ho, h1, h2, h3, h4, h5, h6, h11, h12, h13, Int32.not_le.mpr h13]
      rw [e3_] at hl
      have e4_ : own g jf jw i = (ho (fun z => own g jf jw z) (i + 1)).2 := by simp [ho, h1, h2, h3, h4, h5, h6, h11, h12, h13, Int32.not_le.mpr h13]
      rw [e4_] at hl
      exact ih17 (trivial) _ (lv_sub hl [4, 5, 6, 2, 1, 0] rfl)
set_option maxHeartbeats 4000000 in
set_option maxRecDepth 100000 in
theorem m_X0_master (l : Launch) (hl0 : l.stackTraces = false) {D : va_G} {ci cz : ClassId} {cj : ClassId × ClassId} {q : Nat → Nat} {F P : Nat} {g : Nat → Nat → Int32} (hq : DQ q 8) (hF : F ≤ 6) (hP12 : P ≤ 12) (f : Int32) : vx_Met l yX0_master wsX0_master ({ frames := 7, cells := 1, slots := 6, locals := 103 } : Room) (va_Pc [.ref (q 0), .int f] (B0 D ci cz cj q F P g)) (PQ (k_master F P g f) (some (.int (sMas g P (ix f)))) (fun H => va_P D vwCl (w0 ci cz q F P g) H) (aw q 8)) (PX (k_master F P g f) [xIO, xIS]) 1 6 (aw q 8) := by
  refine vx_ofX (cc := cX0_master) (maxL := 3) (ret := (some .int)) (by decide) rfl (Nat.le_of_ble_eq_true rfl) ?_
  intro pg en s m bl mt cd ls Fx hr hlocks hex hB hl
  obtain ⟨hP, hK, hE⟩ := hB
  have hl : lv_has ls 3 [(0, .ref (q 0)), (1, .int f)] := hl
  have Fx : CallFix pg m cd cX0_master 3 s _ wsX0_master RX0 := Fx
  have hx := Fx.1
  have hb := Fx.2.1
  have hS : va_S (aw q 8) s.heap s.heap [] := va_S.rf
  have hP : va_P D vwCl (w0 ci cz q F P g) s.heap := hP
  refine lv_aload_n hx hb dX0_master_0 rfl (lv_at hl 0 rfl) ?_
  refine lv_iload_n hx hb dX0_master_1 rfl (lv_at hl 1 rfl) ?_
  by_cases h1 : inR f F
  rotate_left
  · refine r_callX (rest := []) Fx (m_X0_needFerry_x l hl0 (D := D) (ci := ci) (cz := cz) (cj := cj) (q := q) (F := F) (P := P) (g := g) hF hP12 f h1) (cwV 1 Fx.2.2.2.2 gX0_master_X0_needFerry rfl rfl rfl (by decide +kernel) ⟨Nat.le_of_ble_eq_true rfl, Nat.le_of_ble_eq_true rfl⟩) BW.bl (va_recv hK hP (ci := 0) (q0 := 0) rfl rfl) (BW.at hP hK hE hS) rfl hl.1 rfl (Nat.le_of_ble_eq_true rfl) dX0_master_2 ⟨Nat.le_of_ble_eq_true rfl, Nat.le_of_ble_eq_true rfl⟩ (fun ce q9 H1 hh hce hcv hcl => ?_)
    exact p_out hex hlocks hh hce hcv hcl ⟨0, (by simp [k_master, inR, inB, h1]), rfl⟩ (Nat.le_refl _) (Nat.le_refl _)
  obtain ⟨jf, h2, rfl⟩ := inR_of h1 (by omega)
  have h3 : ix (nI jf) = jf := ix_nI (by omega)
  refine r_callR (rest := []) Fx (m_X0_needFerry l (D := D) (ci := ci) (cz := cz) (cj := cj) (q := q) (F := F) (P := P) (g := g) hF hP12 jf (by omega)) (cwV 1 Fx.2.2.2.2 gX0_master_X0_needFerry rfl rfl rfl (by decide +kernel) ⟨Nat.le_of_ble_eq_true rfl, Nat.le_of_ble_eq_true rfl⟩) BW.bl (va_recv hK hP (ci := 0) (q0 := 0) rfl rfl) (BW.at hP hK hE hS) rfl hl.1 rfl (Nat.le_of_ble_eq_true rfl) dX0_master_2 ⟨Nat.zero_le _, Nat.zero_le _⟩ ?_
  refine lv_aload_n hx hb dX0_master_5 rfl (lv_at hl 0 rfl) ?_
  refine lv_iload_n hx hb dX0_master_6 rfl (lv_at hl 1 rfl) ?_
  refine r_callR (rest := []) Fx (m_X0_findMaster l (D := D) (ci := ci) (cz := cz) (cj := cj) (q := q) (F := F) (P := P) (g := g) hF hP12 jf (by omega)) (cwV 1 Fx.2.2.2.2 gX0_master_X0_findMaster rfl rfl rfl (by decide +kernel) ⟨Nat.le_of_ble_eq_true rfl, Nat.le_of_ble_eq_true rfl⟩) BW.bl (va_recv hK hP (ci := 0) (q0 := 0) rfl rfl) (BW.at hP hK hE hS) rfl hl.1 rfl (Nat.le_of_ble_eq_true rfl) dX0_master_7 ⟨Nat.zero_le _, Nat.zero_le _⟩ ?_
  refine lv_istore_n (lv' := [(2, .int (sMas g P jf)), (0, .ref (q 0)), (1, .int (nI jf))]) hx hb dX0_master_10 rfl hl (by decide) rfl (fun ls hl => ?_)
  refine lv_iload_n hx hb dX0_master_11 rfl (lv_at hl 0 rfl) ?_
  refine lv_iconst (v := -1) hx hb dX0_master_12 (by decide) ?_
  refine lv_icmp_ne (tgt := 26) hx hb dX0_master_13 (by decide) (fun h4 => ?_) (fun h4 => ?_)
  · refine lv_iload_n hx hb dX0_master_26 rfl (lv_at hl 0 rfl) ?_
    exact p_iret hx hb hr hlocks hS (hP) (by simp [k_master, inR, inB, h1, h2, h3, h4]) (by simp [k_master, h1, h2, h3, h4]) (Nat.zero_le _) (Nat.zero_le _) dX0_master_27
  · exact x0_throw (cls := xIS) (text := "this ferry has no master") Fx hl0 hE hS hex hlocks (by decide +kernel) (by decide +kernel) (by decide +kernel) (by decide +kernel) (by decide +kernel) hl.1 dX0_master_16 dX0_master_19 dX0_master_20 dX0_master_22 dX0_master_25 (Nat.le_of_ble_eq_true rfl) (Nat.le_of_ble_eq_true rfl) (Nat.le_of_ble_eq_true rfl) (Nat.le_of_ble_eq_true rfl) (fun t ht => ⟨⟨1, (by simp [k_master, inR, inB, h1, h2, h3, h4]), rfl⟩, ht⟩) nin (Nat.le_refl _) (Nat.le_refl _)
set_option maxHeartbeats 4000000 in
set_option maxRecDepth 100000 in
theorem m_X0_hasMaster (l : Launch) (hl0 : l.stackTraces = false) {D : va_G} {ci cz : ClassId} {cj : ClassId × ClassId} {q : Nat → Nat} {F P : Nat} {g : Nat → Nat → Int32} (hq : DQ q 8) (hF : F ≤ 6) (hP12 : P ≤ 12) (a : Int32) : vx_Met l yX0_hasMaster wsX0_hasMaster ({ frames := 7, cells := 1, slots := 6, locals := 103 } : Room) (va_Pc [.ref (q 0), .int a] (B0 D ci cz cj q F P g)) (PQ (k_1 F a) (some (.int (bI (decide (sMas g P (ix a) ≠ -1))))) (fun H => va_P D vwCl (w0 ci cz q F P g) H) (aw q 8)) (PX (k_1 F a) [xIO]) 1 6 (aw q 8) := by
  refine vx_ofX (cc := cX0_hasMaster) (maxL := 2) (ret := (some .boolean)) (by decide) rfl (Nat.le_of_ble_eq_true rfl) ?_
  intro pg en s m bl mt cd ls Fx hr hlocks hex hB hl
  obtain ⟨hP, hK, hE⟩ := hB
  have hl : lv_has ls 2 [(0, .ref (q 0)), (1, .int a)] := hl
  have Fx : CallFix pg m cd cX0_hasMaster 2 s _ wsX0_hasMaster RX0 := Fx
  have hx := Fx.1
  have hb := Fx.2.1
  have hS : va_S (aw q 8) s.heap s.heap [] := va_S.rf
  have hP : va_P D vwCl (w0 ci cz q F P g) s.heap := hP
  refine lv_aload_n hx hb dX0_hasMaster_0 rfl (lv_at hl 0 rfl) ?_
  refine lv_iload_n hx hb dX0_hasMaster_1 rfl (lv_at hl 1 rfl) ?_
  by_cases h1 : inR a F
  rotate_left
  · refine r_callX (rest := []) Fx (m_X0_needFerry_x l hl0 (D := D) (ci := ci) (cz := cz) (cj := cj) (q := q) (F := F) (P := P) (g := g) hF hP12 a h1) (cwV 1 Fx.2.2.2.2 gX0_hasMaster_X0_needFerry rfl rfl rfl (by decide +kernel) ⟨Nat.le_of_ble_eq_true rfl, Nat.le_of_ble_eq_true rfl⟩) BW.bl (va_recv hK hP (ci := 0) (q0 := 0) rfl rfl) (BW.at hP hK hE hS) rfl hl.1 rfl (Nat.le_of_ble_eq_true rfl) dX0_hasMaster_2 ⟨Nat.le_of_ble_eq_true rfl, Nat.le_of_ble_eq_true rfl⟩ (fun ce q9 H1 hh hce hcv hcl => ?_)
    exact p_out hex hlocks hh hce hcv hcl ⟨0, (by simp [k_1, bI, inR, inB, h1]), rfl⟩ (Nat.le_refl _) (Nat.le_refl _)
  obtain ⟨ja, h2, rfl⟩ := inR_of h1 (by omega)
  have h3 : ix (nI ja) = ja := ix_nI (by omega)
  refine r_callR (rest := []) Fx (m_X0_needFerry l (D := D) (ci := ci) (cz := cz) (cj := cj) (q := q) (F := F) (P := P) (g := g) hF hP12 ja (by omega)) (cwV 1 Fx.2.2.2.2 gX0_hasMaster_X0_needFerry rfl rfl rfl (by decide +kernel) ⟨Nat.le_of_ble_eq_true rfl, Nat.le_of_ble_eq_true rfl⟩) BW.bl (va_recv hK hP (ci := 0) (q0 := 0) rfl rfl) (BW.at hP hK hE hS) rfl hl.1 rfl (Nat.le_of_ble_eq_true rfl) dX0_hasMaster_2 ⟨Nat.zero_le _, Nat.zero_le _⟩ ?_
  refine lv_aload_n hx hb dX0_hasMaster_5 rfl (lv_at hl 0 rfl) ?_
  refine lv_iload_n hx hb dX0_hasMaster_6 rfl (lv_at hl 1 rfl) ?_
  refine r_callR (rest := []) Fx (m_X0_findMaster l (D := D) (ci := ci) (cz := cz) (cj := cj) (q := q) (F := F) (P := P) (g := g) hF hP12 ja (by omega)) (cwV 1 Fx.2.2.2.2 gX0_hasMaster_X0_findMaster rfl rfl rfl (by decide +kernel) ⟨Nat.le_of_ble_eq_true rfl, Nat.le_of_ble_eq_true rfl⟩) BW.bl (va_recv hK hP (ci := 0) (q0 := 0) rfl rfl) (BW.at hP hK hE hS) rfl hl.1 rfl (Nat.le_of_ble_eq_true rfl) dX0_hasMaster_7 ⟨Nat.zero_le _, Nat.zero_le _⟩ ?_
  refine lv_iconst (v := -1) hx hb dX0_hasMaster_10 (by decide) ?_
  refine lv_icmp_eq (tgt := 18) hx hb dX0_hasMaster_11 (by decide) (fun h4 => ?_) (fun h4 => ?_)
  · refine lv_iconst (v := nI 0) hx hb dX0_hasMaster_18 (by decide) ?_
    exact p_zret hx hb hr hlocks hS (hP) (by simp [k_1, bI, inR, inB, h1, h2, h3, h4]) (by simp [k_1, bI, h1, h2, h3, h4]) (Nat.zero_le _) (Nat.zero_le _) dX0_hasMaster_19
  · refine lv_iconst (v := nI 1) hx hb dX0_hasMaster_14 (by decide) ?_
    refine lv_goto (tgt := 19) hx hb dX0_hasMaster_15 (by decide) ?_
    exact p_zret hx hb hr hlocks hS (hP) (by simp [k_1, bI, inR, inB, h1, h2, h3, h4]) (by simp [k_1, bI, h1, h2, h3, h4]) (Nat.zero_le _) (Nat.zero_le _) dX0_hasMaster_19
set_option maxHeartbeats 4000000 in
set_option maxRecDepth 100000 in
theorem m_X0_shareValue (l : Launch) (hl0 : l.stackTraces = false) {D : va_G} {ci cz : ClassId} {cj : ClassId × ClassId} {q : Nat → Nat} {F P : Nat} {g : Nat → Nat → Int32} (hq : DQ q 8) (hF : F ≤ 6) (hP12 : P ≤ 12) (f : Int32) (w : Int32) : vx_Met l yX0_shareValue wsX0_shareValue ({ frames := 7, cells := 1, slots := 6, locals := 103 } : Room) (va_Pc [.ref (q 0), .int f, .int w] (B0 D ci cz cj q F P g)) (PQ (k_fw F f w) (some (.int (sWor g (ix f) (ix w)))) (fun H => va_P D vwCl (w0 ci cz q F P g) H) (aw q 8)) (PX (k_fw F f w) [xIO]) 1 6 (aw q 8) := by
  refine vx_ofX (cc := cX0_shareValue) (maxL := 3) (ret := (some .int)) (by decide) rfl (Nat.le_of_ble_eq_true rfl) ?_
  intro pg en s m bl mt cd ls Fx hr hlocks hex hB hl
  obtain ⟨hP, hK, hE⟩ := hB
  have hl : lv_has ls 3 [(0, .ref (q 0)), (1, .int f), (2, .int w)] := hl
  have Fx : CallFix pg m cd cX0_shareValue 3 s _ wsX0_shareValue RX0 := Fx
  have hx := Fx.1
  have hb := Fx.2.1
  have hS : va_S (aw q 8) s.heap s.heap [] := va_S.rf
  have hP : va_P D vwCl (w0 ci cz q F P g) s.heap := hP
  refine lv_aload_n hx hb dX0_shareValue_0 rfl (lv_at hl 0 rfl) ?_
  refine lv_iload_n hx hb dX0_shareValue_1 rfl (lv_at hl 1 rfl) ?_
  by_cases h1 : inR f F
  rotate_left
  · refine r_callX (rest := []) Fx (m_X0_needFerry_x l hl0 (D := D) (ci := ci) (cz := cz) (cj := cj) (q := q) (F := F) (P := P) (g := g) hF hP12 f h1) (cwV 1 Fx.2.2.2.2 gX0_shareValue_X0_needFerry rfl rfl rfl (by decide +kernel) ⟨Nat.le_of_ble_eq_true rfl, Nat.le_of_ble_eq_true rfl⟩) BW.bl (va_recv hK hP (ci := 0) (q0 := 0) rfl rfl) (BW.at hP hK hE hS) rfl hl.1 rfl (Nat.le_of_ble_eq_true rfl) dX0_shareValue_2 ⟨Nat.le_of_ble_eq_true rfl, Nat.le_of_ble_eq_true rfl⟩ (fun ce q9 H1 hh hce hcv hcl => ?_)
    exact p_out hex hlocks hh hce hcv hcl ⟨0, (by simp [k_fw, inR, inB, h1]), rfl⟩ (Nat.le_refl _) (Nat.le_refl _)
  obtain ⟨jf, h2, rfl⟩ := inR_of h1 (by omega)
  have h3 : ix (nI jf) = jf := ix_nI (by omega)
  refine r_callR (rest := []) Fx (m_X0_needFerry l (D := D) (ci := ci) (cz := cz) (cj := cj) (q := q) (F := F) (P := P) (g := g) hF hP12 jf (by omega)) (cwV 1 Fx.2.2.2.2 gX0_shareValue_X0_needFerry rfl rfl rfl (by decide +kernel) ⟨Nat.le_of_ble_eq_true rfl, Nat.le_of_ble_eq_true rfl⟩) BW.bl (va_recv hK hP (ci := 0) (q0 := 0) rfl rfl) (BW.at hP hK hE hS) rfl hl.1 rfl (Nat.le_of_ble_eq_true rfl) dX0_shareValue_2 ⟨Nat.zero_le _, Nat.zero_le _⟩ ?_
  refine lv_iload_n hx hb dX0_shareValue_5 rfl (lv_at hl 2 rfl) ?_
  by_cases h4 : inR w 4
  rotate_left
  · refine r_callXS (rest := []) Fx (m_X0_needWatch_x l hl0 (D := D) (ci := ci) (cz := cz) (cj := cj) (q := q) (F := F) (P := P) (g := g) hF hP12 w h4) (va_cwS 1 Fx.2.2.2.2 gX0_shareValue_X0_needWatch rfl rfl rfl (by decide +kernel) ⟨Nat.le_of_ble_eq_true rfl, Nat.le_of_ble_eq_true rfl⟩) BW.bl (BW.at hP hK hE hS) rfl hl.1 rfl (Nat.le_of_ble_eq_true rfl) dX0_shareValue_6 ⟨Nat.le_of_ble_eq_true rfl, Nat.le_of_ble_eq_true rfl⟩ (fun ce q9 H1 hh hce hcv hcl => ?_)
    exact p_out hex hlocks hh hce hcv hcl ⟨0, (by simp [k_fw, inR, inB, h1, h2, h3, h4]), rfl⟩ (Nat.le_refl _) (Nat.le_refl _)
  obtain ⟨jw, h5, rfl⟩ := inR_of h4 (by omega)
  have h6 : ix (nI jw) = jw := ix_nI (by omega)
  refine r_callRS (rest := []) Fx (m_X0_needWatch l (D := D) (ci := ci) (cz := cz) (cj := cj) (q := q) (F := F) (P := P) (g := g) hF hP12 jw (by omega)) (va_cwS 1 Fx.2.2.2.2 gX0_shareValue_X0_needWatch rfl rfl rfl (by decide +kernel) ⟨Nat.le_of_ble_eq_true rfl, Nat.le_of_ble_eq_true rfl⟩) BW.bl (BW.at hP hK hE hS) rfl hl.1 rfl (Nat.le_of_ble_eq_true rfl) dX0_shareValue_6 ⟨Nat.zero_le _, Nat.zero_le _⟩ ?_
  refine lv_aload_n hx hb dX0_shareValue_9 rfl (lv_at hl 0 rfl) ?_
  refine lv_iload_n hx hb dX0_shareValue_10 rfl (lv_at hl 1 rfl) ?_
  refine lv_iload_n hx hb dX0_shareValue_11 rfl (lv_at hl 2 rfl) ?_
  refine r_callR (rest := []) Fx (m_X0_worth l (D := D) (ci := ci) (cz := cz) (cj := cj) (q := q) (F := F) (P := P) (g := g) hF hP12 jf jw (by omega) (by omega)) (cwV 2 Fx.2.2.2.2 gX0_shareValue_X0_worth rfl rfl rfl (by decide +kernel) ⟨Nat.le_of_ble_eq_true rfl, Nat.le_of_ble_eq_true rfl⟩) BW.bl (va_recv hK hP (ci := 0) (q0 := 0) rfl rfl) (BW.at hP hK hE hS) rfl hl.1 rfl (Nat.le_of_ble_eq_true rfl) dX0_shareValue_12 ⟨Nat.zero_le _, Nat.zero_le _⟩ ?_
  exact p_iret hx hb hr hlocks hS (hP) (by simp [k_fw, inR, inB, h1, h2, h3, h4, h5, h6]) (by simp [k_fw, h1, h2, h3, h4, h5, h6]) (Nat.zero_le _) (Nat.zero_le _) dX0_shareValue_15

set_option maxHeartbeats 4000000 in
set_option maxRecDepth 100000 in
theorem m_X0_isAlive (l : Launch) (hl0 : l.stackTraces = false) {D : va_G} {ci cz : ClassId} {cj : ClassId × ClassId} {q : Nat → Nat} {F P : Nat} {g : Nat → Nat → Int32} (hq : DQ q 8) (hF : F ≤ 6) (hP12 : P ≤ 12) (a : Int32) : vx_Met l yX0_isAlive wsX0_isAlive ({ frames := 7, cells := 1, slots := 6, locals := 103 } : Room) (va_Pc [.ref (q 0), .int a] (B0 D ci cz cj q F P g)) (PQ (k_1 P a) (some (.int (bI (lv g (ix a))))) (fun H => va_P D vwCl (w0 ci cz q F P g) H) (aw q 8)) (PX (k_1 P a) [xIO]) 1 6 (aw q 8) := by
  refine vx_ofX (cc := cX0_isAlive) (maxL := 2) (ret := (some .boolean)) (by decide) rfl (Nat.le_of_ble_eq_true rfl) ?_
  intro pg en s m bl mt cd ls Fx hr hlocks hex hB hl
  obtain ⟨hP, hK, hE⟩ := hB
  have hl : lv_has ls 2 [(0, .ref (q 0)), (1, .int a)] := hl
  have Fx : CallFix pg m cd cX0_isAlive 2 s _ wsX0_isAlive RX0 := Fx
  have hx := Fx.1
  have hb := Fx.2.1
  have hin : ∀ w ∈ wsX00, w ∈ wsX0_isAlive := by decide +kernel
  have hS : va_S (aw q 8) s.heap s.heap [] := va_S.rf
  have hP : va_P D vwCl (w0 ci cz q F P g) s.heap := hP
  refine lv_aload_n hx hb dX0_isAlive_0 rfl (lv_at hl 0 rfl) ?_
  refine lv_iload_n hx hb dX0_isAlive_1 rfl (lv_at hl 1 rfl) ?_
  by_cases h1 : inR a P
  rotate_left
  · refine r_callX (rest := []) Fx (m_X0_needPerson_x l hl0 (D := D) (ci := ci) (cz := cz) (cj := cj) (q := q) (F := F) (P := P) (g := g) hF hP12 a h1) (cwV 1 Fx.2.2.2.2 gX0_isAlive_X0_needPerson rfl rfl rfl (by decide +kernel) ⟨Nat.le_of_ble_eq_true rfl, Nat.le_of_ble_eq_true rfl⟩) BW.bl (va_recv hK hP (ci := 0) (q0 := 0) rfl rfl) (BW.at hP hK hE hS) rfl hl.1 rfl (Nat.le_of_ble_eq_true rfl) dX0_isAlive_2 ⟨Nat.le_of_ble_eq_true rfl, Nat.le_of_ble_eq_true rfl⟩ (fun ce q9 H1 hh hce hcv hcl => ?_)
    exact p_out hex hlocks hh hce hcv hcl ⟨0, (by simp [k_1, inR, inB, h1]), rfl⟩ (Nat.le_refl _) (Nat.le_refl _)
  obtain ⟨ja, h2, rfl⟩ := inR_of h1 (by omega)
  have h3 : ix (nI ja) = ja := ix_nI (by omega)
  refine r_callR (rest := []) Fx (m_X0_needPerson l (D := D) (ci := ci) (cz := cz) (cj := cj) (q := q) (F := F) (P := P) (g := g) hF hP12 ja (by omega)) (cwV 1 Fx.2.2.2.2 gX0_isAlive_X0_needPerson rfl rfl rfl (by decide +kernel) ⟨Nat.le_of_ble_eq_true rfl, Nat.le_of_ble_eq_true rfl⟩) BW.bl (va_recv hK hP (ci := 0) (q0 := 0) rfl rfl) (BW.at hP hK hE hS) rfl hl.1 rfl (Nat.le_of_ble_eq_true rfl) dX0_isAlive_2 ⟨Nat.zero_le _, Nat.zero_le _⟩ ?_
  refine lv_aload_n hx hb dX0_isAlive_5 rfl (lv_at hl 0 rfl) ?_
  refine r_get Fx hin hK hP 0 rfl 5 (by decide) (by decide +kernel) rfl rfl dX0_isAlive_6 ?_
  refine lv_iload_n hx hb dX0_isAlive_9 rfl (lv_at hl 1 rfl) ?_
  refine r_alive Fx hK hP (i := ja) (by omega) (by omega) dX0_isAlive_10 ?_
  exact p_zret hx hb hr hlocks hS (hP) (by simp [k_1, inR, inB, h1, h2, h3]) (by simp [k_1, h1, h2, h3]) (Nat.zero_le _) (Nat.zero_le _) dX0_isAlive_11
set_option maxHeartbeats 4000000 in
set_option maxRecDepth 100000 in
theorem m_X0_coins (l : Launch) (hl0 : l.stackTraces = false) {D : va_G} {ci cz : ClassId} {cj : ClassId × ClassId} {q : Nat → Nat} {F P : Nat} {g : Nat → Nat → Int32} (hq : DQ q 8) (hF : F ≤ 6) (hP12 : P ≤ 12) (a : Int32) : vx_Met l yX0_coins wsX0_coins ({ frames := 7, cells := 1, slots := 6, locals := 103 } : Room) (va_Pc [.ref (q 0), .int a] (B0 D ci cz cj q F P g)) (PQ (k_1 P a) (some (.int (g 4 (ix a)))) (fun H => va_P D vwCl (w0 ci cz q F P g) H) (aw q 8)) (PX (k_1 P a) [xIO]) 1 6 (aw q 8) := by
  refine vx_ofX (cc := cX0_coins) (maxL := 2) (ret := (some .int)) (by decide) rfl (Nat.le_of_ble_eq_true rfl) ?_
  intro pg en s m bl mt cd ls Fx hr hlocks hex hB hl
  obtain ⟨hP, hK, hE⟩ := hB
  have hl : lv_has ls 2 [(0, .ref (q 0)), (1, .int a)] := hl
  have Fx : CallFix pg m cd cX0_coins 2 s _ wsX0_coins RX0 := Fx
  have hx := Fx.1
  have hb := Fx.2.1
  have hin : ∀ w ∈ wsX00, w ∈ wsX0_coins := by decide +kernel
  have hS : va_S (aw q 8) s.heap s.heap [] := va_S.rf
  have hP : va_P D vwCl (w0 ci cz q F P g) s.heap := hP
  refine lv_aload_n hx hb dX0_coins_0 rfl (lv_at hl 0 rfl) ?_
  refine lv_iload_n hx hb dX0_coins_1 rfl (lv_at hl 1 rfl) ?_
  by_cases h1 : inR a P
  rotate_left
  · refine r_callX (rest := []) Fx (m_X0_needPerson_x l hl0 (D := D) (ci := ci) (cz := cz) (cj := cj) (q := q) (F := F) (P := P) (g := g) hF hP12 a h1) (cwV 1 Fx.2.2.2.2 gX0_coins_X0_needPerson rfl rfl rfl (by decide +kernel) ⟨Nat.le_of_ble_eq_true rfl, Nat.le_of_ble_eq_true rfl⟩) BW.bl (va_recv hK hP (ci := 0) (q0 := 0) rfl rfl) (BW.at hP hK hE hS) rfl hl.1 rfl (Nat.le_of_ble_eq_true rfl) dX0_coins_2 ⟨Nat.le_of_ble_eq_true rfl, Nat.le_of_ble_eq_true rfl⟩ (fun ce q9 H1 hh hce hcv hcl => ?_)
    exact p_out hex hlocks hh hce hcv hcl ⟨0, (by simp [k_1, inR, inB, h1]), rfl⟩ (Nat.le_refl _) (Nat.le_refl _)
  obtain ⟨ja, h2, rfl⟩ := inR_of h1 (by omega)
  have h3 : ix (nI ja) = ja := ix_nI (by omega)
  refine r_callR (rest := []) Fx (m_X0_needPerson l (D := D) (ci := ci) (cz := cz) (cj := cj) (q := q) (F := F) (P := P) (g := g) hF hP12 ja (by omega)) (cwV 1 Fx.2.2.2.2 gX0_coins_X0_needPerson rfl rfl rfl (by decide +kernel) ⟨Nat.le_of_ble_eq_true rfl, Nat.le_of_ble_eq_true rfl⟩) BW.bl (va_recv hK hP (ci := 0) (q0 := 0) rfl rfl) (BW.at hP hK hE hS) rfl hl.1 rfl (Nat.le_of_ble_eq_true rfl) dX0_coins_2 ⟨Nat.zero_le _, Nat.zero_le _⟩ ?_
  refine lv_aload_n hx hb dX0_coins_5 rfl (lv_at hl 0 rfl) ?_
  refine r_get Fx hin hK hP 0 rfl 6 (by decide) (by decide +kernel) rfl rfl dX0_coins_6 ?_
  refine lv_iload_n hx hb dX0_coins_9 rfl (lv_at hl 1 rfl) ?_
  refine r_iald Fx hK hP 5 0 rfl rfl (i := ja) (by omega) (by decide) dX0_coins_10 ?_
  exact p_iret hx hb hr hlocks hS (hP) (by simp [k_1, inR, inB, h1, h2, h3]) (by simp [k_1, h1, h2, h3]) (Nat.zero_le _) (Nat.zero_le _) dX0_coins_11
set_option maxHeartbeats 4000000 in
set_option maxRecDepth 100000 in
theorem m_X0_earned (l : Launch) (hl0 : l.stackTraces = false) {D : va_G} {ci cz : ClassId} {cj : ClassId × ClassId} {q : Nat → Nat} {F P : Nat} {g : Nat → Nat → Int32} (hq : DQ q 8) (hF : F ≤ 6) (hP12 : P ≤ 12) (a : Int32) : vx_Met l yX0_earned wsX0_earned ({ frames := 7, cells := 1, slots := 6, locals := 103 } : Room) (va_Pc [.ref (q 0), .int a] (B0 D ci cz cj q F P g)) (PQ (k_1 P a) (some (.int (g 5 (ix a)))) (fun H => va_P D vwCl (w0 ci cz q F P g) H) (aw q 8)) (PX (k_1 P a) [xIO]) 1 6 (aw q 8) := by
  refine vx_ofX (cc := cX0_earned) (maxL := 2) (ret := (some .int)) (by decide) rfl (Nat.le_of_ble_eq_true rfl) ?_
  intro pg en s m bl mt cd ls Fx hr hlocks hex hB hl
  obtain ⟨hP, hK, hE⟩ := hB
  have hl : lv_has ls 2 [(0, .ref (q 0)), (1, .int a)] := hl
  have Fx : CallFix pg m cd cX0_earned 2 s _ wsX0_earned RX0 := Fx
  have hx := Fx.1
  have hb := Fx.2.1
  have hin : ∀ w ∈ wsX00, w ∈ wsX0_earned := by decide +kernel
  have hS : va_S (aw q 8) s.heap s.heap [] := va_S.rf
  have hP : va_P D vwCl (w0 ci cz q F P g) s.heap := hP
  refine lv_aload_n hx hb dX0_earned_0 rfl (lv_at hl 0 rfl) ?_
  refine lv_iload_n hx hb dX0_earned_1 rfl (lv_at hl 1 rfl) ?_
  by_cases h1 : inR a P
  rotate_left
  · refine r_callX (rest := []) Fx (m_X0_needPerson_x l hl0 (D := D) (ci := ci) (cz := cz) (cj := cj) (q := q) (F := F) (P := P) (g := g) hF hP12 a h1) (cwV 1 Fx.2.2.2.2 gX0_earned_X0_needPerson rfl rfl rfl (by decide +kernel) ⟨Nat.le_of_ble_eq_true rfl, Nat.le_of_ble_eq_true rfl⟩) BW.bl (va_recv hK hP (ci := 0) (q0 := 0) rfl rfl) (BW.at hP hK hE hS) rfl hl.1 rfl (Nat.le_of_ble_eq_true rfl) dX0_earned_2 ⟨Nat.le_of_ble_eq_true rfl, Nat.le_of_ble_eq_true rfl⟩ (fun ce q9 H1 hh hce hcv hcl => ?_)
    exact p_out hex hlocks hh hce hcv hcl ⟨0, (by simp [k_1, inR, inB, h1]), rfl⟩ (Nat.le_refl _) (Nat.le_refl _)
  obtain ⟨ja, h2, rfl⟩ := inR_of h1 (by omega)
  have h3 : ix (nI ja) = ja := ix_nI (by omega)
  refine r_callR (rest := []) Fx (m_X0_needPerson l (D := D) (ci := ci) (cz := cz) (cj := cj) (q := q) (F := F) (P := P) (g := g) hF hP12 ja (by omega)) (cwV 1 Fx.2.2.2.2 gX0_earned_X0_needPerson rfl rfl rfl (by decide +kernel) ⟨Nat.le_of_ble_eq_true rfl, Nat.le_of_ble_eq_true rfl⟩) BW.bl (va_recv hK hP (ci := 0) (q0 := 0) rfl rfl) (BW.at hP hK hE hS) rfl hl.1 rfl (Nat.le_of_ble_eq_true rfl) dX0_earned_2 ⟨Nat.zero_le _, Nat.zero_le _⟩ ?_
  refine lv_aload_n hx hb dX0_earned_5 rfl (lv_at hl 0 rfl) ?_
  refine r_get Fx hin hK hP 0 rfl 7 (by decide) (by decide +kernel) rfl rfl dX0_earned_6 ?_
  refine lv_iload_n hx hb dX0_earned_9 rfl (lv_at hl 1 rfl) ?_
  refine r_iald Fx hK hP 6 0 rfl rfl (i := ja) (by omega) (by decide) dX0_earned_10 ?_
  exact p_iret hx hb hr hlocks hS (hP) (by simp [k_1, inR, inB, h1, h2, h3]) (by simp [k_1, h1, h2, h3]) (Nat.zero_le _) (Nat.zero_le _) dX0_earned_11
set_option maxHeartbeats 4000000 in
set_option maxRecDepth 100000 in
theorem m_X0_allShares (l : Launch) (hl0 : l.stackTraces = false) {D : va_G} {ci cz : ClassId} {cj : ClassId × ClassId} {q : Nat → Nat} {F P : Nat} {g : Nat → Nat → Int32} (hq : DQ q 8) (hF : F ≤ 6) (hP12 : P ≤ 12) (a : Int32) : vx_Met l yX0_allShares wsX0_allShares ({ frames := 7, cells := 1, slots := 6, locals := 103 } : Room) (va_Pc [.ref (q 0), .int a] (B0 D ci cz cj q F P g)) (PQ (k_1 P a) (some (.int (sAll g F (ix a)))) (fun H => va_P D vwCl (w0 ci cz q F P g) H) (aw q 8)) (PX (k_1 P a) [xIO]) 1 6 (aw q 8) := by
  refine vx_ofX (cc := cX0_allShares) (maxL := 2) (ret := (some .int)) (by decide) rfl (Nat.le_of_ble_eq_true rfl) ?_
  intro pg en s m bl mt cd ls Fx hr hlocks hex hB hl
  obtain ⟨hP, hK, hE⟩ := hB
  have hl : lv_has ls 2 [(0, .ref (q 0)), (1, .int a)] := hl
  have Fx : CallFix pg m cd cX0_allShares 2 s _ wsX0_allShares RX0 := Fx
  have hx := Fx.1
  have hb := Fx.2.1
  have hS : va_S (aw q 8) s.heap s.heap [] := va_S.rf
  have hP : va_P D vwCl (w0 ci cz q F P g) s.heap := hP
  refine lv_aload_n hx hb dX0_allShares_0 rfl (lv_at hl 0 rfl) ?_
  refine lv_iload_n hx hb dX0_allShares_1 rfl (lv_at hl 1 rfl) ?_
  by_cases h1 : inR a P
  rotate_left
  · refine r_callX (rest := []) Fx (m_X0_needPerson_x l hl0 (D := D) (ci := ci) (cz := cz) (cj := cj) (q := q) (F := F) (P := P) (g := g) hF hP12 a h1) (cwV 1 Fx.2.2.2.2 gX0_allShares_X0_needPerson rfl rfl rfl (by decide +kernel) ⟨Nat.le_of_ble_eq_true rfl, Nat.le_of_ble_eq_true rfl⟩) BW.bl (va_recv hK hP (ci := 0) (q0 := 0) rfl rfl) (BW.at hP hK hE hS) rfl hl.1 rfl (Nat.le_of_ble_eq_true rfl) dX0_allShares_2 ⟨Nat.le_of_ble_eq_true rfl, Nat.le_of_ble_eq_true rfl⟩ (fun ce q9 H1 hh hce hcv hcl => ?_)
    exact p_out hex hlocks hh hce hcv hcl ⟨0, (by simp [k_1, inR, inB, h1]), rfl⟩ (Nat.le_refl _) (Nat.le_refl _)
  obtain ⟨ja, h2, rfl⟩ := inR_of h1 (by omega)
  have h3 : ix (nI ja) = ja := ix_nI (by omega)
  refine r_callR (rest := []) Fx (m_X0_needPerson l (D := D) (ci := ci) (cz := cz) (cj := cj) (q := q) (F := F) (P := P) (g := g) hF hP12 ja (by omega)) (cwV 1 Fx.2.2.2.2 gX0_allShares_X0_needPerson rfl rfl rfl (by decide +kernel) ⟨Nat.le_of_ble_eq_true rfl, Nat.le_of_ble_eq_true rfl⟩) BW.bl (va_recv hK hP (ci := 0) (q0 := 0) rfl rfl) (BW.at hP hK hE hS) rfl hl.1 rfl (Nat.le_of_ble_eq_true rfl) dX0_allShares_2 ⟨Nat.zero_le _, Nat.zero_le _⟩ ?_
  refine lv_aload_n hx hb dX0_allShares_5 rfl (lv_at hl 0 rfl) ?_
  refine lv_iload_n hx hb dX0_allShares_6 rfl (lv_at hl 1 rfl) ?_
  refine r_callR (rest := []) Fx (m_X0_countAllShares l (D := D) (ci := ci) (cz := cz) (cj := cj) (q := q) (F := F) (P := P) (g := g) hF hP12 ja (by omega)) (cwV 1 Fx.2.2.2.2 gX0_allShares_X0_countAllShares rfl rfl rfl (by decide +kernel) ⟨Nat.le_of_ble_eq_true rfl, Nat.le_of_ble_eq_true rfl⟩) BW.bl (va_recv hK hP (ci := 0) (q0 := 0) rfl rfl) (BW.at hP hK hE hS) rfl hl.1 rfl (Nat.le_of_ble_eq_true rfl) dX0_allShares_7 ⟨Nat.zero_le _, Nat.zero_le _⟩ ?_
  exact p_iret hx hb hr hlocks hS (hP) (by simp [k_1, inR, inB, h1, h2, h3]) (by simp [k_1, h1, h2, h3]) (Nat.zero_le _) (Nat.zero_le _) dX0_allShares_10
set_option maxHeartbeats 4000000 in
set_option maxRecDepth 100000 in
theorem m_X0_hasParent (l : Launch) (hl0 : l.stackTraces = false) {D : va_G} {ci cz : ClassId} {cj : ClassId × ClassId} {q : Nat → Nat} {F P : Nat} {g : Nat → Nat → Int32} (hq : DQ q 8) (hF : F ≤ 6) (hP12 : P ≤ 12) (a : Int32) : vx_Met l yX0_hasParent wsX0_hasParent ({ frames := 7, cells := 1, slots := 6, locals := 103 } : Room) (va_Pc [.ref (q 0), .int a] (B0 D ci cz cj q F P g)) (PQ (k_1 P a) (some (.int (bI (decide (g 6 (ix a) ≠ -1))))) (fun H => va_P D vwCl (w0 ci cz q F P g) H) (aw q 8)) (PX (k_1 P a) [xIO]) 1 6 (aw q 8) := by
  refine vx_ofX (cc := cX0_hasParent) (maxL := 2) (ret := (some .boolean)) (by decide) rfl (Nat.le_of_ble_eq_true rfl) ?_
  intro pg en s m bl mt cd ls Fx hr hlocks hex hB hl
  obtain ⟨hP, hK, hE⟩ := hB
  have hl : lv_has ls 2 [(0, .ref (q 0)), (1, .int a)] := hl
  have Fx : CallFix pg m cd cX0_hasParent 2 s _ wsX0_hasParent RX0 := Fx
  have hx := Fx.1
  have hb := Fx.2.1
  have hin : ∀ w ∈ wsX00, w ∈ wsX0_hasParent := by decide +kernel
  have hS : va_S (aw q 8) s.heap s.heap [] := va_S.rf
  have hP : va_P D vwCl (w0 ci cz q F P g) s.heap := hP
  refine lv_aload_n hx hb dX0_hasParent_0 rfl (lv_at hl 0 rfl) ?_
  refine lv_iload_n hx hb dX0_hasParent_1 rfl (lv_at hl 1 rfl) ?_
  by_cases h1 : inR a P
  rotate_left
  · refine r_callX (rest := []) Fx (m_X0_needPerson_x l hl0 (D := D) (ci := ci) (cz := cz) (cj := cj) (q := q) (F := F) (P := P) (g := g) hF hP12 a h1) (cwV 1 Fx.2.2.2.2 gX0_hasParent_X0_needPerson rfl rfl rfl (by decide +kernel) ⟨Nat.le_of_ble_eq_true rfl, Nat.le_of_ble_eq_true rfl⟩) BW.bl (va_recv hK hP (ci := 0) (q0 := 0) rfl rfl) (BW.at hP hK hE hS) rfl hl.1 rfl (Nat.le_of_ble_eq_true rfl) dX0_hasParent_2 ⟨Nat.le_of_ble_eq_true rfl, Nat.le_of_ble_eq_true rfl⟩ (fun ce q9 H1 hh hce hcv hcl => ?_)
    exact p_out hex hlocks hh hce hcv hcl ⟨0, (by simp [k_1, bI, inR, inB, h1]), rfl⟩ (Nat.le_refl _) (Nat.le_refl _)
  obtain ⟨ja, h2, rfl⟩ := inR_of h1 (by omega)
  have h3 : ix (nI ja) = ja := ix_nI (by omega)
  refine r_callR (rest := []) Fx (m_X0_needPerson l (D := D) (ci := ci) (cz := cz) (cj := cj) (q := q) (F := F) (P := P) (g := g) hF hP12 ja (by omega)) (cwV 1 Fx.2.2.2.2 gX0_hasParent_X0_needPerson rfl rfl rfl (by decide +kernel) ⟨Nat.le_of_ble_eq_true rfl, Nat.le_of_ble_eq_true rfl⟩) BW.bl (va_recv hK hP (ci := 0) (q0 := 0) rfl rfl) (BW.at hP hK hE hS) rfl hl.1 rfl (Nat.le_of_ble_eq_true rfl) dX0_hasParent_2 ⟨Nat.zero_le _, Nat.zero_le _⟩ ?_
  refine lv_aload_n hx hb dX0_hasParent_5 rfl (lv_at hl 0 rfl) ?_
  refine r_get Fx hin hK hP 0 rfl 8 (by decide) (by decide +kernel) rfl rfl dX0_hasParent_6 ?_
  refine lv_iload_n hx hb dX0_hasParent_9 rfl (lv_at hl 1 rfl) ?_
  refine r_iald Fx hK hP 7 0 rfl rfl (i := ja) (by omega) (by decide) dX0_hasParent_10 ?_
  refine lv_iconst (v := -1) hx hb dX0_hasParent_11 (by decide) ?_
  refine lv_icmp_eq (tgt := 19) hx hb dX0_hasParent_12 (by decide) (fun h4 => ?_) (fun h4 => ?_)
  · refine lv_iconst (v := nI 0) hx hb dX0_hasParent_19 (by decide) ?_
    exact p_zret hx hb hr hlocks hS (hP) (by simp [k_1, bI, inR, inB, h1, h2, h3, h4]) (by simp [k_1, bI, h1, h2, h3, h4]) (Nat.zero_le _) (Nat.zero_le _) dX0_hasParent_20
  · refine lv_iconst (v := nI 1) hx hb dX0_hasParent_15 (by decide) ?_
    refine lv_goto (tgt := 20) hx hb dX0_hasParent_16 (by decide) ?_
    exact p_zret hx hb hr hlocks hS (hP) (by simp [k_1, bI, inR, inB, h1, h2, h3, h4]) (by simp [k_1, bI, h1, h2, h3, h4]) (Nat.zero_le _) (Nat.zero_le _) dX0_hasParent_20
set_option maxHeartbeats 4000000 in
set_option maxRecDepth 100000 in
theorem m_X0_parent (l : Launch) (hl0 : l.stackTraces = false) {D : va_G} {ci cz : ClassId} {cj : ClassId × ClassId} {q : Nat → Nat} {F P : Nat} {g : Nat → Nat → Int32} (hq : DQ q 8) (hF : F ≤ 6) (hP12 : P ≤ 12) (a : Int32) : vx_Met l yX0_parent wsX0_parent ({ frames := 7, cells := 1, slots := 6, locals := 103 } : Room) (va_Pc [.ref (q 0), .int a] (B0 D ci cz cj q F P g)) (PQ (k_parent P g a) (some (.int (g 6 (ix a)))) (fun H => va_P D vwCl (w0 ci cz q F P g) H) (aw q 8)) (PX (k_parent P g a) [xIO, xIS]) 1 6 (aw q 8) := by
  refine vx_ofX (cc := cX0_parent) (maxL := 2) (ret := (some .int)) (by decide) rfl (Nat.le_of_ble_eq_true rfl) ?_
  intro pg en s m bl mt cd ls Fx hr hlocks hex hB hl
  obtain ⟨hP, hK, hE⟩ := hB
  have hl : lv_has ls 2 [(0, .ref (q 0)), (1, .int a)] := hl
  have Fx : CallFix pg m cd cX0_parent 2 s _ wsX0_parent RX0 := Fx
  have hx := Fx.1
  have hb := Fx.2.1
  have hin : ∀ w ∈ wsX00, w ∈ wsX0_parent := by decide +kernel
  have hS : va_S (aw q 8) s.heap s.heap [] := va_S.rf
  have hP : va_P D vwCl (w0 ci cz q F P g) s.heap := hP
  refine lv_aload_n hx hb dX0_parent_0 rfl (lv_at hl 0 rfl) ?_
  refine lv_iload_n hx hb dX0_parent_1 rfl (lv_at hl 1 rfl) ?_
  by_cases h1 : inR a P
  rotate_left
  · refine r_callX (rest := []) Fx (m_X0_needPerson_x l hl0 (D := D) (ci := ci) (cz := cz) (cj := cj) (q := q) (F := F) (P := P) (g := g) hF hP12 a h1) (cwV 1 Fx.2.2.2.2 gX0_parent_X0_needPerson rfl rfl rfl (by decide +kernel) ⟨Nat.le_of_ble_eq_true rfl, Nat.le_of_ble_eq_true rfl⟩) BW.bl (va_recv hK hP (ci := 0) (q0 := 0) rfl rfl) (BW.at hP hK hE hS) rfl hl.1 rfl (Nat.le_of_ble_eq_true rfl) dX0_parent_2 ⟨Nat.le_of_ble_eq_true rfl, Nat.le_of_ble_eq_true rfl⟩ (fun ce q9 H1 hh hce hcv hcl => ?_)
    exact p_out hex hlocks hh hce hcv hcl ⟨0, (by simp [k_parent, inR, inB, h1]), rfl⟩ (Nat.le_refl _) (Nat.le_refl _)
  obtain ⟨ja, h2, rfl⟩ := inR_of h1 (by omega)
  have h3 : ix (nI ja) = ja := ix_nI (by omega)
  refine r_callR (rest := []) Fx (m_X0_needPerson l (D := D) (ci := ci) (cz := cz) (cj := cj) (q := q) (F := F) (P := P) (g := g) hF hP12 ja (by omega)) (cwV 1 Fx.2.2.2.2 gX0_parent_X0_needPerson rfl rfl rfl (by decide +kernel) ⟨Nat.le_of_ble_eq_true rfl, Nat.le_of_ble_eq_true rfl⟩) BW.bl (va_recv hK hP (ci := 0) (q0 := 0) rfl rfl) (BW.at hP hK hE hS) rfl hl.1 rfl (Nat.le_of_ble_eq_true rfl) dX0_parent_2 ⟨Nat.zero_le _, Nat.zero_le _⟩ ?_
  refine lv_aload_n hx hb dX0_parent_5 rfl (lv_at hl 0 rfl) ?_
  refine r_get Fx hin hK hP 0 rfl 8 (by decide) (by decide +kernel) rfl rfl dX0_parent_6 ?_
  refine lv_iload_n hx hb dX0_parent_9 rfl (lv_at hl 1 rfl) ?_
  refine r_iald Fx hK hP 7 0 rfl rfl (i := ja) (by omega) (by decide) dX0_parent_10 ?_
  refine lv_iconst (v := -1) hx hb dX0_parent_11 (by decide) ?_
  refine lv_icmp_ne (tgt := 25) hx hb dX0_parent_12 (by decide) (fun h4 => ?_) (fun h4 => ?_)
  · refine lv_aload_n hx hb dX0_parent_25 rfl (lv_at hl 0 rfl) ?_
    refine r_get Fx hin hK hP 0 rfl 8 (by decide) (by decide +kernel) rfl rfl dX0_parent_26 ?_
    refine lv_iload_n hx hb dX0_parent_29 rfl (lv_at hl 1 rfl) ?_
    refine r_iald Fx hK hP 7 0 rfl rfl (i := ja) (by omega) (by decide) dX0_parent_30 ?_
    exact p_iret hx hb hr hlocks hS (hP) (by simp [k_parent, inR, inB, h1, h2, h3, h4]) (by simp [k_parent, h1, h2, h3, h4]) (Nat.zero_le _) (Nat.zero_le _) dX0_parent_31
  · exact x0_throw (cls := xIS) (text := "this person has no parent") Fx hl0 hE hS hex hlocks (by decide +kernel) (by decide +kernel) (by decide +kernel) (by decide +kernel) (by decide +kernel) hl.1 dX0_parent_15 dX0_parent_18 dX0_parent_19 dX0_parent_21 dX0_parent_24 (Nat.le_of_ble_eq_true rfl) (Nat.le_of_ble_eq_true rfl) (Nat.le_of_ble_eq_true rfl) (Nat.le_of_ble_eq_true rfl) (fun t ht => ⟨⟨1, (by simp [k_parent, inR, inB, h1, h2, h3, h4]), rfl⟩, ht⟩) nin (Nat.le_refl _) (Nat.le_refl _)
set_option maxHeartbeats 4000000 in
set_option maxRecDepth 100000 in
theorem m_X0_children (l : Launch) (hl0 : l.stackTraces = false) {D : va_G} {ci cz : ClassId} {cj : ClassId × ClassId} {q : Nat → Nat} {F P : Nat} {g : Nat → Nat → Int32} (hq : DQ q 8) (hF : F ≤ 6) (hP12 : P ≤ 12) (a : Int32) : vx_Met l yX0_children wsX0_children ({ frames := 7, cells := 1, slots := 6, locals := 103 } : Room) (va_Pc [.ref (q 0), .int a] (B0 D ci cz cj q F P g)) (PQ (k_1 P a) (some (.int (nI (sChi g P (ix a))))) (fun H => va_P D vwCl (w0 ci cz q F P g) H) (aw q 8)) (PX (k_1 P a) [xIO]) 1 6 (aw q 8) := by
  refine vx_ofX (cc := cX0_children) (maxL := 2) (ret := (some .int)) (by decide) rfl (Nat.le_of_ble_eq_true rfl) ?_
  intro pg en s m bl mt cd ls Fx hr hlocks hex hB hl
  obtain ⟨hP, hK, hE⟩ := hB
  have hl : lv_has ls 2 [(0, .ref (q 0)), (1, .int a)] := hl
  have Fx : CallFix pg m cd cX0_children 2 s _ wsX0_children RX0 := Fx
  have hx := Fx.1
  have hb := Fx.2.1
  have hS : va_S (aw q 8) s.heap s.heap [] := va_S.rf
  have hP : va_P D vwCl (w0 ci cz q F P g) s.heap := hP
  refine lv_aload_n hx hb dX0_children_0 rfl (lv_at hl 0 rfl) ?_
  refine lv_iload_n hx hb dX0_children_1 rfl (lv_at hl 1 rfl) ?_
  by_cases h1 : inR a P
  rotate_left
  · refine r_callX (rest := []) Fx (m_X0_needPerson_x l hl0 (D := D) (ci := ci) (cz := cz) (cj := cj) (q := q) (F := F) (P := P) (g := g) hF hP12 a h1) (cwV 1 Fx.2.2.2.2 gX0_children_X0_needPerson rfl rfl rfl (by decide +kernel) ⟨Nat.le_of_ble_eq_true rfl, Nat.le_of_ble_eq_true rfl⟩) BW.bl (va_recv hK hP (ci := 0) (q0 := 0) rfl rfl) (BW.at hP hK hE hS) rfl hl.1 rfl (Nat.le_of_ble_eq_true rfl) dX0_children_2 ⟨Nat.le_of_ble_eq_true rfl, Nat.le_of_ble_eq_true rfl⟩ (fun ce q9 H1 hh hce hcv hcl => ?_)
    exact p_out hex hlocks hh hce hcv hcl ⟨0, (by simp [k_1, inR, inB, h1]), rfl⟩ (Nat.le_refl _) (Nat.le_refl _)
  obtain ⟨ja, h2, rfl⟩ := inR_of h1 (by omega)
  have h3 : ix (nI ja) = ja := ix_nI (by omega)
  refine r_callR (rest := []) Fx (m_X0_needPerson l (D := D) (ci := ci) (cz := cz) (cj := cj) (q := q) (F := F) (P := P) (g := g) hF hP12 ja (by omega)) (cwV 1 Fx.2.2.2.2 gX0_children_X0_needPerson rfl rfl rfl (by decide +kernel) ⟨Nat.le_of_ble_eq_true rfl, Nat.le_of_ble_eq_true rfl⟩) BW.bl (va_recv hK hP (ci := 0) (q0 := 0) rfl rfl) (BW.at hP hK hE hS) rfl hl.1 rfl (Nat.le_of_ble_eq_true rfl) dX0_children_2 ⟨Nat.zero_le _, Nat.zero_le _⟩ ?_
  refine lv_aload_n hx hb dX0_children_5 rfl (lv_at hl 0 rfl) ?_
  refine lv_iload_n hx hb dX0_children_6 rfl (lv_at hl 1 rfl) ?_
  refine r_callR (rest := []) Fx (m_X0_countChildren l (D := D) (ci := ci) (cz := cz) (cj := cj) (q := q) (F := F) (P := P) (g := g) hF hP12 ja ) (cwV 1 Fx.2.2.2.2 gX0_children_X0_countChildren rfl rfl rfl (by decide +kernel) ⟨Nat.le_of_ble_eq_true rfl, Nat.le_of_ble_eq_true rfl⟩) BW.bl (va_recv hK hP (ci := 0) (q0 := 0) rfl rfl) (BW.at hP hK hE hS) rfl hl.1 rfl (Nat.le_of_ble_eq_true rfl) dX0_children_7 ⟨Nat.zero_le _, Nat.zero_le _⟩ ?_
  exact p_iret hx hb hr hlocks hS (hP) (by simp [k_1, inR, inB, h1, h2, h3]) (by simp [k_1, h1, h2, h3]) (Nat.zero_le _) (Nat.zero_le _) dX0_children_10
set_option maxHeartbeats 4000000 in
set_option maxRecDepth 100000 in
theorem m_X0_heirs (l : Launch) (hl0 : l.stackTraces = false) {D : va_G} {ci cz : ClassId} {cj : ClassId × ClassId} {q : Nat → Nat} {F P : Nat} {g : Nat → Nat → Int32} (hq : DQ q 8) (hF : F ≤ 6) (hP12 : P ≤ 12) (a : Int32) : vx_Met l yX0_heirs wsX0_heirs ({ frames := 7, cells := 1, slots := 6, locals := 103 } : Room) (va_Pc [.ref (q 0), .int a] (B0 D ci cz cj q F P g)) (PQ (k_1 P a) (some (.int (nI (sCHe g P (ix a))))) (fun H => va_P D vwCl (w0 ci cz q F P g) H) (aw q 8)) (PX (k_1 P a) [xIO]) 1 6 (aw q 8) := by
  refine vx_ofX (cc := cX0_heirs) (maxL := 2) (ret := (some .int)) (by decide) rfl (Nat.le_of_ble_eq_true rfl) ?_
  intro pg en s m bl mt cd ls Fx hr hlocks hex hB hl
  obtain ⟨hP, hK, hE⟩ := hB
  have hl : lv_has ls 2 [(0, .ref (q 0)), (1, .int a)] := hl
  have Fx : CallFix pg m cd cX0_heirs 2 s _ wsX0_heirs RX0 := Fx
  have hx := Fx.1
  have hb := Fx.2.1
  have hS : va_S (aw q 8) s.heap s.heap [] := va_S.rf
  have hP : va_P D vwCl (w0 ci cz q F P g) s.heap := hP
  refine lv_aload_n hx hb dX0_heirs_0 rfl (lv_at hl 0 rfl) ?_
  refine lv_iload_n hx hb dX0_heirs_1 rfl (lv_at hl 1 rfl) ?_
  by_cases h1 : inR a P
  rotate_left
  · refine r_callX (rest := []) Fx (m_X0_needPerson_x l hl0 (D := D) (ci := ci) (cz := cz) (cj := cj) (q := q) (F := F) (P := P) (g := g) hF hP12 a h1) (cwV 1 Fx.2.2.2.2 gX0_heirs_X0_needPerson rfl rfl rfl (by decide +kernel) ⟨Nat.le_of_ble_eq_true rfl, Nat.le_of_ble_eq_true rfl⟩) BW.bl (va_recv hK hP (ci := 0) (q0 := 0) rfl rfl) (BW.at hP hK hE hS) rfl hl.1 rfl (Nat.le_of_ble_eq_true rfl) dX0_heirs_2 ⟨Nat.le_of_ble_eq_true rfl, Nat.le_of_ble_eq_true rfl⟩ (fun ce q9 H1 hh hce hcv hcl => ?_)
    exact p_out hex hlocks hh hce hcv hcl ⟨0, (by simp [k_1, inR, inB, h1]), rfl⟩ (Nat.le_refl _) (Nat.le_refl _)
  obtain ⟨ja, h2, rfl⟩ := inR_of h1 (by omega)
  have h3 : ix (nI ja) = ja := ix_nI (by omega)
  refine r_callR (rest := []) Fx (m_X0_needPerson l (D := D) (ci := ci) (cz := cz) (cj := cj) (q := q) (F := F) (P := P) (g := g) hF hP12 ja (by omega)) (cwV 1 Fx.2.2.2.2 gX0_heirs_X0_needPerson rfl rfl rfl (by decide +kernel) ⟨Nat.le_of_ble_eq_true rfl, Nat.le_of_ble_eq_true rfl⟩) BW.bl (va_recv hK hP (ci := 0) (q0 := 0) rfl rfl) (BW.at hP hK hE hS) rfl hl.1 rfl (Nat.le_of_ble_eq_true rfl) dX0_heirs_2 ⟨Nat.zero_le _, Nat.zero_le _⟩ ?_
  refine lv_aload_n hx hb dX0_heirs_5 rfl (lv_at hl 0 rfl) ?_
  refine lv_iload_n hx hb dX0_heirs_6 rfl (lv_at hl 1 rfl) ?_
  refine r_callR (rest := []) Fx (m_X0_countHeirs l (D := D) (ci := ci) (cz := cz) (cj := cj) (q := q) (F := F) (P := P) (g := g) hF hP12 ja (by omega)) (cwV 1 Fx.2.2.2.2 gX0_heirs_X0_countHeirs rfl rfl rfl (by decide +kernel) ⟨Nat.le_of_ble_eq_true rfl, Nat.le_of_ble_eq_true rfl⟩) BW.bl (va_recv hK hP (ci := 0) (q0 := 0) rfl rfl) (BW.at hP hK hE hS) rfl hl.1 rfl (Nat.le_of_ble_eq_true rfl) dX0_heirs_7 ⟨Nat.zero_le _, Nat.zero_le _⟩ ?_
  exact p_iret hx hb hr hlocks hS (hP) (by simp [k_1, inR, inB, h1, h2, h3]) (by simp [k_1, h1, h2, h3]) (Nat.zero_le _) (Nat.zero_le _) dX0_heirs_10
set_option maxHeartbeats 4000000 in
set_option maxRecDepth 100000 in
theorem m_X0_heir (l : Launch) (hl0 : l.stackTraces = false) {D : va_G} {ci cz : ClassId} {cj : ClassId × ClassId} {q : Nat → Nat} {F P : Nat} {g : Nat → Nat → Int32} (hq : DQ q 8) (hF : F ≤ 6) (hP12 : P ≤ 12) (a : Int32) (x : Int32) : vx_Met l yX0_heir wsX0_heir ({ frames := 7, cells := 1, slots := 6, locals := 103 } : Room) (va_Pc [.ref (q 0), .int a, .int x] (B0 D ci cz cj q F P g)) (PQ (k_heir P g a x) (some (.int (sFH g P (ix a) x))) (fun H => va_P D vwCl (w0 ci cz q F P g) H) (aw q 8)) (PX (k_heir P g a x) [xIO]) 1 6 (aw q 8) := by
  refine vx_ofX (cc := cX0_heir) (maxL := 4) (ret := (some .int)) (by decide) rfl (Nat.le_of_ble_eq_true rfl) ?_
  intro pg en s m bl mt cd ls Fx hr hlocks hex hB hl
  obtain ⟨hP, hK, hE⟩ := hB
  have hl : lv_has ls 4 [(0, .ref (q 0)), (1, .int a), (2, .int x)] := hl
  have Fx : CallFix pg m cd cX0_heir 4 s _ wsX0_heir RX0 := Fx
  have hx := Fx.1
  have hb := Fx.2.1
  have hS : va_S (aw q 8) s.heap s.heap [] := va_S.rf
  have hP : va_P D vwCl (w0 ci cz q F P g) s.heap := hP
  refine lv_aload_n hx hb dX0_heir_0 rfl (lv_at hl 0 rfl) ?_
  refine lv_iload_n hx hb dX0_heir_1 rfl (lv_at hl 1 rfl) ?_
  by_cases h1 : inR a P
  rotate_left
  · refine r_callX (rest := []) Fx (m_X0_needPerson_x l hl0 (D := D) (ci := ci) (cz := cz) (cj := cj) (q := q) (F := F) (P := P) (g := g) hF hP12 a h1) (cwV 1 Fx.2.2.2.2 gX0_heir_X0_needPerson rfl rfl rfl (by decide +kernel) ⟨Nat.le_of_ble_eq_true rfl, Nat.le_of_ble_eq_true rfl⟩) BW.bl (va_recv hK hP (ci := 0) (q0 := 0) rfl rfl) (BW.at hP hK hE hS) rfl hl.1 rfl (Nat.le_of_ble_eq_true rfl) dX0_heir_2 ⟨Nat.le_of_ble_eq_true rfl, Nat.le_of_ble_eq_true rfl⟩ (fun ce q9 H1 hh hce hcv hcl => ?_)
    exact p_out hex hlocks hh hce hcv hcl ⟨0, (by simp [k_heir, inR, inB, h1]), rfl⟩ (Nat.le_refl _) (Nat.le_refl _)
  obtain ⟨ja, h2, rfl⟩ := inR_of h1 (by omega)
  have h3 : ix (nI ja) = ja := ix_nI (by omega)
  refine r_callR (rest := []) Fx (m_X0_needPerson l (D := D) (ci := ci) (cz := cz) (cj := cj) (q := q) (F := F) (P := P) (g := g) hF hP12 ja (by omega)) (cwV 1 Fx.2.2.2.2 gX0_heir_X0_needPerson rfl rfl rfl (by decide +kernel) ⟨Nat.le_of_ble_eq_true rfl, Nat.le_of_ble_eq_true rfl⟩) BW.bl (va_recv hK hP (ci := 0) (q0 := 0) rfl rfl) (BW.at hP hK hE hS) rfl hl.1 rfl (Nat.le_of_ble_eq_true rfl) dX0_heir_2 ⟨Nat.zero_le _, Nat.zero_le _⟩ ?_
  refine lv_aload_n hx hb dX0_heir_5 rfl (lv_at hl 0 rfl) ?_
  refine lv_iload_n hx hb dX0_heir_6 rfl (lv_at hl 1 rfl) ?_
  refine lv_iload_n hx hb dX0_heir_7 rfl (lv_at hl 2 rfl) ?_
  refine r_callR (rest := []) Fx (m_X0_findHeir l (D := D) (ci := ci) (cz := cz) (cj := cj) (q := q) (F := F) (P := P) (g := g) hF hP12 ja x (by omega)) (cwV 2 Fx.2.2.2.2 gX0_heir_X0_findHeir rfl rfl rfl (by decide +kernel) ⟨Nat.le_of_ble_eq_true rfl, Nat.le_of_ble_eq_true rfl⟩) BW.bl (va_recv hK hP (ci := 0) (q0 := 0) rfl rfl) (BW.at hP hK hE hS) rfl hl.1 rfl (Nat.le_of_ble_eq_true rfl) dX0_heir_8 ⟨Nat.zero_le _, Nat.zero_le _⟩ ?_
  refine lv_istore_n (lv' := [(3, .int (sFH g P ja x)), (0, .ref (q 0)), (1, .int (nI ja)), (2, .int x)]) hx hb dX0_heir_11 rfl hl (by decide) rfl (fun ls hl => ?_)
  refine lv_iload_n hx hb dX0_heir_12 rfl (lv_at hl 0 rfl) ?_
  refine lv_iconst (v := -1) hx hb dX0_heir_13 (by decide) ?_
  refine lv_icmp_ne (tgt := 27) hx hb dX0_heir_14 (by decide) (fun h4 => ?_) (fun h4 => ?_)
  · refine lv_iload_n hx hb dX0_heir_27 rfl (lv_at hl 0 rfl) ?_
    exact p_iret hx hb hr hlocks hS (hP) (by simp [k_heir, inR, inB, h1, h2, h3, h4]) (by simp [k_heir, h1, h2, h3, h4]) (Nat.zero_le _) (Nat.zero_le _) dX0_heir_28
  · exact x0_throw (cls := xIO) (text := "no such place among the heirs") Fx hl0 hE hS hex hlocks (by decide +kernel) (by decide +kernel) (by decide +kernel) (by decide +kernel) (by decide +kernel) hl.1 dX0_heir_17 dX0_heir_20 dX0_heir_21 dX0_heir_23 dX0_heir_26 (Nat.le_of_ble_eq_true rfl) (Nat.le_of_ble_eq_true rfl) (Nat.le_of_ble_eq_true rfl) (Nat.le_of_ble_eq_true rfl) (fun t ht => ⟨⟨0, (by simp [k_heir, inR, inB, h1, h2, h3, h4]), rfl⟩, ht⟩) nin (Nat.le_refl _) (Nat.le_refl _)
set_option maxHeartbeats 4000000 in
set_option maxRecDepth 100000 in
theorem m_X0_price (l : Launch) (hl0 : l.stackTraces = false) {D : va_G} {ci cz : ClassId} {cj : ClassId × ClassId} {q : Nat → Nat} {F P : Nat} {g : Nat → Nat → Int32} (hq : DQ q 8) (hF : F ≤ 6) (hP12 : P ≤ 12) (a : Int32) (f : Int32) (w : Int32) : vx_Met l yX0_price wsX0_price ({ frames := 7, cells := 1, slots := 6, locals := 103 } : Room) (va_Pc [.ref (q 0), .int a, .int f, .int w] (B0 D ci cz cj q F P g)) (PQ (k_pfw F P a f w) (some (.int (sPri g (ix f) (ix w) (ix a)))) (fun H => va_P D vwCl (w0 ci cz q F P g) H) (aw q 8)) (PX (k_pfw F P a f w) [xIO]) 1 6 (aw q 8) := by
  refine vx_ofX (cc := cX0_price) (maxL := 4) (ret := (some .int)) (by decide) rfl (Nat.le_of_ble_eq_true rfl) ?_
  intro pg en s m bl mt cd ls Fx hr hlocks hex hB hl
  obtain ⟨hP, hK, hE⟩ := hB
  have hl : lv_has ls 4 [(0, .ref (q 0)), (1, .int a), (2, .int f), (3, .int w)] := hl
  have Fx : CallFix pg m cd cX0_price 4 s _ wsX0_price RX0 := Fx
  have hx := Fx.1
  have hb := Fx.2.1
  have hS : va_S (aw q 8) s.heap s.heap [] := va_S.rf
  have hP : va_P D vwCl (w0 ci cz q F P g) s.heap := hP
  refine lv_aload_n hx hb dX0_price_0 rfl (lv_at hl 0 rfl) ?_
  refine lv_iload_n hx hb dX0_price_1 rfl (lv_at hl 1 rfl) ?_
  by_cases h1 : inR a P
  rotate_left
  · refine r_callX (rest := []) Fx (m_X0_needPerson_x l hl0 (D := D) (ci := ci) (cz := cz) (cj := cj) (q := q) (F := F) (P := P) (g := g) hF hP12 a h1) (cwV 1 Fx.2.2.2.2 gX0_price_X0_needPerson rfl rfl rfl (by decide +kernel) ⟨Nat.le_of_ble_eq_true rfl, Nat.le_of_ble_eq_true rfl⟩) BW.bl (va_recv hK hP (ci := 0) (q0 := 0) rfl rfl) (BW.at hP hK hE hS) rfl hl.1 rfl (Nat.le_of_ble_eq_true rfl) dX0_price_2 ⟨Nat.le_of_ble_eq_true rfl, Nat.le_of_ble_eq_true rfl⟩ (fun ce q9 H1 hh hce hcv hcl => ?_)
    exact p_out hex hlocks hh hce hcv hcl ⟨0, (by simp [k_pfw, inR, inB, h1]), rfl⟩ (Nat.le_refl _) (Nat.le_refl _)
  obtain ⟨ja, h2, rfl⟩ := inR_of h1 (by omega)
  have h3 : ix (nI ja) = ja := ix_nI (by omega)
  refine r_callR (rest := []) Fx (m_X0_needPerson l (D := D) (ci := ci) (cz := cz) (cj := cj) (q := q) (F := F) (P := P) (g := g) hF hP12 ja (by omega)) (cwV 1 Fx.2.2.2.2 gX0_price_X0_needPerson rfl rfl rfl (by decide +kernel) ⟨Nat.le_of_ble_eq_true rfl, Nat.le_of_ble_eq_true rfl⟩) BW.bl (va_recv hK hP (ci := 0) (q0 := 0) rfl rfl) (BW.at hP hK hE hS) rfl hl.1 rfl (Nat.le_of_ble_eq_true rfl) dX0_price_2 ⟨Nat.zero_le _, Nat.zero_le _⟩ ?_
  refine lv_aload_n hx hb dX0_price_5 rfl (lv_at hl 0 rfl) ?_
  refine lv_iload_n hx hb dX0_price_6 rfl (lv_at hl 2 rfl) ?_
  by_cases h4 : inR f F
  rotate_left
  · refine r_callX (rest := []) Fx (m_X0_needFerry_x l hl0 (D := D) (ci := ci) (cz := cz) (cj := cj) (q := q) (F := F) (P := P) (g := g) hF hP12 f h4) (cwV 1 Fx.2.2.2.2 gX0_price_X0_needFerry rfl rfl rfl (by decide +kernel) ⟨Nat.le_of_ble_eq_true rfl, Nat.le_of_ble_eq_true rfl⟩) BW.bl (va_recv hK hP (ci := 0) (q0 := 0) rfl rfl) (BW.at hP hK hE hS) rfl hl.1 rfl (Nat.le_of_ble_eq_true rfl) dX0_price_7 ⟨Nat.le_of_ble_eq_true rfl, Nat.le_of_ble_eq_true rfl⟩ (fun ce q9 H1 hh hce hcv hcl => ?_)
    exact p_out hex hlocks hh hce hcv hcl ⟨0, (by simp [k_pfw, inR, inB, h1, h2, h3, h4]), rfl⟩ (Nat.le_refl _) (Nat.le_refl _)
  obtain ⟨jf, h5, rfl⟩ := inR_of h4 (by omega)
  have h6 : ix (nI jf) = jf := ix_nI (by omega)
  refine r_callR (rest := []) Fx (m_X0_needFerry l (D := D) (ci := ci) (cz := cz) (cj := cj) (q := q) (F := F) (P := P) (g := g) hF hP12 jf (by omega)) (cwV 1 Fx.2.2.2.2 gX0_price_X0_needFerry rfl rfl rfl (by decide +kernel) ⟨Nat.le_of_ble_eq_true rfl, Nat.le_of_ble_eq_true rfl⟩) BW.bl (va_recv hK hP (ci := 0) (q0 := 0) rfl rfl) (BW.at hP hK hE hS) rfl hl.1 rfl (Nat.le_of_ble_eq_true rfl) dX0_price_7 ⟨Nat.zero_le _, Nat.zero_le _⟩ ?_
  refine lv_iload_n hx hb dX0_price_10 rfl (lv_at hl 3 rfl) ?_
  by_cases h7 : inR w 4
  rotate_left
  · refine r_callXS (rest := []) Fx (m_X0_needWatch_x l hl0 (D := D) (ci := ci) (cz := cz) (cj := cj) (q := q) (F := F) (P := P) (g := g) hF hP12 w h7) (va_cwS 1 Fx.2.2.2.2 gX0_price_X0_needWatch rfl rfl rfl (by decide +kernel) ⟨Nat.le_of_ble_eq_true rfl, Nat.le_of_ble_eq_true rfl⟩) BW.bl (BW.at hP hK hE hS) rfl hl.1 rfl (Nat.le_of_ble_eq_true rfl) dX0_price_11 ⟨Nat.le_of_ble_eq_true rfl, Nat.le_of_ble_eq_true rfl⟩ (fun ce q9 H1 hh hce hcv hcl => ?_)
    exact p_out hex hlocks hh hce hcv hcl ⟨0, (by simp [k_pfw, inR, inB, h1, h2, h3, h4, h5, h6, h7]), rfl⟩ (Nat.le_refl _) (Nat.le_refl _)
  obtain ⟨jw, h8, rfl⟩ := inR_of h7 (by omega)
  have h9 : ix (nI jw) = jw := ix_nI (by omega)
  refine r_callRS (rest := []) Fx (m_X0_needWatch l (D := D) (ci := ci) (cz := cz) (cj := cj) (q := q) (F := F) (P := P) (g := g) hF hP12 jw (by omega)) (va_cwS 1 Fx.2.2.2.2 gX0_price_X0_needWatch rfl rfl rfl (by decide +kernel) ⟨Nat.le_of_ble_eq_true rfl, Nat.le_of_ble_eq_true rfl⟩) BW.bl (BW.at hP hK hE hS) rfl hl.1 rfl (Nat.le_of_ble_eq_true rfl) dX0_price_11 ⟨Nat.zero_le _, Nat.zero_le _⟩ ?_
  refine lv_aload_n hx hb dX0_price_14 rfl (lv_at hl 0 rfl) ?_
  refine lv_iload_n hx hb dX0_price_15 rfl (lv_at hl 1 rfl) ?_
  refine lv_iload_n hx hb dX0_price_16 rfl (lv_at hl 2 rfl) ?_
  refine lv_iload_n hx hb dX0_price_17 rfl (lv_at hl 3 rfl) ?_
  refine r_callR (rest := []) Fx (m_X0_priceOf l (D := D) (ci := ci) (cz := cz) (cj := cj) (q := q) (F := F) (P := P) (g := g) hF hP12 ja jf jw (by omega) (by omega) (by omega)) (cwV 3 Fx.2.2.2.2 gX0_price_X0_priceOf rfl rfl rfl (by decide +kernel) ⟨Nat.le_of_ble_eq_true rfl, Nat.le_of_ble_eq_true rfl⟩) BW.bl (va_recv hK hP (ci := 0) (q0 := 0) rfl rfl) (BW.at hP hK hE hS) rfl hl.1 rfl (Nat.le_of_ble_eq_true rfl) dX0_price_18 ⟨Nat.zero_le _, Nat.zero_le _⟩ ?_
  exact p_iret hx hb hr hlocks hS (hP) (by simp [k_pfw, inR, inB, h1, h2, h3, h4, h5, h6, h7, h8, h9]) (by simp [k_pfw, h1, h2, h3, h4, h5, h6, h7, h8, h9]) (Nat.zero_le _) (Nat.zero_le _) dX0_price_21
set_option maxHeartbeats 4000000 in
set_option maxRecDepth 100000 in
theorem m_X0_canBuy (l : Launch) (hl0 : l.stackTraces = false) {D : va_G} {ci cz : ClassId} {cj : ClassId × ClassId} {q : Nat → Nat} {F P : Nat} {g : Nat → Nat → Int32} (hq : DQ q 8) (hF : F ≤ 6) (hP12 : P ≤ 12) (a : Int32) (b : Int32) (f : Int32) (w : Int32) : vx_Met l yX0_canBuy wsX0_canBuy ({ frames := 8, cells := 1, slots := 6, locals := 127 } : Room) (va_Pc [.ref (q 0), .int a, .int b, .int f, .int w] (B0 D ci cz cj q F P g)) (PQ (k_ppfw F P a b f w) (some (.int (bI (sMay g P (ix a) (ix b) (ix f) (ix w))))) (fun H => va_P D vwCl (w0 ci cz q F P g) H) (aw q 8)) (PX (k_ppfw F P a b f w) [xIO]) 1 6 (aw q 8) := by
  refine vx_ofX (cc := cX0_canBuy) (maxL := 5) (ret := (some .boolean)) (by decide) rfl (Nat.le_of_ble_eq_true rfl) ?_
  intro pg en s m bl mt cd ls Fx hr hlocks hex hB hl
  obtain ⟨hP, hK, hE⟩ := hB
  have hl : lv_has ls 5 [(0, .ref (q 0)), (1, .int a), (2, .int b), (3, .int f), (4, .int w)] := hl
  have Fx : CallFix pg m cd cX0_canBuy 5 s _ wsX0_canBuy RX0 := Fx
  have hx := Fx.1
  have hb := Fx.2.1
  have hS : va_S (aw q 8) s.heap s.heap [] := va_S.rf
  have hP : va_P D vwCl (w0 ci cz q F P g) s.heap := hP
  refine lv_aload_n hx hb dX0_canBuy_0 rfl (lv_at hl 0 rfl) ?_
  refine lv_iload_n hx hb dX0_canBuy_1 rfl (lv_at hl 1 rfl) ?_
  refine lv_iload_n hx hb dX0_canBuy_2 rfl (lv_at hl 2 rfl) ?_
  refine lv_iload_n hx hb dX0_canBuy_3 rfl (lv_at hl 3 rfl) ?_
  refine lv_iload hx hb dX0_canBuy_4 (lv_at hl 4 rfl) ?_
  by_cases h1 : inR a P ∧ inR b P ∧ inR f F ∧ inR w 4
  rotate_left
  · refine r_callX (rest := []) Fx (m_X0_needSale_x l hl0 (D := D) (ci := ci) (cz := cz) (cj := cj) (q := q) (F := F) (P := P) (g := g) hF hP12 a b f w h1) (cwV 4 Fx.2.2.2.2 gX0_canBuy_X0_needSale rfl rfl rfl (by decide +kernel) ⟨Nat.le_of_ble_eq_true rfl, Nat.le_of_ble_eq_true rfl⟩) BW.bl (va_recv hK hP (ci := 0) (q0 := 0) rfl rfl) (BW.at hP hK hE hS) rfl hl.1 rfl (Nat.le_of_ble_eq_true rfl) dX0_canBuy_6 ⟨Nat.le_of_ble_eq_true rfl, Nat.le_of_ble_eq_true rfl⟩ (fun ce q9 H1 hh hce hcv hcl => ?_)
    exact p_out hex hlocks hh hce hcv hcl ⟨0, (by simp [k_ppfw, inR, inB, h1]), rfl⟩ (Nat.le_refl _) (Nat.le_refl _)
  obtain ⟨ja, h2, rfl⟩ := inR_of h1.1 (by omega)
  have h3 : ix (nI ja) = ja := ix_nI (by omega)
  obtain ⟨jb, h4, rfl⟩ := inR_of h1.2.1 (by omega)
  have h5 : ix (nI jb) = jb := ix_nI (by omega)
  obtain ⟨jf, h6, rfl⟩ := inR_of h1.2.2.1 (by omega)
  have h7 : ix (nI jf) = jf := ix_nI (by omega)
  obtain ⟨jw, h8, rfl⟩ := inR_of h1.2.2.2 (by omega)
  have h9 : ix (nI jw) = jw := ix_nI (by omega)
  refine r_callR (rest := []) Fx (m_X0_needSale l (D := D) (ci := ci) (cz := cz) (cj := cj) (q := q) (F := F) (P := P) (g := g) hF hP12 ja jb jf jw (by omega) (by omega) (by omega) (by omega)) (cwV 4 Fx.2.2.2.2 gX0_canBuy_X0_needSale rfl rfl rfl (by decide +kernel) ⟨Nat.le_of_ble_eq_true rfl, Nat.le_of_ble_eq_true rfl⟩) BW.bl (va_recv hK hP (ci := 0) (q0 := 0) rfl rfl) (BW.at hP hK hE hS) rfl hl.1 rfl (Nat.le_of_ble_eq_true rfl) dX0_canBuy_6 ⟨Nat.zero_le _, Nat.zero_le _⟩ ?_
  refine lv_aload_n hx hb dX0_canBuy_9 rfl (lv_at hl 0 rfl) ?_
  refine lv_iload_n hx hb dX0_canBuy_10 rfl (lv_at hl 1 rfl) ?_
  refine lv_iload_n hx hb dX0_canBuy_11 rfl (lv_at hl 2 rfl) ?_
  refine lv_iload_n hx hb dX0_canBuy_12 rfl (lv_at hl 3 rfl) ?_
  refine lv_iload hx hb dX0_canBuy_13 (lv_at hl 4 rfl) ?_
  refine r_callR (rest := []) Fx (m_X0_mayBuy l (D := D) (ci := ci) (cz := cz) (cj := cj) (q := q) (F := F) (P := P) (g := g) hF hP12 ja jb jf jw (by omega) (by omega) (by omega) (by omega)) (cwV 4 Fx.2.2.2.2 gX0_canBuy_X0_mayBuy rfl rfl rfl (by decide +kernel) ⟨Nat.le_of_ble_eq_true rfl, Nat.le_of_ble_eq_true rfl⟩) BW.bl (va_recv hK hP (ci := 0) (q0 := 0) rfl rfl) (BW.at hP hK hE hS) rfl hl.1 rfl (Nat.le_of_ble_eq_true rfl) dX0_canBuy_15 ⟨Nat.zero_le _, Nat.zero_le _⟩ ?_
  exact p_zret hx hb hr hlocks hS (hP) (by simp [k_ppfw, inR, inB, h1, h2, h3, h4, h5, h6, h7, h8, h9]) (by simp [k_ppfw, h1, h2, h3, h4, h5, h6, h7, h8, h9]) (Nat.zero_le _) (Nat.zero_le _) dX0_canBuy_18
set_option maxHeartbeats 4000000 in
set_option maxRecDepth 100000 in
theorem m_X0_inheritance (l : Launch) (hl0 : l.stackTraces = false) {D : va_G} {ci cz : ClassId} {cj : ClassId × ClassId} {q : Nat → Nat} {F P : Nat} {g : Nat → Nat → Int32} (hq : DQ q 8) (hF : F ≤ 6) (hP12 : P ≤ 12) (a : Int32) (b : Int32) (f : Int32) (w : Int32) : vx_Met l yX0_inheritance wsX0_inheritance ({ frames := 7, cells := 1, slots := 6, locals := 103 } : Room) (va_Pc [.ref (q 0), .int a, .int b, .int f, .int w] (B0 D ci cz cj q F P g)) (PQ (k_ppfw F P a b f w) (some (.int (sInh g P (ix a) (ix b) (ix f) (ix w)))) (fun H => va_P D vwCl (w0 ci cz q F P g) H) (aw q 8)) (PX (k_ppfw F P a b f w) [xIO]) 1 6 (aw q 8) := by
  refine vx_ofX (cc := cX0_inheritance) (maxL := 5) (ret := (some .int)) (by decide) rfl (Nat.le_of_ble_eq_true rfl) ?_
  intro pg en s m bl mt cd ls Fx hr hlocks hex hB hl
  obtain ⟨hP, hK, hE⟩ := hB
  have hl : lv_has ls 5 [(0, .ref (q 0)), (1, .int a), (2, .int b), (3, .int f), (4, .int w)] := hl
  have Fx : CallFix pg m cd cX0_inheritance 5 s _ wsX0_inheritance RX0 := Fx
  have hx := Fx.1
  have hb := Fx.2.1
  have hS : va_S (aw q 8) s.heap s.heap [] := va_S.rf
  have hP : va_P D vwCl (w0 ci cz q F P g) s.heap := hP
  refine lv_aload_n hx hb dX0_inheritance_0 rfl (lv_at hl 0 rfl) ?_
  refine lv_iload_n hx hb dX0_inheritance_1 rfl (lv_at hl 1 rfl) ?_
  by_cases h1 : inR a P
  rotate_left
  · refine r_callX (rest := []) Fx (m_X0_needPerson_x l hl0 (D := D) (ci := ci) (cz := cz) (cj := cj) (q := q) (F := F) (P := P) (g := g) hF hP12 a h1) (cwV 1 Fx.2.2.2.2 gX0_inheritance_X0_needPerson rfl rfl rfl (by decide +kernel) ⟨Nat.le_of_ble_eq_true rfl, Nat.le_of_ble_eq_true rfl⟩) BW.bl (va_recv hK hP (ci := 0) (q0 := 0) rfl rfl) (BW.at hP hK hE hS) rfl hl.1 rfl (Nat.le_of_ble_eq_true rfl) dX0_inheritance_2 ⟨Nat.le_of_ble_eq_true rfl, Nat.le_of_ble_eq_true rfl⟩ (fun ce q9 H1 hh hce hcv hcl => ?_)
    exact p_out hex hlocks hh hce hcv hcl ⟨0, (by simp [k_ppfw, sInh, inR, inB, h1]), rfl⟩ (Nat.le_refl _) (Nat.le_refl _)
  obtain ⟨ja, h2, rfl⟩ := inR_of h1 (by omega)
  have h3 : ix (nI ja) = ja := ix_nI (by omega)
  refine r_callR (rest := []) Fx (m_X0_needPerson l (D := D) (ci := ci) (cz := cz) (cj := cj) (q := q) (F := F) (P := P) (g := g) hF hP12 ja (by omega)) (cwV 1 Fx.2.2.2.2 gX0_inheritance_X0_needPerson rfl rfl rfl (by decide +kernel) ⟨Nat.le_of_ble_eq_true rfl, Nat.le_of_ble_eq_true rfl⟩) BW.bl (va_recv hK hP (ci := 0) (q0 := 0) rfl rfl) (BW.at hP hK hE hS) rfl hl.1 rfl (Nat.le_of_ble_eq_true rfl) dX0_inheritance_2 ⟨Nat.zero_le _, Nat.zero_le _⟩ ?_
  refine lv_aload_n hx hb dX0_inheritance_5 rfl (lv_at hl 0 rfl) ?_
  refine lv_iload_n hx hb dX0_inheritance_6 rfl (lv_at hl 2 rfl) ?_
  by_cases h4 : inR b P
  rotate_left
  · refine r_callX (rest := []) Fx (m_X0_needPerson_x l hl0 (D := D) (ci := ci) (cz := cz) (cj := cj) (q := q) (F := F) (P := P) (g := g) hF hP12 b h4) (cwV 1 Fx.2.2.2.2 gX0_inheritance_X0_needPerson rfl rfl rfl (by decide +kernel) ⟨Nat.le_of_ble_eq_true rfl, Nat.le_of_ble_eq_true rfl⟩) BW.bl (va_recv hK hP (ci := 0) (q0 := 0) rfl rfl) (BW.at hP hK hE hS) rfl hl.1 rfl (Nat.le_of_ble_eq_true rfl) dX0_inheritance_7 ⟨Nat.le_of_ble_eq_true rfl, Nat.le_of_ble_eq_true rfl⟩ (fun ce q9 H1 hh hce hcv hcl => ?_)
    exact p_out hex hlocks hh hce hcv hcl ⟨0, (by simp [k_ppfw, sInh, inR, inB, h1, h2, h3, h4]), rfl⟩ (Nat.le_refl _) (Nat.le_refl _)
  obtain ⟨jb, h5, rfl⟩ := inR_of h4 (by omega)
  have h6 : ix (nI jb) = jb := ix_nI (by omega)
  refine r_callR (rest := []) Fx (m_X0_needPerson l (D := D) (ci := ci) (cz := cz) (cj := cj) (q := q) (F := F) (P := P) (g := g) hF hP12 jb (by omega)) (cwV 1 Fx.2.2.2.2 gX0_inheritance_X0_needPerson rfl rfl rfl (by decide +kernel) ⟨Nat.le_of_ble_eq_true rfl, Nat.le_of_ble_eq_true rfl⟩) BW.bl (va_recv hK hP (ci := 0) (q0 := 0) rfl rfl) (BW.at hP hK hE hS) rfl hl.1 rfl (Nat.le_of_ble_eq_true rfl) dX0_inheritance_7 ⟨Nat.zero_le _, Nat.zero_le _⟩ ?_
  refine lv_aload_n hx hb dX0_inheritance_10 rfl (lv_at hl 0 rfl) ?_
  refine lv_iload_n hx hb dX0_inheritance_11 rfl (lv_at hl 3 rfl) ?_
  by_cases h7 : inR f F
  rotate_left
  · refine r_callX (rest := []) Fx (m_X0_needFerry_x l hl0 (D := D) (ci := ci) (cz := cz) (cj := cj) (q := q) (F := F) (P := P) (g := g) hF hP12 f h7) (cwV 1 Fx.2.2.2.2 gX0_inheritance_X0_needFerry rfl rfl rfl (by decide +kernel) ⟨Nat.le_of_ble_eq_true rfl, Nat.le_of_ble_eq_true rfl⟩) BW.bl (va_recv hK hP (ci := 0) (q0 := 0) rfl rfl) (BW.at hP hK hE hS) rfl hl.1 rfl (Nat.le_of_ble_eq_true rfl) dX0_inheritance_12 ⟨Nat.le_of_ble_eq_true rfl, Nat.le_of_ble_eq_true rfl⟩ (fun ce q9 H1 hh hce hcv hcl => ?_)
    exact p_out hex hlocks hh hce hcv hcl ⟨0, (by simp [k_ppfw, sInh, inR, inB, h1, h2, h3, h4, h5, h6, h7]), rfl⟩ (Nat.le_refl _) (Nat.le_refl _)
  obtain ⟨jf, h8, rfl⟩ := inR_of h7 (by omega)
  have h9 : ix (nI jf) = jf := ix_nI (by omega)
  refine r_callR (rest := []) Fx (m_X0_needFerry l (D := D) (ci := ci) (cz := cz) (cj := cj) (q := q) (F := F) (P := P) (g := g) hF hP12 jf (by omega)) (cwV 1 Fx.2.2.2.2 gX0_inheritance_X0_needFerry rfl rfl rfl (by decide +kernel) ⟨Nat.le_of_ble_eq_true rfl, Nat.le_of_ble_eq_true rfl⟩) BW.bl (va_recv hK hP (ci := 0) (q0 := 0) rfl rfl) (BW.at hP hK hE hS) rfl hl.1 rfl (Nat.le_of_ble_eq_true rfl) dX0_inheritance_12 ⟨Nat.zero_le _, Nat.zero_le _⟩ ?_
  refine lv_iload hx hb dX0_inheritance_15 (lv_at hl 4 rfl) ?_
  by_cases h10 : inR w 4
  rotate_left
  · refine r_callXS (rest := []) Fx (m_X0_needWatch_x l hl0 (D := D) (ci := ci) (cz := cz) (cj := cj) (q := q) (F := F) (P := P) (g := g) hF hP12 w h10) (va_cwS 1 Fx.2.2.2.2 gX0_inheritance_X0_needWatch rfl rfl rfl (by decide +kernel) ⟨Nat.le_of_ble_eq_true rfl, Nat.le_of_ble_eq_true rfl⟩) BW.bl (BW.at hP hK hE hS) rfl hl.1 rfl (Nat.le_of_ble_eq_true rfl) dX0_inheritance_17 ⟨Nat.le_of_ble_eq_true rfl, Nat.le_of_ble_eq_true rfl⟩ (fun ce q9 H1 hh hce hcv hcl => ?_)
    exact p_out hex hlocks hh hce hcv hcl ⟨0, (by simp [k_ppfw, sInh, inR, inB, h1, h2, h3, h4, h5, h6, h7, h8, h9, h10]), rfl⟩ (Nat.le_refl _) (Nat.le_refl _)
  obtain ⟨jw, h11, rfl⟩ := inR_of h10 (by omega)
  have h12 : ix (nI jw) = jw := ix_nI (by omega)
  refine r_callRS (rest := []) Fx (m_X0_needWatch l (D := D) (ci := ci) (cz := cz) (cj := cj) (q := q) (F := F) (P := P) (g := g) hF hP12 jw (by omega)) (va_cwS 1 Fx.2.2.2.2 gX0_inheritance_X0_needWatch rfl rfl rfl (by decide +kernel) ⟨Nat.le_of_ble_eq_true rfl, Nat.le_of_ble_eq_true rfl⟩) BW.bl (BW.at hP hK hE hS) rfl hl.1 rfl (Nat.le_of_ble_eq_true rfl) dX0_inheritance_17 ⟨Nat.zero_le _, Nat.zero_le _⟩ ?_
  refine lv_aload_n hx hb dX0_inheritance_20 rfl (lv_at hl 0 rfl) ?_
  refine lv_iload_n hx hb dX0_inheritance_21 rfl (lv_at hl 2 rfl) ?_
  refine lv_iload_n hx hb dX0_inheritance_22 rfl (lv_at hl 1 rfl) ?_
  refine r_callR (rest := []) Fx (m_X0_isHeir l (D := D) (ci := ci) (cz := cz) (cj := cj) (q := q) (F := F) (P := P) (g := g) hF hP12 jb ja (by omega) (by omega)) (cwV 2 Fx.2.2.2.2 gX0_inheritance_X0_isHeir rfl rfl rfl (by decide +kernel) ⟨Nat.le_of_ble_eq_true rfl, Nat.le_of_ble_eq_true rfl⟩) BW.bl (va_recv hK hP (ci := 0) (q0 := 0) rfl rfl) (BW.at hP hK hE hS) rfl hl.1 rfl (Nat.le_of_ble_eq_true rfl) dX0_inheritance_23 ⟨Nat.zero_le _, Nat.zero_le _⟩ ?_
  refine b_if_ne (tgt := 31) hx hb dX0_inheritance_26 (by decide) (fun h13 => ?_) (fun h13 => ?_)
  · refine lv_aload_n hx hb dX0_inheritance_31 rfl (lv_at hl 0 rfl) ?_
    refine lv_iload_n hx hb dX0_inheritance_32 rfl (lv_at hl 3 rfl) ?_
    refine lv_iload hx hb dX0_inheritance_33 (lv_at hl 4 rfl) ?_
    refine lv_iload_n hx hb dX0_inheritance_35 rfl (lv_at hl 1 rfl) ?_
    refine r_callR (rest := []) Fx (m_X0_owns l (D := D) (ci := ci) (cz := cz) (cj := cj) (q := q) (F := F) (P := P) (g := g) hF hP12 jf jw ja (by omega) (by omega) (by omega)) (cwV 3 Fx.2.2.2.2 gX0_inheritance_X0_owns rfl rfl rfl (by decide +kernel) ⟨Nat.le_of_ble_eq_true rfl, Nat.le_of_ble_eq_true rfl⟩) BW.bl (va_recv hK hP (ci := 0) (q0 := 0) rfl rfl) (BW.at hP hK hE hS) rfl hl.1 rfl (Nat.le_of_ble_eq_true rfl) dX0_inheritance_36 ⟨Nat.zero_le _, Nat.zero_le _⟩ ?_
    refine lv_aload_n hx hb dX0_inheritance_39 rfl (lv_at hl 0 rfl) ?_
    refine lv_iload_n hx hb dX0_inheritance_40 rfl (lv_at hl 1 rfl) ?_
    refine r_callR (rest := [.int (own g jf jw ja)]) Fx (m_X0_countHeirs l (D := D) (ci := ci) (cz := cz) (cj := cj) (q := q) (F := F) (P := P) (g := g) hF hP12 ja (by omega)) (cwV 1 Fx.2.2.2.2 gX0_inheritance_X0_countHeirs rfl rfl rfl (by decide +kernel) ⟨Nat.le_of_ble_eq_true rfl, Nat.le_of_ble_eq_true rfl⟩) BW.bl (va_recv hK hP (ci := 0) (q0 := 0) rfl rfl) (BW.at hP hK hE hS) rfl hl.1 rfl (Nat.le_of_ble_eq_true rfl) dX0_inheritance_41 ⟨Nat.zero_le _, Nat.zero_le _⟩ ?_
    refine lv_aload_n hx hb dX0_inheritance_44 rfl (lv_at hl 0 rfl) ?_
    refine lv_iload_n hx hb dX0_inheritance_45 rfl (lv_at hl 2 rfl) ?_
    refine lv_iload_n hx hb dX0_inheritance_46 rfl (lv_at hl 1 rfl) ?_
    refine r_callR (rest := [.int (nI (sCHe g P ja)), .int (own g jf jw ja)]) Fx (m_X0_countHeirsBelow l (D := D) (ci := ci) (cz := cz) (cj := cj) (q := q) (F := F) (P := P) (g := g) hF hP12 jb ja (by omega) (by omega)) (cwV 2 Fx.2.2.2.2 gX0_inheritance_X0_countHeirsBelow rfl rfl rfl (by decide +kernel) ⟨Nat.le_of_ble_eq_true rfl, Nat.le_of_ble_eq_true rfl⟩) BW.bl (va_recv hK hP (ci := 0) (q0 := 0) rfl rfl) (BW.at hP hK hE hS) rfl hl.1 rfl (Nat.le_of_ble_eq_true rfl) dX0_inheritance_47 ⟨Nat.zero_le _, Nat.zero_le _⟩ ?_
    refine r_callRS (rest := []) Fx (m_X0_partOf l (D := D) (ci := ci) (cz := cz) (cj := cj) (q := q) (F := F) (P := P) (g := g) hF hP12 (own g jf jw ja) (sCHe g P ja) (sCHB g P jb ja) (Nat.le_trans (cn_le _ _) hP12) (Nat.le_trans (cn_le _ _) (by omega))) (va_cwS 3 Fx.2.2.2.2 gX0_inheritance_X0_partOf rfl rfl rfl (by decide +kernel) ⟨Nat.le_of_ble_eq_true rfl, Nat.le_of_ble_eq_true rfl⟩) BW.bl (BW.at hP hK hE hS) rfl hl.1 rfl (Nat.le_of_ble_eq_true rfl) dX0_inheritance_50 ⟨Nat.zero_le _, Nat.zero_le _⟩ ?_
    exact p_iret hx hb hr hlocks hS (hP) (by simp [k_ppfw, sInh, inR, inB, h1, h2, h3, h4, h5, h6, h7, h8, h9, h10, h11, h12, h13]) (by simp [k_ppfw, sInh, h1, h2, h3, h4, h5, h6, h7, h8, h9, h10, h11, h12, h13]) (Nat.zero_le _) (Nat.zero_le _) dX0_inheritance_53
  · refine lv_iconst (v := nI 0) hx hb dX0_inheritance_29 (by decide) ?_
    exact p_iret hx hb hr hlocks hS (hP) (by simp [k_ppfw, sInh, inR, inB, h1, h2, h3, h4, h5, h6, h7, h8, h9, h10, h11, h12, h13]) (by simp [k_ppfw, sInh, h1, h2, h3, h4, h5, h6, h7, h8, h9, h10, h11, h12, h13]) (Nat.zero_le _) (Nat.zero_le _) dX0_inheritance_30
set_option maxHeartbeats 4000000 in
set_option maxRecDepth 100000 in
theorem m_X0_fare (l : Launch) (hl0 : l.stackTraces = false) {D : va_G} {ci cz : ClassId} {cj : ClassId × ClassId} {q : Nat → Nat} {F P : Nat} {g : Nat → Nat → Int32} (hq : DQ q 8) (hF : F ≤ 6) (hP12 : P ≤ 12) (a : Int32) (f : Int32) (h : Int32) (x : Int32) : vx_Met l yX0_fare wsX0_fare ({ frames := 7, cells := 1, slots := 6, locals := 103 } : Room) (va_Pc [.ref (q 0), .int a, .int f, .int h, .int x] (B0 D ci cz cj q F P g)) (PQ (k_fare F P a f h x) (some (.int (sFar g (ix f) (ix h / 6) (ix a) x))) (fun H => va_P D vwCl (w0 ci cz q F P g) H) (aw q 8)) (PX (k_fare F P a f h x) [xIO, xIA]) 1 6 (aw q 8) := by
  refine vx_ofX (cc := cX0_fare) (maxL := 5) (ret := (some .int)) (by decide) rfl (Nat.le_of_ble_eq_true rfl) ?_
  intro pg en s m bl mt cd ls Fx hr hlocks hex hB hl
  obtain ⟨hP, hK, hE⟩ := hB
  have hl : lv_has ls 5 [(0, .ref (q 0)), (1, .int a), (2, .int f), (3, .int h), (4, .int x)] := hl
  have Fx : CallFix pg m cd cX0_fare 5 s _ wsX0_fare RX0 := Fx
  have hx := Fx.1
  have hb := Fx.2.1
  have hS : va_S (aw q 8) s.heap s.heap [] := va_S.rf
  have hP : va_P D vwCl (w0 ci cz q F P g) s.heap := hP
  refine lv_aload_n hx hb dX0_fare_0 rfl (lv_at hl 0 rfl) ?_
  refine lv_iload_n hx hb dX0_fare_1 rfl (lv_at hl 1 rfl) ?_
  by_cases h1 : inR a P
  rotate_left
  · refine r_callX (rest := []) Fx (m_X0_needPerson_x l hl0 (D := D) (ci := ci) (cz := cz) (cj := cj) (q := q) (F := F) (P := P) (g := g) hF hP12 a h1) (cwV 1 Fx.2.2.2.2 gX0_fare_X0_needPerson rfl rfl rfl (by decide +kernel) ⟨Nat.le_of_ble_eq_true rfl, Nat.le_of_ble_eq_true rfl⟩) BW.bl (va_recv hK hP (ci := 0) (q0 := 0) rfl rfl) (BW.at hP hK hE hS) rfl hl.1 rfl (Nat.le_of_ble_eq_true rfl) dX0_fare_2 ⟨Nat.le_of_ble_eq_true rfl, Nat.le_of_ble_eq_true rfl⟩ (fun ce q9 H1 hh hce hcv hcl => ?_)
    exact p_out hex hlocks hh hce hcv hcl ⟨0, (by simp [k_fare, inR, inB, h1]), rfl⟩ (Nat.le_refl _) (Nat.le_refl _)
  obtain ⟨ja, h2, rfl⟩ := inR_of h1 (by omega)
  have h3 : ix (nI ja) = ja := ix_nI (by omega)
  refine r_callR (rest := []) Fx (m_X0_needPerson l (D := D) (ci := ci) (cz := cz) (cj := cj) (q := q) (F := F) (P := P) (g := g) hF hP12 ja (by omega)) (cwV 1 Fx.2.2.2.2 gX0_fare_X0_needPerson rfl rfl rfl (by decide +kernel) ⟨Nat.le_of_ble_eq_true rfl, Nat.le_of_ble_eq_true rfl⟩) BW.bl (va_recv hK hP (ci := 0) (q0 := 0) rfl rfl) (BW.at hP hK hE hS) rfl hl.1 rfl (Nat.le_of_ble_eq_true rfl) dX0_fare_2 ⟨Nat.zero_le _, Nat.zero_le _⟩ ?_
  refine lv_aload_n hx hb dX0_fare_5 rfl (lv_at hl 0 rfl) ?_
  refine lv_iload_n hx hb dX0_fare_6 rfl (lv_at hl 2 rfl) ?_
  by_cases h4 : inR f F
  rotate_left
  · refine r_callX (rest := []) Fx (m_X0_needFerry_x l hl0 (D := D) (ci := ci) (cz := cz) (cj := cj) (q := q) (F := F) (P := P) (g := g) hF hP12 f h4) (cwV 1 Fx.2.2.2.2 gX0_fare_X0_needFerry rfl rfl rfl (by decide +kernel) ⟨Nat.le_of_ble_eq_true rfl, Nat.le_of_ble_eq_true rfl⟩) BW.bl (va_recv hK hP (ci := 0) (q0 := 0) rfl rfl) (BW.at hP hK hE hS) rfl hl.1 rfl (Nat.le_of_ble_eq_true rfl) dX0_fare_7 ⟨Nat.le_of_ble_eq_true rfl, Nat.le_of_ble_eq_true rfl⟩ (fun ce q9 H1 hh hce hcv hcl => ?_)
    exact p_out hex hlocks hh hce hcv hcl ⟨0, (by simp [k_fare, inR, inB, h1, h2, h3, h4]), rfl⟩ (Nat.le_refl _) (Nat.le_refl _)
  obtain ⟨jf, h5, rfl⟩ := inR_of h4 (by omega)
  have h6 : ix (nI jf) = jf := ix_nI (by omega)
  refine r_callR (rest := []) Fx (m_X0_needFerry l (D := D) (ci := ci) (cz := cz) (cj := cj) (q := q) (F := F) (P := P) (g := g) hF hP12 jf (by omega)) (cwV 1 Fx.2.2.2.2 gX0_fare_X0_needFerry rfl rfl rfl (by decide +kernel) ⟨Nat.le_of_ble_eq_true rfl, Nat.le_of_ble_eq_true rfl⟩) BW.bl (va_recv hK hP (ci := 0) (q0 := 0) rfl rfl) (BW.at hP hK hE hS) rfl hl.1 rfl (Nat.le_of_ble_eq_true rfl) dX0_fare_7 ⟨Nat.zero_le _, Nat.zero_le _⟩ ?_
  refine lv_iload_n hx hb dX0_fare_10 rfl (lv_at hl 3 rfl) ?_
  by_cases h7 : inR h 24
  rotate_left
  · refine r_callXS (rest := []) Fx (m_X0_needHour_x l hl0 (D := D) (ci := ci) (cz := cz) (cj := cj) (q := q) (F := F) (P := P) (g := g) hF hP12 h h7) (va_cwS 1 Fx.2.2.2.2 gX0_fare_X0_needHour rfl rfl rfl (by decide +kernel) ⟨Nat.le_of_ble_eq_true rfl, Nat.le_of_ble_eq_true rfl⟩) BW.bl (BW.at hP hK hE hS) rfl hl.1 rfl (Nat.le_of_ble_eq_true rfl) dX0_fare_11 ⟨Nat.le_of_ble_eq_true rfl, Nat.le_of_ble_eq_true rfl⟩ (fun ce q9 H1 hh hce hcv hcl => ?_)
    exact p_out hex hlocks hh hce hcv hcl ⟨0, (by simp [k_fare, inR, inB, h1, h2, h3, h4, h5, h6, h7]), rfl⟩ (Nat.le_refl _) (Nat.le_refl _)
  obtain ⟨jh, h8, rfl⟩ := inR_of h7 (by omega)
  have h9 : ix (nI jh) = jh := ix_nI (by omega)
  refine r_callRS (rest := []) Fx (m_X0_needHour l (D := D) (ci := ci) (cz := cz) (cj := cj) (q := q) (F := F) (P := P) (g := g) hF hP12 jh (by omega)) (va_cwS 1 Fx.2.2.2.2 gX0_fare_X0_needHour rfl rfl rfl (by decide +kernel) ⟨Nat.le_of_ble_eq_true rfl, Nat.le_of_ble_eq_true rfl⟩) BW.bl (BW.at hP hK hE hS) rfl hl.1 rfl (Nat.le_of_ble_eq_true rfl) dX0_fare_11 ⟨Nat.zero_le _, Nat.zero_le _⟩ ?_
  refine lv_iload hx hb dX0_fare_14 (lv_at hl 4 rfl) ?_
  by_cases h10 : inB 1 200 x
  rotate_left
  · refine r_callXS (rest := []) Fx (m_X0_needPassengers_x l hl0 (D := D) (ci := ci) (cz := cz) (cj := cj) (q := q) (F := F) (P := P) (g := g) hF hP12 x h10) (va_cwS 1 Fx.2.2.2.2 gX0_fare_X0_needPassengers rfl rfl rfl (by decide +kernel) ⟨Nat.le_of_ble_eq_true rfl, Nat.le_of_ble_eq_true rfl⟩) BW.bl (BW.at hP hK hE hS) rfl hl.1 rfl (Nat.le_of_ble_eq_true rfl) dX0_fare_16 ⟨Nat.le_of_ble_eq_true rfl, Nat.le_of_ble_eq_true rfl⟩ (fun ce q9 H1 hh hce hcv hcl => ?_)
    exact p_out hex hlocks hh hce hcv hcl ⟨1, (by simp [k_fare, inR, inB, h1, h2, h3, h4, h5, h6, h7, h8, h9, h10]), rfl⟩ (Nat.le_refl _) (Nat.le_refl _)
  refine r_callRS (rest := []) Fx (m_X0_needPassengers l (D := D) (ci := ci) (cz := cz) (cj := cj) (q := q) (F := F) (P := P) (g := g) hF hP12 x h10) (va_cwS 1 Fx.2.2.2.2 gX0_fare_X0_needPassengers rfl rfl rfl (by decide +kernel) ⟨Nat.le_of_ble_eq_true rfl, Nat.le_of_ble_eq_true rfl⟩) BW.bl (BW.at hP hK hE hS) rfl hl.1 rfl (Nat.le_of_ble_eq_true rfl) dX0_fare_16 ⟨Nat.zero_le _, Nat.zero_le _⟩ ?_
  refine lv_aload_n hx hb dX0_fare_19 rfl (lv_at hl 0 rfl) ?_
  refine lv_iload_n hx hb dX0_fare_20 rfl (lv_at hl 1 rfl) ?_
  refine lv_iload_n hx hb dX0_fare_21 rfl (lv_at hl 2 rfl) ?_
  refine lv_iload_n hx hb dX0_fare_22 rfl (lv_at hl 3 rfl) ?_
  refine lv_bipush (v := nI 6) hx hb dX0_fare_23 (by decide) ?_
  refine r_idiv_n hx hb (by omega) (by omega) (by omega) dX0_fare_25 ?_
  refine lv_iload hx hb dX0_fare_26 (lv_at hl 4 rfl) ?_
  refine r_callR (rest := []) Fx (m_X0_fareOf l (D := D) (ci := ci) (cz := cz) (cj := cj) (q := q) (F := F) (P := P) (g := g) hF hP12 ja jf (jh / 6) x (by omega) (by omega) (by omega)) (cwV 4 Fx.2.2.2.2 gX0_fare_X0_fareOf rfl rfl rfl (by decide +kernel) ⟨Nat.le_of_ble_eq_true rfl, Nat.le_of_ble_eq_true rfl⟩) BW.bl (va_recv hK hP (ci := 0) (q0 := 0) rfl rfl) (BW.at hP hK hE hS) rfl hl.1 rfl (Nat.le_of_ble_eq_true rfl) dX0_fare_28 ⟨Nat.zero_le _, Nat.zero_le _⟩ ?_
  exact p_iret hx hb hr hlocks hS (hP) (by simp [k_fare, inR, inB, h1, h2, h3, h4, h5, h6, h7, h8, h9, h10]) (by simp [k_fare, h1, h2, h3, h4, h5, h6, h7, h8, h9, h10]) (Nat.zero_le _) (Nat.zero_le _) dX0_fare_31
set_option maxHeartbeats 4000000 in
set_option maxRecDepth 100000 in
theorem m_X0_richest (l : Launch) (hl0 : l.stackTraces = false) {D : va_G} {ci cz : ClassId} {cj : ClassId × ClassId} {q : Nat → Nat} {F P : Nat} {g : Nat → Nat → Int32} (hq : DQ q 8) (hF : F ≤ 6) (hP12 : P ≤ 12) : vx_Met l yX0_richest wsX0_richest ({ frames := 6, cells := 1, slots := 6, locals := 82 } : Room) (va_Pc [.ref (q 0)] (B0 D ci cz cj q F P g)) (PQ (k_richest P g) (some (.int (sRic g P))) (fun H => va_P D vwCl (w0 ci cz q F P g) H) (aw q 8)) (PX (k_richest P g) [xIS]) 1 6 (aw q 8) := by
  refine vx_ofX (cc := cX0_richest) (maxL := 4) (ret := (some .int)) (by decide) rfl (Nat.le_of_ble_eq_true rfl) ?_
  intro pg en s m bl mt cd ls Fx hr hlocks hex hB hl
  obtain ⟨hP, hK, hE⟩ := hB
  have hl : lv_has ls 4 [(0, .ref (q 0))] := hl
  have Fx : CallFix pg m cd cX0_richest 4 s _ wsX0_richest RX0 := Fx
  have hx := Fx.1
  have hb := Fx.2.1
  have hin : ∀ w ∈ wsX00, w ∈ wsX0_richest := by decide +kernel
  have hS : va_S (aw q 8) s.heap s.heap [] := va_S.rf
  have hP : va_P D vwCl (w0 ci cz q F P g) s.heap := hP
  refine lv_iconst (v := -1) hx hb dX0_richest_0 (by decide) ?_
  refine lv_istore_n (lv' := [(1, .int (-1)), (0, .ref (q 0))]) hx hb dX0_richest_1 rfl hl (by decide) rfl (fun ls hl => ?_)
  refine lv_iconst (v := -1) hx hb dX0_richest_2 (by decide) ?_
  refine lv_istore_n (lv' := [(2, .int (-1)), (1, .int (-1)), (0, .ref (q 0))]) hx hb dX0_richest_3 rfl hl (by decide) rfl (fun ls hl => ?_)
  refine lv_iconst (v := nI 0) hx hb dX0_richest_4 (by decide) ?_
  refine lv_istore_n (lv' := [(3, .int (nI 0)), (2, .int (-1)), (1, .int (-1)), (0, .ref (q 0))]) hx hb dX0_richest_5 rfl hl (by decide) rfl (fun ls hl => ?_)
  refine rloop (nL := 4) (N := P) (fun _ => True) (fun i => [(0, .ref (q 0)), (1, .int ((ri (fun z => lv g z) (fun z => g 4 z) i).1)), (2, .int ((ri (fun z => lv g z) (fun z => g 4 z) i).2)), (3, .int (nI i))]) (trivial) (lv_sub hl [3, 2, 1, 0] rfl) ?_ ?_
  · intro h1 ls hl
    have hl : lv_has ls 4 [(0, .ref (q 0)), (1, .int ((ri (fun z => lv g z) (fun z => g 4 z) P).1)), (2, .int ((ri (fun z => lv g z) (fun z => g 4 z) P).2)), (3, .int (nI P))] := hl
    refine lv_iload_n hx hb dX0_richest_6 rfl (lv_at hl 3 rfl) ?_
    refine lv_aload_n hx hb dX0_richest_7 rfl (lv_at hl 0 rfl) ?_
    refine r_get Fx hin hK hP 0 rfl 4 (by decide) (by decide +kernel) rfl rfl dX0_richest_8 ?_
    refine n_icmp_ge (tgt := 48) hx hb (by omega) (by omega) dX0_richest_11 (by decide) (fun h2 => ?_) (fun h2 => by omega)
    refine lv_iload_n hx hb dX0_richest_48 rfl (lv_at hl 1 rfl) ?_
    refine lv_iconst (v := -1) hx hb dX0_richest_49 (by decide) ?_
    refine lv_icmp_ne (tgt := 63) hx hb dX0_richest_50 (by decide) (fun h3 => ?_) (fun h3 => ?_)
    · refine lv_iload_n hx hb dX0_richest_63 rfl (lv_at hl 1 rfl) ?_
      exact p_iret hx hb hr hlocks hS (hP) (by simp [k_richest, sRic, inR, inB, h2, h3]) (by simp [k_richest, sRic, h2, h3]) (Nat.zero_le _) (Nat.zero_le _) dX0_richest_64
    · exact x0_throw (cls := xIS) (text := "nobody is alive") Fx hl0 hE hS hex hlocks (by decide +kernel) (by decide +kernel) (by decide +kernel) (by decide +kernel) (by decide +kernel) hl.1 dX0_richest_53 dX0_richest_56 dX0_richest_57 dX0_richest_59 dX0_richest_62 (Nat.le_of_ble_eq_true rfl) (Nat.le_of_ble_eq_true rfl) (Nat.le_of_ble_eq_true rfl) (Nat.le_of_ble_eq_true rfl) (fun t ht => ⟨⟨0, (by simp [k_richest, sRic, inR, inB, h2, h3]), rfl⟩, ht⟩) nin (Nat.le_refl _) (Nat.le_refl _)
  · intro i h5 h4 ih6 ls hl
    have hl : lv_has ls 4 [(0, .ref (q 0)), (1, .int ((ri (fun z => lv g z) (fun z => g 4 z) i).1)), (2, .int ((ri (fun z => lv g z) (fun z => g 4 z) i).2)), (3, .int (nI i))] := hl
    refine lv_iload_n hx hb dX0_richest_6 rfl (lv_at hl 3 rfl) ?_
    refine lv_aload_n hx hb dX0_richest_7 rfl (lv_at hl 0 rfl) ?_
    refine r_get Fx hin hK hP 0 rfl 4 (by decide) (by decide +kernel) rfl rfl dX0_richest_8 ?_
    refine n_icmp_ge (tgt := 48) hx hb (by omega) (by omega) dX0_richest_11 (by decide) (fun h6 => by omega) (fun h6 => ?_)
    refine lv_aload_n hx hb dX0_richest_14 rfl (lv_at hl 0 rfl) ?_
    refine r_get Fx hin hK hP 0 rfl 5 (by decide) (by decide +kernel) rfl rfl dX0_richest_15 ?_
    refine lv_iload_n hx hb dX0_richest_18 rfl (lv_at hl 3 rfl) ?_
    refine r_alive Fx hK hP (i := i) (by omega) (by omega) dX0_richest_19 ?_
    refine b_if_eq (tgt := 42) hx hb dX0_richest_20 (by decide) (fun h7 => ?_) (fun h7 => ?_)
    · refine lv_iinc (v := nI (i + 1)) (lv' := [(3, .int (nI (i + 1))), (0, .ref (q 0)), (1, .int ((ri (fun z => lv g z) (fun z => g 4 z) i).1)), (2, .int ((ri (fun z => lv g z) (fun z => g 4 z) i).2))]) hx hb dX0_richest_42 hl (k := 3) rfl (nI_inc _ 1) (by decide) rfl (fun ls hl => ?_)
      refine lv_goto (tgt := 6) hx hb dX0_richest_45 (by decide) ?_
      have e1_ : (ri (fun z => lv g z) (fun z => g 4 z) i).1 = (ri (fun z => lv g z) (fun z => g 4 z) (i + 1)).1 := by simp [ri, h5, h6, h7]
      rw [e1_] at hl
      have e2_ : (ri (fun z => lv g z) (fun z => g 4 z) i).2 = (ri (fun z => lv g z) (fun z => g 4 z) (i + 1)).2 := by simp [ri, h5, h6, h7]
      rw [e2_] at hl
      exact ih6 (trivial) _ (lv_sub hl [1, 2, 3, 0] rfl)
    · refine lv_aload_n hx hb dX0_richest_23 rfl (lv_at hl 0 rfl) ?_
      refine r_get Fx hin hK hP 0 rfl 6 (by decide) (by decide +kernel) rfl rfl dX0_richest_24 ?_
      refine lv_iload_n hx hb dX0_richest_27 rfl (lv_at hl 3 rfl) ?_
      refine r_iald Fx hK hP 5 0 rfl rfl (i := i) (by omega) (by decide) dX0_richest_28 ?_
      refine lv_iload_n hx hb dX0_richest_29 rfl (lv_at hl 2 rfl) ?_
      refine lv_icmp_le (tgt := 42) hx hb dX0_richest_30 (by decide) (fun h8 => ?_) (fun h8 => ?_)
      · refine lv_iinc (v := nI (i + 1)) (lv' := [(3, .int (nI (i + 1))), (0, .ref (q 0)), (1, .int ((ri (fun z => lv g z) (fun z => g 4 z) i).1)), (2, .int ((ri (fun z => lv g z) (fun z => g 4 z) i).2))]) hx hb dX0_richest_42 hl (k := 3) rfl (nI_inc _ 1) (by decide) rfl (fun ls hl => ?_)
        refine lv_goto (tgt := 6) hx hb dX0_richest_45 (by decide) ?_
        have e1_ : (ri (fun z => lv g z) (fun z => g 4 z) i).1 = (ri (fun z => lv g z) (fun z => g 4 z) (i + 1)).1 := by simp [ri, h5, h6, h7, h8, Int32.not_lt.mpr h8]
        rw [e1_] at hl
        have e2_ : (ri (fun z => lv g z) (fun z => g 4 z) i).2 = (ri (fun z => lv g z) (fun z => g 4 z) (i + 1)).2 := by simp [ri, h5, h6, h7, h8, Int32.not_lt.mpr h8]
        rw [e2_] at hl
        exact ih6 (trivial) _ (lv_sub hl [1, 2, 3, 0] rfl)
      · have h8 := Int32.not_le.mp h8
        refine lv_iload_n hx hb dX0_richest_33 rfl (lv_at hl 3 rfl) ?_
        refine lv_istore_n (lv' := [(1, .int (nI i)), (0, .ref (q 0)), (2, .int ((ri (fun z => lv g z) (fun z => g 4 z) i).2)), (3, .int (nI i))]) hx hb dX0_richest_34 rfl hl (by decide) rfl (fun ls hl => ?_)
        refine lv_aload_n hx hb dX0_richest_35 rfl (lv_at hl 1 rfl) ?_
        refine r_get Fx hin hK hP 0 rfl 6 (by decide) (by decide +kernel) rfl rfl dX0_richest_36 ?_
        refine lv_iload_n hx hb dX0_richest_39 rfl (lv_at hl 3 rfl) ?_
        refine r_iald Fx hK hP 5 0 rfl rfl (i := i) (by omega) (by decide) dX0_richest_40 ?_
        refine lv_istore_n (lv' := [(2, .int (g 4 i)), (1, .int (nI i)), (0, .ref (q 0)), (3, .int (nI i))]) hx hb dX0_richest_41 rfl hl (by decide) rfl (fun ls hl => ?_)
        refine lv_iinc (v := nI (i + 1)) (lv' := [(3, .int (nI (i + 1))), (2, .int (g 4 i)), (1, .int (nI i)), (0, .ref (q 0))]) hx hb dX0_richest_42 hl (k := 3) rfl (nI_inc _ 1) (by decide) rfl (fun ls hl => ?_)
        refine lv_goto (tgt := 6) hx hb dX0_richest_45 (by decide) ?_
        have e1_ : nI i = (ri (fun z => lv g z) (fun z => g 4 z) (i + 1)).1 := by simp [ri, h5, h6, h7, h8, Int32.not_le.mpr h8]
        rw [e1_] at hl
        have e2_ : g 4 i = (ri (fun z => lv g z) (fun z => g 4 z) (i + 1)).2 := by simp [ri, h5, h6, h7, h8, Int32.not_le.mpr h8]
        rw [e2_] at hl
        exact ih6 (trivial) _ (lv_sub hl [3, 2, 1, 0] rfl)
end
section
/-! FerryRights, IV: what changes it -/
set_option maxHeartbeats 4000000 in
set_option maxRecDepth 100000 in
theorem m_X0_settle (l : Launch) {D : va_G} {ci cz : ClassId} {cj : ClassId × ClassId} {q : Nat → Nat} {F P : Nat} {g : Nat → Nat → Int32} (hq : DQ q 8) (hF : F ≤ 6) (hP12 : P ≤ 12) (x : Int32) (ha0 : P < 12) (ha1 : g 3 P = 0) : Met l yX0_settle wsX0_settle ({ frames := 0, cells := 0, slots := 0, locals := 0 } : Room) (va_Pc [.ref (q 0), .int x] (B0 D ci cz cj q F P g)) (WQ (some (.int (nI P))) (fun H => va_P D vwCl (w0 ci cz q F (P + 1) (gPar g P x)) H) (aw q 8)) 0 0 (aw q 8) := by
  refine Met.ofWr (cc := cX0_settle) (maxL := 3) (ret := (some .int)) (by decide) rfl (Nat.le_of_ble_eq_true rfl) ?_
  intro pg en s m bl mt cd ls Fx hr hlocks hB hl
  obtain ⟨hP, hK, hE⟩ := hB
  have hl : lv_has ls 3 [(0, .ref (q 0)), (1, .int x)] := hl
  have Fx : CallFix pg m cd cX0_settle 3 s _ wsX0_settle RX0 := Fx
  have hx := Fx.1
  have hb := Fx.2.1
  have hin : ∀ w ∈ wsX00, w ∈ wsX0_settle := by decide +kernel
  have hS : va_S (aw q 8) s.heap s.heap [] := va_S.rf
  have hP : va_P D vwCl (w0 ci cz q F P g) s.heap := hP
  refine lv_aload_n hx hb dX0_settle_0 rfl (lv_at hl 0 rfl) ?_
  refine r_get Fx hin hK hP 0 rfl 4 (by decide) (by decide +kernel) rfl rfl dX0_settle_1 ?_
  refine lv_istore_n (lv' := [(2, .int (nI P)), (0, .ref (q 0)), (1, .int x)]) hx hb dX0_settle_4 rfl hl (by decide) rfl (fun ls hl => ?_)
  refine lv_aload_n hx hb dX0_settle_5 rfl (lv_at hl 1 rfl) ?_
  refine r_get Fx hin hK hP 0 rfl 5 (by decide) (by decide +kernel) rfl rfl dX0_settle_6 ?_
  refine lv_iload_n hx hb dX0_settle_9 rfl (lv_at hl 0 rfl) ?_
  refine lv_iconst (v := nI 1) hx hb dX0_settle_10 (by decide) ?_
  refine r_zast Fx hK hP (d0 hq) hS 4 1 rfl rfl (i := P) (by omega) (by decide) rfl dX0_settle_11 (fun H locs hP hS => ?_)
  have hP : va_P D vwCl (w0r ci cz q F P (upd (alv P (g 3)) P (nI 1)) g) H := hP
  refine lv_aload_n hx hb dX0_settle_12 rfl (lv_at hl 1 rfl) ?_
  refine r_get Fx hin hK hP 0 rfl 8 (by decide) (by decide +kernel) rfl rfl dX0_settle_13 ?_
  refine lv_iload_n hx hb dX0_settle_16 rfl (lv_at hl 0 rfl) ?_
  refine lv_iload_n hx hb dX0_settle_17 rfl (lv_at hl 2 rfl) ?_
  refine r_iast Fx hK hP (d0 hq) hS 7 0 rfl rfl (i := P) (by omega) (by decide) dX0_settle_18 (fun H locs hP hS => ?_)
  have hP : va_P D vwCl (w0r ci cz q F P (upd (alv P (g 3)) P (nI 1)) (va_up g 6 (upd (g 6) P x))) H := hP
  refine lv_aload_n hx hb dX0_settle_19 rfl (lv_at hl 1 rfl) ?_
  refine lv_iload_n hx hb dX0_settle_20 rfl (lv_at hl 0 rfl) ?_
  refine lv_iconst (v := nI 1) hx hb dX0_settle_21 (by decide) ?_
  refine r_iadd_n hx hb dX0_settle_22 ?_
  refine r_put Fx hin tyX0 tyX0_ok nmX0 hK hP (d0 hq) hS 0 rfl 4 (by decide) (by decide +kernel) rfl (by decide +kernel) rfl (Nat.le_of_ble_eq_true rfl) dX0_settle_23 (fun H locs hP hS => ?_)
  have hP : va_P D vwCl (w0r ci cz q F (P + 1) (upd (alv P (g 3)) P (nI 1)) (va_up g 6 (upd (g 6) P x))) H := hP
  refine lv_iload_n hx hb dX0_settle_26 rfl (lv_at hl 0 rfl) ?_
  exact w_iret hx hb hr hlocks hS (by rw [settle_w ha1] at hP; exact hP) (rfl) dX0_settle_27
set_option maxHeartbeats 4000000 in
set_option maxRecDepth 100000 in
theorem m_X0_addCoins (l : Launch) {D : va_G} {ci cz : ClassId} {cj : ClassId × ClassId} {q : Nat → Nat} {F P : Nat} {g : Nat → Nat → Int32} (hq : DQ q 8) (hF : F ≤ 6) (hP12 : P ≤ 12) (k : Nat) (x : Int32) (ha0 : k < 12) : Met l yX0_addCoins wsX0_addCoins ({ frames := 1, cells := 0, slots := 0, locals := 17 } : Room) (va_Pc [.ref (q 0), .int (nI k), .int x] (B0 D ci cz cj q F P g)) (WQ none (fun H => va_P D vwCl (w0 ci cz q F P (gGet g k x)) H) (aw q 8)) 0 0 (aw q 8) := by
  refine Met.ofWr (cc := cX0_addCoins) (maxL := 3) (ret := none) (by decide) rfl (Nat.le_of_ble_eq_true rfl) ?_
  intro pg en s m bl mt cd ls Fx hr hlocks hB hl
  obtain ⟨hP, hK, hE⟩ := hB
  have hl : lv_has ls 3 [(0, .ref (q 0)), (1, .int (nI k)), (2, .int x)] := hl
  have Fx : CallFix pg m cd cX0_addCoins 3 s _ wsX0_addCoins RX0 := Fx
  have hx := Fx.1
  have hb := Fx.2.1
  have hin : ∀ w ∈ wsX00, w ∈ wsX0_addCoins := by decide +kernel
  have hS : va_S (aw q 8) s.heap s.heap [] := va_S.rf
  have hP : va_P D vwCl (w0 ci cz q F P g) s.heap := hP
  refine lv_aload_n hx hb dX0_addCoins_0 rfl (lv_at hl 0 rfl) ?_
  refine r_get Fx hin hK hP 0 rfl 6 (by decide) (by decide +kernel) rfl rfl dX0_addCoins_1 ?_
  refine lv_iload_n hx hb dX0_addCoins_4 rfl (lv_at hl 1 rfl) ?_
  refine lv_sipush (v := nI 9999) hx hb dX0_addCoins_5 (by decide) ?_
  refine lv_aload_n hx hb dX0_addCoins_8 rfl (lv_at hl 0 rfl) ?_
  refine r_get Fx hin hK hP 0 rfl 6 (by decide) (by decide +kernel) rfl rfl dX0_addCoins_9 ?_
  refine lv_iload_n hx hb dX0_addCoins_12 rfl (lv_at hl 1 rfl) ?_
  refine r_iald Fx hK hP 5 0 rfl rfl (i := k) (by omega) (by decide) dX0_addCoins_13 ?_
  refine lv_iload_n hx hb dX0_addCoins_14 rfl (lv_at hl 2 rfl) ?_
  refine lv_iadd hx hb dX0_addCoins_15 ?_
  refine va_mmin hx hb (Fx.2.2.1.trans hl.1.symm) Fx.2.2.2.1 (Fx.2.2.2.2 (.methodLink RX0 208 Lib.Math.min.name) (by decide +kernel)) (Fx.2.2.2.2 (.static Lib.Math.min.name) (by decide +kernel)) (Fx.2.2.2.2 (.initialized "java/lang/Math") (by decide +kernel)) (Fx.2.2.2.2 (.code Lib.Math.min.name Lib.Math.min.code 2 (some .int)) (by decide +kernel)) (Nat.le_of_ble_eq_true rfl) (Nat.le_of_ble_eq_true rfl) (Nat.zero_le _) (Nat.zero_le _) dX0_addCoins_16 ?_
  refine r_iast Fx hK hP (d0 hq) hS 5 0 rfl rfl (i := k) (by omega) (by decide) dX0_addCoins_19 (fun H locs hP hS => ?_)
  have hP : va_P D vwCl (w0 ci cz q F P (va_up g 4 (upd (g 4) k (mn (g 4 k + x))))) H := hP
  exact w_vret hx hb hr hlocks hS (hP) dX0_addCoins_20
set_option maxHeartbeats 4000000 in
set_option maxRecDepth 100000 in
theorem m_X0_addShares (l : Launch) {D : va_G} {ci cz : ClassId} {cj : ClassId × ClassId} {q : Nat → Nat} {F P : Nat} {g : Nat → Nat → Int32} (hq : DQ q 8) (hF : F ≤ 6) (hP12 : P ≤ 12) (f : Nat) (w : Nat) (k : Nat) (x : Int32) (ha0 : f < 6) (ha1 : w < 4) (ha2 : k < 12) : Met l yX0_addShares wsX0_addShares ({ frames := 1, cells := 0, slots := 0, locals := 22 } : Room) (va_Pc [.ref (q 0), .int (nI f), .int (nI w), .int (nI k), .int x] (B0 D ci cz cj q F P g)) (WQ none (fun H => va_P D vwCl (w0 ci cz q F P (gAdd g f w k x)) H) (aw q 8)) 0 0 (aw q 8) := by
  refine Met.ofWr (cc := cX0_addShares) (maxL := 5) (ret := none) (by decide) rfl (Nat.le_of_ble_eq_true rfl) ?_
  intro pg en s m bl mt cd ls Fx hr hlocks hB hl
  obtain ⟨hP, hK, hE⟩ := hB
  have hl : lv_has ls 5 [(0, .ref (q 0)), (1, .int (nI f)), (2, .int (nI w)), (3, .int (nI k)), (4, .int x)] := hl
  have Fx : CallFix pg m cd cX0_addShares 5 s _ wsX0_addShares RX0 := Fx
  have hx := Fx.1
  have hb := Fx.2.1
  have hin : ∀ w ∈ wsX00, w ∈ wsX0_addShares := by decide +kernel
  have hS : va_S (aw q 8) s.heap s.heap [] := va_S.rf
  have hP : va_P D vwCl (w0 ci cz q F P g) s.heap := hP
  refine lv_aload_n hx hb dX0_addShares_0 rfl (lv_at hl 0 rfl) ?_
  refine r_get Fx hin hK hP 0 rfl 3 (by decide) (by decide +kernel) rfl rfl dX0_addShares_1 ?_
  refine lv_iload_n hx hb dX0_addShares_4 rfl (lv_at hl 1 rfl) ?_
  refine lv_iload_n hx hb dX0_addShares_5 rfl (lv_at hl 2 rfl) ?_
  refine lv_iload_n hx hb dX0_addShares_6 rfl (lv_at hl 3 rfl) ?_
  refine r_callRS (rest := [.ref (q 3)]) Fx (m_X0_slot l (D := D) (ci := ci) (cz := cz) (cj := cj) (q := q) (F := F) (P := P) (g := g) hF hP12 f w k ) (va_cwS 3 Fx.2.2.2.2 gX0_addShares_X0_slot rfl rfl rfl (by decide +kernel) ⟨Nat.le_of_ble_eq_true rfl, Nat.le_of_ble_eq_true rfl⟩) BW.bl (BW.at hP hK hE hS) rfl hl.1 rfl (Nat.le_of_ble_eq_true rfl) dX0_addShares_7 ⟨Nat.zero_le _, Nat.zero_le _⟩ ?_
  refine lv_dup2_11 hx hb dX0_addShares_10 rfl rfl ?_
  refine r_iald Fx hK hP 3 0 rfl rfl (i := sl f w k) (sl_lt (by omega) (by omega) (by omega)) (by decide) dX0_addShares_11 ?_
  refine lv_iload hx hb dX0_addShares_12 (lv_at hl 4 rfl) ?_
  refine lv_iadd hx hb dX0_addShares_14 ?_
  refine r_iast Fx hK hP (d0 hq) hS 3 0 rfl rfl (i := sl f w k) (sl_lt (by omega) (by omega) (by omega)) (by decide) dX0_addShares_15 (fun H locs hP hS => ?_)
  have hP : va_P D vwCl (w0 ci cz q F P (va_up g 2 (upd (g 2) (sl f w k) ((g 2 (sl f w k)) + x)))) H := hP
  exact w_vret hx hb hr hlocks hS (hP) dX0_addShares_16
set_option maxHeartbeats 4000000 in
set_option maxRecDepth 100000 in
theorem m_X0_addFerry (l : Launch) (hl0 : l.stackTraces = false) {D : va_G} {ci cz : ClassId} {cj : ClassId × ClassId} {q : Nat → Nat} {F P : Nat} {g : Nat → Nat → Int32} (hq : DQ q 8) (hF : F ≤ 6) (hP12 : P ≤ 12) (a : Int32) : vx_Met l yX0_addFerry wsX0_addFerry ({ frames := 7, cells := 1, slots := 6, locals := 102 } : Room) (va_Pc [.ref (q 0), .int a] (B0 D ci cz cj q F P g)) (PQ (k_addFerry F a) (some (.int (nI F))) (fun H => va_P D vwCl (w0 ci cz q (F + 1) P (gTol g F a)) H) (aw q 8)) (PX (k_addFerry F a) [xIA, xIS]) 1 6 (aw q 8) := by
  refine vx_ofX (cc := cX0_addFerry) (maxL := 3) (ret := (some .int)) (by decide) rfl (Nat.le_of_ble_eq_true rfl) ?_
  intro pg en s m bl mt cd ls Fx hr hlocks hex hB hl
  obtain ⟨hP, hK, hE⟩ := hB
  have hl : lv_has ls 3 [(0, .ref (q 0)), (1, .int a)] := hl
  have Fx : CallFix pg m cd cX0_addFerry 3 s _ wsX0_addFerry RX0 := Fx
  have hx := Fx.1
  have hb := Fx.2.1
  have hin : ∀ w ∈ wsX00, w ∈ wsX0_addFerry := by decide +kernel
  have hS : va_S (aw q 8) s.heap s.heap [] := va_S.rf
  have hP : va_P D vwCl (w0 ci cz q F P g) s.heap := hP
  refine lv_iload_n hx hb dX0_addFerry_0 rfl (lv_at hl 1 rfl) ?_
  by_cases h1 : 0 ≤ a ∧ a ≤ nI 20
  rotate_left
  · refine r_callXS (rest := []) Fx (m_X0_needToll_x l hl0 (D := D) (ci := ci) (cz := cz) (cj := cj) (q := q) (F := F) (P := P) (g := g) hF hP12 a h1) (va_cwS 1 Fx.2.2.2.2 gX0_addFerry_X0_needToll rfl rfl rfl (by decide +kernel) ⟨Nat.le_of_ble_eq_true rfl, Nat.le_of_ble_eq_true rfl⟩) BW.bl (BW.at hP hK hE hS) rfl hl.1 rfl (Nat.le_of_ble_eq_true rfl) dX0_addFerry_1 ⟨Nat.le_of_ble_eq_true rfl, Nat.le_of_ble_eq_true rfl⟩ (fun ce q9 H1 hh hce hcv hcl => ?_)
    exact p_out hex hlocks hh hce hcv hcl ⟨0, (by simp [k_addFerry, inR, inB, h1]), rfl⟩ (Nat.le_refl _) (Nat.le_refl _)
  refine r_callRS (rest := []) Fx (m_X0_needToll l (D := D) (ci := ci) (cz := cz) (cj := cj) (q := q) (F := F) (P := P) (g := g) hF hP12 a h1) (va_cwS 1 Fx.2.2.2.2 gX0_addFerry_X0_needToll rfl rfl rfl (by decide +kernel) ⟨Nat.le_of_ble_eq_true rfl, Nat.le_of_ble_eq_true rfl⟩) BW.bl (BW.at hP hK hE hS) rfl hl.1 rfl (Nat.le_of_ble_eq_true rfl) dX0_addFerry_1 ⟨Nat.zero_le _, Nat.zero_le _⟩ ?_
  refine lv_aload_n hx hb dX0_addFerry_4 rfl (lv_at hl 0 rfl) ?_
  refine r_get Fx hin hK hP 0 rfl 0 (by decide) (by decide +kernel) rfl rfl dX0_addFerry_5 ?_
  refine lv_bipush (v := nI 6) hx hb dX0_addFerry_8 (by decide) ?_
  refine n_icmp_lt (tgt := 23) hx hb (by omega) (by omega) dX0_addFerry_10 (by decide) (fun h2 => ?_) (fun h2 => ?_)
  · refine lv_aload_n hx hb dX0_addFerry_23 rfl (lv_at hl 0 rfl) ?_
    refine r_get Fx hin hK hP 0 rfl 0 (by decide) (by decide +kernel) rfl rfl dX0_addFerry_24 ?_
    refine lv_istore_n (lv' := [(2, .int (nI F)), (0, .ref (q 0)), (1, .int a)]) hx hb dX0_addFerry_27 rfl hl (by decide) rfl (fun ls hl => ?_)
    refine lv_aload_n hx hb dX0_addFerry_28 rfl (lv_at hl 1 rfl) ?_
    refine r_get Fx hin hK hP 0 rfl 1 (by decide) (by decide +kernel) rfl rfl dX0_addFerry_29 ?_
    refine lv_iload_n hx hb dX0_addFerry_32 rfl (lv_at hl 0 rfl) ?_
    refine lv_iload_n hx hb dX0_addFerry_33 rfl (lv_at hl 2 rfl) ?_
    refine r_iast Fx hK hP (d0 hq) hS 1 0 rfl rfl (i := F) (by omega) (by decide) dX0_addFerry_34 (fun H locs hP hS => ?_)
    have hP : va_P D vwCl (w0 ci cz q F P (va_up g 0 (upd (g 0) F a))) H := hP
    refine lv_aload_n hx hb dX0_addFerry_35 rfl (lv_at hl 1 rfl) ?_
    refine lv_iload_n hx hb dX0_addFerry_36 rfl (lv_at hl 0 rfl) ?_
    refine lv_iconst (v := nI 1) hx hb dX0_addFerry_37 (by decide) ?_
    refine r_iadd_n hx hb dX0_addFerry_38 ?_
    refine r_put Fx hin tyX0 tyX0_ok nmX0 hK hP (d0 hq) hS 0 rfl 0 (by decide) (by decide +kernel) rfl (by decide +kernel) rfl (Nat.le_of_ble_eq_true rfl) dX0_addFerry_39 (fun H locs hP hS => ?_)
    have hP : va_P D vwCl (w0 ci cz q (F + 1) P (va_up g 0 (upd (g 0) F a))) H := hP
    refine lv_iload_n hx hb dX0_addFerry_42 rfl (lv_at hl 0 rfl) ?_
    exact p_iret hx hb hr hlocks hS (hP) (by simp [k_addFerry, inR, inB, h1, h2, Nat.not_le.mpr h2, Nat.ne_of_gt h2]) (by simp [k_addFerry, h1, h2, Nat.not_le.mpr h2, Nat.ne_of_gt h2]) (Nat.zero_le _) (Nat.zero_le _) dX0_addFerry_43
  · exact x0_throw (cls := xIS) (text := "there are 6 ferries") Fx hl0 hE hS hex hlocks (by decide +kernel) (by decide +kernel) (by decide +kernel) (by decide +kernel) (by decide +kernel) hl.1 dX0_addFerry_13 dX0_addFerry_16 dX0_addFerry_17 dX0_addFerry_19 dX0_addFerry_22 (Nat.le_of_ble_eq_true rfl) (Nat.le_of_ble_eq_true rfl) (Nat.le_of_ble_eq_true rfl) (Nat.le_of_ble_eq_true rfl) (fun t ht => ⟨⟨1, (by simp [k_addFerry, inR, inB, h1, h2, Nat.not_lt.mpr h2]), rfl⟩, ht⟩) nin (Nat.le_refl _) (Nat.le_refl _)
set_option maxHeartbeats 4000000 in
set_option maxRecDepth 100000 in
theorem m_X0_addPerson (l : Launch) (hl0 : l.stackTraces = false) {D : va_G} {ci cz : ClassId} {cj : ClassId × ClassId} {q : Nat → Nat} {F P : Nat} {g : Nat → Nat → Int32} (hq : DQ q 8) (hF : F ≤ 6) (hP12 : P ≤ 12) (ha0 : ∀ z, P ≤ z → g 3 z = 0) : vx_Met l yX0_addPerson wsX0_addPerson ({ frames := 7, cells := 1, slots := 6, locals := 102 } : Room) (va_Pc [.ref (q 0)] (B0 D ci cz cj q F P g)) (PQ (k_addPerson P) (some (.int (nI P))) (fun H => va_P D vwCl (w0 ci cz q F (P + 1) (gPar g P (-1))) H) (aw q 8)) (PX (k_addPerson P) [xIS]) 1 6 (aw q 8) := by
  refine vx_ofX (cc := cX0_addPerson) (maxL := 1) (ret := (some .int)) (by decide) rfl (Nat.le_of_ble_eq_true rfl) ?_
  intro pg en s m bl mt cd ls Fx hr hlocks hex hB hl
  obtain ⟨hP, hK, hE⟩ := hB
  have hl : lv_has ls 1 [(0, .ref (q 0))] := hl
  have Fx : CallFix pg m cd cX0_addPerson 1 s _ wsX0_addPerson RX0 := Fx
  have hx := Fx.1
  have hb := Fx.2.1
  have hS : va_S (aw q 8) s.heap s.heap [] := va_S.rf
  have hP : va_P D vwCl (w0 ci cz q F P g) s.heap := hP
  refine lv_aload_n hx hb dX0_addPerson_0 rfl (lv_at hl 0 rfl) ?_
  by_cases h1 : P < 12
  rotate_left
  · refine r_callX (rest := []) Fx (m_X0_needRoomForPerson_x l hl0 (D := D) (ci := ci) (cz := cz) (cj := cj) (q := q) (F := F) (P := P) (g := g) hF hP12  h1) (cwV 0 Fx.2.2.2.2 gX0_addPerson_X0_needRoomForPerson rfl rfl rfl (by decide +kernel) ⟨Nat.le_of_ble_eq_true rfl, Nat.le_of_ble_eq_true rfl⟩) BW.bl (va_recv hK hP (ci := 0) (q0 := 0) rfl rfl) (BW.at hP hK hE hS) rfl hl.1 rfl (Nat.le_of_ble_eq_true rfl) dX0_addPerson_1 ⟨Nat.le_of_ble_eq_true rfl, Nat.le_of_ble_eq_true rfl⟩ (fun ce q9 H1 hh hce hcv hcl => ?_)
    exact p_out hex hlocks hh hce hcv hcl ⟨0, (by simp [k_addPerson, inR, inB, h1]), rfl⟩ (Nat.le_refl _) (Nat.le_refl _)
  refine r_callR (rest := []) Fx (m_X0_needRoomForPerson l (D := D) (ci := ci) (cz := cz) (cj := cj) (q := q) (F := F) (P := P) (g := g) hF hP12  h1) (cwV 0 Fx.2.2.2.2 gX0_addPerson_X0_needRoomForPerson rfl rfl rfl (by decide +kernel) ⟨Nat.le_of_ble_eq_true rfl, Nat.le_of_ble_eq_true rfl⟩) BW.bl (va_recv hK hP (ci := 0) (q0 := 0) rfl rfl) (BW.at hP hK hE hS) rfl hl.1 rfl (Nat.le_of_ble_eq_true rfl) dX0_addPerson_1 ⟨Nat.zero_le _, Nat.zero_le _⟩ ?_
  refine lv_aload_n hx hb dX0_addPerson_4 rfl (lv_at hl 0 rfl) ?_
  refine lv_iconst (v := -1) hx hb dX0_addPerson_5 (by decide) ?_
  refine r_callW (rest := []) Fx (m_X0_settle l (D := D) (ci := ci) (cz := cz) (cj := cj) (q := q) (F := F) (P := P) (g := g) hq hF hP12 (-1) (by omega) (ha0 _ (Nat.le_refl _))) (cwV 1 Fx.2.2.2.2 gX0_addPerson_X0_settle rfl rfl rfl (by decide +kernel) ⟨Nat.le_of_ble_eq_true rfl, Nat.le_of_ble_eq_true rfl⟩) BW.bl (va_recv hK hP (ci := 0) (q0 := 0) rfl rfl) (BW.at hP hK hE hS) rfl hl.1 rfl (Nat.le_of_ble_eq_true rfl) dX0_addPerson_6 ⟨Nat.zero_le _, Nat.zero_le _⟩ hS (fun _ h => h) (fun H locs hP hS _ _ => ?_)
  have hP : va_P D vwCl (w0 ci cz q F (P + 1) (gPar g P (-1))) H := hP
  exact p_iret hx hb hr hlocks hS (hP) (by simp [k_addPerson, inR, inB, h1]) (by simp [k_addPerson, h1]) (Nat.zero_le _) (Nat.zero_le _) dX0_addPerson_9
set_option maxHeartbeats 4000000 in
set_option maxRecDepth 100000 in
theorem m_X0_addChild (l : Launch) (hl0 : l.stackTraces = false) {D : va_G} {ci cz : ClassId} {cj : ClassId × ClassId} {q : Nat → Nat} {F P : Nat} {g : Nat → Nat → Int32} (hq : DQ q 8) (hF : F ≤ 6) (hP12 : P ≤ 12) (a : Int32) (ha0 : ∀ z, P ≤ z → g 3 z = 0) : vx_Met l yX0_addChild wsX0_addChild ({ frames := 7, cells := 1, slots := 6, locals := 103 } : Room) (va_Pc [.ref (q 0), .int a] (B0 D ci cz cj q F P g)) (PQ (k_addChild P g a) (some (.int (nI P))) (fun H => va_P D vwCl (w0 ci cz q F (P + 1) (gPar g P a)) H) (aw q 8)) (PX (k_addChild P g a) [xIO, xIS]) 1 6 (aw q 8) := by
  refine vx_ofX (cc := cX0_addChild) (maxL := 2) (ret := (some .int)) (by decide) rfl (Nat.le_of_ble_eq_true rfl) ?_
  intro pg en s m bl mt cd ls Fx hr hlocks hex hB hl
  obtain ⟨hP, hK, hE⟩ := hB
  have hl : lv_has ls 2 [(0, .ref (q 0)), (1, .int a)] := hl
  have Fx : CallFix pg m cd cX0_addChild 2 s _ wsX0_addChild RX0 := Fx
  have hx := Fx.1
  have hb := Fx.2.1
  have hS : va_S (aw q 8) s.heap s.heap [] := va_S.rf
  have hP : va_P D vwCl (w0 ci cz q F P g) s.heap := hP
  refine lv_aload_n hx hb dX0_addChild_0 rfl (lv_at hl 0 rfl) ?_
  refine lv_iload_n hx hb dX0_addChild_1 rfl (lv_at hl 1 rfl) ?_
  by_cases h1 : inR a P
  rotate_left
  · refine r_callX (rest := []) Fx (m_X0_needPerson_x l hl0 (D := D) (ci := ci) (cz := cz) (cj := cj) (q := q) (F := F) (P := P) (g := g) hF hP12 a h1) (cwV 1 Fx.2.2.2.2 gX0_addChild_X0_needPerson rfl rfl rfl (by decide +kernel) ⟨Nat.le_of_ble_eq_true rfl, Nat.le_of_ble_eq_true rfl⟩) BW.bl (va_recv hK hP (ci := 0) (q0 := 0) rfl rfl) (BW.at hP hK hE hS) rfl hl.1 rfl (Nat.le_of_ble_eq_true rfl) dX0_addChild_2 ⟨Nat.le_of_ble_eq_true rfl, Nat.le_of_ble_eq_true rfl⟩ (fun ce q9 H1 hh hce hcv hcl => ?_)
    exact p_out hex hlocks hh hce hcv hcl ⟨0, (by simp [k_addChild, inR, inB, h1]), rfl⟩ (Nat.le_refl _) (Nat.le_refl _)
  obtain ⟨ja, h2, rfl⟩ := inR_of h1 (by omega)
  have h3 : ix (nI ja) = ja := ix_nI (by omega)
  refine r_callR (rest := []) Fx (m_X0_needPerson l (D := D) (ci := ci) (cz := cz) (cj := cj) (q := q) (F := F) (P := P) (g := g) hF hP12 ja (by omega)) (cwV 1 Fx.2.2.2.2 gX0_addChild_X0_needPerson rfl rfl rfl (by decide +kernel) ⟨Nat.le_of_ble_eq_true rfl, Nat.le_of_ble_eq_true rfl⟩) BW.bl (va_recv hK hP (ci := 0) (q0 := 0) rfl rfl) (BW.at hP hK hE hS) rfl hl.1 rfl (Nat.le_of_ble_eq_true rfl) dX0_addChild_2 ⟨Nat.zero_le _, Nat.zero_le _⟩ ?_
  refine lv_aload_n hx hb dX0_addChild_5 rfl (lv_at hl 0 rfl) ?_
  refine lv_iload_n hx hb dX0_addChild_6 rfl (lv_at hl 1 rfl) ?_
  by_cases h4 : lv g ja = true
  rotate_left
  · refine r_callX (rest := []) Fx (m_X0_needAlive_x l hl0 (D := D) (ci := ci) (cz := cz) (cj := cj) (q := q) (F := F) (P := P) (g := g) hF hP12 ja (by omega) h4) (cwV 1 Fx.2.2.2.2 gX0_addChild_X0_needAlive rfl rfl rfl (by decide +kernel) ⟨Nat.le_of_ble_eq_true rfl, Nat.le_of_ble_eq_true rfl⟩) BW.bl (va_recv hK hP (ci := 0) (q0 := 0) rfl rfl) (BW.at hP hK hE hS) rfl hl.1 rfl (Nat.le_of_ble_eq_true rfl) dX0_addChild_7 ⟨Nat.le_of_ble_eq_true rfl, Nat.le_of_ble_eq_true rfl⟩ (fun ce q9 H1 hh hce hcv hcl => ?_)
    exact p_out hex hlocks hh hce hcv hcl ⟨1, (by simp [k_addChild, inR, inB, h1, h2, h3, h4]), rfl⟩ (Nat.le_refl _) (Nat.le_refl _)
  refine r_callR (rest := []) Fx (m_X0_needAlive l (D := D) (ci := ci) (cz := cz) (cj := cj) (q := q) (F := F) (P := P) (g := g) hF hP12 ja (by omega) h4) (cwV 1 Fx.2.2.2.2 gX0_addChild_X0_needAlive rfl rfl rfl (by decide +kernel) ⟨Nat.le_of_ble_eq_true rfl, Nat.le_of_ble_eq_true rfl⟩) BW.bl (va_recv hK hP (ci := 0) (q0 := 0) rfl rfl) (BW.at hP hK hE hS) rfl hl.1 rfl (Nat.le_of_ble_eq_true rfl) dX0_addChild_7 ⟨Nat.zero_le _, Nat.zero_le _⟩ ?_
  refine lv_aload_n hx hb dX0_addChild_10 rfl (lv_at hl 0 rfl) ?_
  by_cases h5 : P < 12
  rotate_left
  · refine r_callX (rest := []) Fx (m_X0_needRoomForPerson_x l hl0 (D := D) (ci := ci) (cz := cz) (cj := cj) (q := q) (F := F) (P := P) (g := g) hF hP12  h5) (cwV 0 Fx.2.2.2.2 gX0_addChild_X0_needRoomForPerson rfl rfl rfl (by decide +kernel) ⟨Nat.le_of_ble_eq_true rfl, Nat.le_of_ble_eq_true rfl⟩) BW.bl (va_recv hK hP (ci := 0) (q0 := 0) rfl rfl) (BW.at hP hK hE hS) rfl hl.1 rfl (Nat.le_of_ble_eq_true rfl) dX0_addChild_11 ⟨Nat.le_of_ble_eq_true rfl, Nat.le_of_ble_eq_true rfl⟩ (fun ce q9 H1 hh hce hcv hcl => ?_)
    exact p_out hex hlocks hh hce hcv hcl ⟨1, (by simp [k_addChild, inR, inB, h1, h2, h3, h4, h5]), rfl⟩ (Nat.le_refl _) (Nat.le_refl _)
  refine r_callR (rest := []) Fx (m_X0_needRoomForPerson l (D := D) (ci := ci) (cz := cz) (cj := cj) (q := q) (F := F) (P := P) (g := g) hF hP12  h5) (cwV 0 Fx.2.2.2.2 gX0_addChild_X0_needRoomForPerson rfl rfl rfl (by decide +kernel) ⟨Nat.le_of_ble_eq_true rfl, Nat.le_of_ble_eq_true rfl⟩) BW.bl (va_recv hK hP (ci := 0) (q0 := 0) rfl rfl) (BW.at hP hK hE hS) rfl hl.1 rfl (Nat.le_of_ble_eq_true rfl) dX0_addChild_11 ⟨Nat.zero_le _, Nat.zero_le _⟩ ?_
  refine lv_aload_n hx hb dX0_addChild_14 rfl (lv_at hl 0 rfl) ?_
  refine lv_iload_n hx hb dX0_addChild_15 rfl (lv_at hl 1 rfl) ?_
  refine r_callW (rest := []) Fx (m_X0_settle l (D := D) (ci := ci) (cz := cz) (cj := cj) (q := q) (F := F) (P := P) (g := g) hq hF hP12 (nI ja) (by omega) (ha0 _ (Nat.le_refl _))) (cwV 1 Fx.2.2.2.2 gX0_addChild_X0_settle rfl rfl rfl (by decide +kernel) ⟨Nat.le_of_ble_eq_true rfl, Nat.le_of_ble_eq_true rfl⟩) BW.bl (va_recv hK hP (ci := 0) (q0 := 0) rfl rfl) (BW.at hP hK hE hS) rfl hl.1 rfl (Nat.le_of_ble_eq_true rfl) dX0_addChild_16 ⟨Nat.zero_le _, Nat.zero_le _⟩ hS (fun _ h => h) (fun H locs hP hS _ _ => ?_)
  have hP : va_P D vwCl (w0 ci cz q F (P + 1) (gPar g P (nI ja))) H := hP
  exact p_iret hx hb hr hlocks hS (hP) (by simp [k_addChild, inR, inB, h1, h2, h3, h4, h5]) (by simp [k_addChild, h1, h2, h3, h4, h5]) (Nat.zero_le _) (Nat.zero_le _) dX0_addChild_19
set_option maxHeartbeats 4000000 in
set_option maxRecDepth 100000 in
theorem m_X0_pay (l : Launch) (hl0 : l.stackTraces = false) {D : va_G} {ci cz : ClassId} {cj : ClassId × ClassId} {q : Nat → Nat} {F P : Nat} {g : Nat → Nat → Int32} (hq : DQ q 8) (hF : F ≤ 6) (hP12 : P ≤ 12) (a : Int32) (b : Int32) : vx_Met l yX0_pay wsX0_pay ({ frames := 7, cells := 1, slots := 6, locals := 103 } : Room) (va_Pc [.ref (q 0), .int a, .int b] (B0 D ci cz cj q F P g)) (PQ (k_pay P g a b) (some (.int (mn (g 4 (ix a) + b)))) (fun H => va_P D vwCl (w0 ci cz q F P (gGet g (ix a) b)) H) (aw q 8)) (PX (k_pay P g a b) [xIO, xIA, xIS]) 1 6 (aw q 8) := by
  refine vx_ofX (cc := cX0_pay) (maxL := 3) (ret := (some .int)) (by decide) rfl (Nat.le_of_ble_eq_true rfl) ?_
  intro pg en s m bl mt cd ls Fx hr hlocks hex hB hl
  obtain ⟨hP, hK, hE⟩ := hB
  have hl : lv_has ls 3 [(0, .ref (q 0)), (1, .int a), (2, .int b)] := hl
  have Fx : CallFix pg m cd cX0_pay 3 s _ wsX0_pay RX0 := Fx
  have hx := Fx.1
  have hb := Fx.2.1
  have hin : ∀ w ∈ wsX00, w ∈ wsX0_pay := by decide +kernel
  have hS : va_S (aw q 8) s.heap s.heap [] := va_S.rf
  have hP : va_P D vwCl (w0 ci cz q F P g) s.heap := hP
  refine lv_aload_n hx hb dX0_pay_0 rfl (lv_at hl 0 rfl) ?_
  refine lv_iload_n hx hb dX0_pay_1 rfl (lv_at hl 1 rfl) ?_
  by_cases h1 : inR a P
  rotate_left
  · refine r_callX (rest := []) Fx (m_X0_needPerson_x l hl0 (D := D) (ci := ci) (cz := cz) (cj := cj) (q := q) (F := F) (P := P) (g := g) hF hP12 a h1) (cwV 1 Fx.2.2.2.2 gX0_pay_X0_needPerson rfl rfl rfl (by decide +kernel) ⟨Nat.le_of_ble_eq_true rfl, Nat.le_of_ble_eq_true rfl⟩) BW.bl (va_recv hK hP (ci := 0) (q0 := 0) rfl rfl) (BW.at hP hK hE hS) rfl hl.1 rfl (Nat.le_of_ble_eq_true rfl) dX0_pay_2 ⟨Nat.le_of_ble_eq_true rfl, Nat.le_of_ble_eq_true rfl⟩ (fun ce q9 H1 hh hce hcv hcl => ?_)
    exact p_out hex hlocks hh hce hcv hcl ⟨0, (by simp [k_pay, inR, inB, h1]), rfl⟩ (Nat.le_refl _) (Nat.le_refl _)
  obtain ⟨ja, h2, rfl⟩ := inR_of h1 (by omega)
  have h3 : ix (nI ja) = ja := ix_nI (by omega)
  refine r_callR (rest := []) Fx (m_X0_needPerson l (D := D) (ci := ci) (cz := cz) (cj := cj) (q := q) (F := F) (P := P) (g := g) hF hP12 ja (by omega)) (cwV 1 Fx.2.2.2.2 gX0_pay_X0_needPerson rfl rfl rfl (by decide +kernel) ⟨Nat.le_of_ble_eq_true rfl, Nat.le_of_ble_eq_true rfl⟩) BW.bl (va_recv hK hP (ci := 0) (q0 := 0) rfl rfl) (BW.at hP hK hE hS) rfl hl.1 rfl (Nat.le_of_ble_eq_true rfl) dX0_pay_2 ⟨Nat.zero_le _, Nat.zero_le _⟩ ?_
  refine lv_iload_n hx hb dX0_pay_5 rfl (lv_at hl 2 rfl) ?_
  refine lv_iconst (v := nI 1) hx hb dX0_pay_6 (by decide) ?_
  refine lv_icmp_lt (tgt := 17) hx hb dX0_pay_7 (by decide) (fun h4 => ?_) (fun h4 => ?_)
  · exact x0_throw (cls := xIA) (text := "coins is not 1 to 9999") Fx hl0 hE hS hex hlocks (by decide +kernel) (by decide +kernel) (by decide +kernel) (by decide +kernel) (by decide +kernel) hl.1 dX0_pay_17 dX0_pay_20 dX0_pay_21 dX0_pay_23 dX0_pay_26 (Nat.le_of_ble_eq_true rfl) (Nat.le_of_ble_eq_true rfl) (Nat.le_of_ble_eq_true rfl) (Nat.le_of_ble_eq_true rfl) (fun t ht => ⟨⟨1, (by simp [k_pay, inR, inB, h1, h2, h3, h4, Int32.not_le.mpr h4]), rfl⟩, ht⟩) nin (Nat.le_refl _) (Nat.le_refl _)
  · have h4 := Int32.not_lt.mp h4
    refine lv_iload_n hx hb dX0_pay_10 rfl (lv_at hl 2 rfl) ?_
    refine lv_sipush (v := nI 9999) hx hb dX0_pay_11 (by decide) ?_
    refine lv_icmp_le (tgt := 27) hx hb dX0_pay_14 (by decide) (fun h5 => ?_) (fun h5 => ?_)
    · refine lv_aload_n hx hb dX0_pay_27 rfl (lv_at hl 0 rfl) ?_
      refine lv_iload_n hx hb dX0_pay_28 rfl (lv_at hl 1 rfl) ?_
      by_cases h6 : lv g ja = true
      rotate_left
      · refine r_callX (rest := []) Fx (m_X0_needAlive_x l hl0 (D := D) (ci := ci) (cz := cz) (cj := cj) (q := q) (F := F) (P := P) (g := g) hF hP12 ja (by omega) h6) (cwV 1 Fx.2.2.2.2 gX0_pay_X0_needAlive rfl rfl rfl (by decide +kernel) ⟨Nat.le_of_ble_eq_true rfl, Nat.le_of_ble_eq_true rfl⟩) BW.bl (va_recv hK hP (ci := 0) (q0 := 0) rfl rfl) (BW.at hP hK hE hS) rfl hl.1 rfl (Nat.le_of_ble_eq_true rfl) dX0_pay_29 ⟨Nat.le_of_ble_eq_true rfl, Nat.le_of_ble_eq_true rfl⟩ (fun ce q9 H1 hh hce hcv hcl => ?_)
        exact p_out hex hlocks hh hce hcv hcl ⟨2, (by simp [k_pay, inR, inB, h1, h2, h3, h4, Int32.not_lt.mpr h4, h5, Int32.not_lt.mpr h5, h6]), rfl⟩ (Nat.le_refl _) (Nat.le_refl _)
      refine r_callR (rest := []) Fx (m_X0_needAlive l (D := D) (ci := ci) (cz := cz) (cj := cj) (q := q) (F := F) (P := P) (g := g) hF hP12 ja (by omega) h6) (cwV 1 Fx.2.2.2.2 gX0_pay_X0_needAlive rfl rfl rfl (by decide +kernel) ⟨Nat.le_of_ble_eq_true rfl, Nat.le_of_ble_eq_true rfl⟩) BW.bl (va_recv hK hP (ci := 0) (q0 := 0) rfl rfl) (BW.at hP hK hE hS) rfl hl.1 rfl (Nat.le_of_ble_eq_true rfl) dX0_pay_29 ⟨Nat.zero_le _, Nat.zero_le _⟩ ?_
      refine lv_aload_n hx hb dX0_pay_32 rfl (lv_at hl 0 rfl) ?_
      refine lv_iload_n hx hb dX0_pay_33 rfl (lv_at hl 1 rfl) ?_
      refine lv_iload_n hx hb dX0_pay_34 rfl (lv_at hl 2 rfl) ?_
      refine r_callW (rest := []) Fx (m_X0_addCoins l (D := D) (ci := ci) (cz := cz) (cj := cj) (q := q) (F := F) (P := P) (g := g) hq hF hP12 ja b (by omega)) (cwV 2 Fx.2.2.2.2 gX0_pay_X0_addCoins rfl rfl rfl (by decide +kernel) ⟨Nat.le_of_ble_eq_true rfl, Nat.le_of_ble_eq_true rfl⟩) BW.bl (va_recv hK hP (ci := 0) (q0 := 0) rfl rfl) (BW.at hP hK hE hS) rfl hl.1 rfl (Nat.le_of_ble_eq_true rfl) dX0_pay_35 ⟨Nat.zero_le _, Nat.zero_le _⟩ hS (fun _ h => h) (fun H locs hP hS _ _ => ?_)
      have hP : va_P D vwCl (w0 ci cz q F P (gGet g ja b)) H := hP
      refine lv_aload_n hx hb dX0_pay_38 rfl (lv_at hl 0 rfl) ?_
      refine r_get Fx hin hK hP 0 rfl 6 (by decide) (by decide +kernel) rfl rfl dX0_pay_39 ?_
      refine lv_iload_n hx hb dX0_pay_42 rfl (lv_at hl 1 rfl) ?_
      refine r_iald Fx hK hP 5 0 rfl rfl (i := ja) (by omega) (by decide) dX0_pay_43 ?_
      exact p_iret hx hb hr hlocks hS (by simp only [h3]; exact hP) (by simp [k_pay, inR, inB, h1, h2, h3, h4, Int32.not_lt.mpr h4, h5, Int32.not_lt.mpr h5, h6]) (by simp [gGet, va_up, upd, h1, h2, h3, h4, Int32.not_lt.mpr h4, h5, Int32.not_lt.mpr h5, h6]) (Nat.zero_le _) (Nat.zero_le _) dX0_pay_44
    · have h5 := Int32.not_le.mp h5
      exact x0_throw (cls := xIA) (text := "coins is not 1 to 9999") Fx hl0 hE hS hex hlocks (by decide +kernel) (by decide +kernel) (by decide +kernel) (by decide +kernel) (by decide +kernel) hl.1 dX0_pay_17 dX0_pay_20 dX0_pay_21 dX0_pay_23 dX0_pay_26 (Nat.le_of_ble_eq_true rfl) (Nat.le_of_ble_eq_true rfl) (Nat.le_of_ble_eq_true rfl) (Nat.le_of_ble_eq_true rfl) (fun t ht => ⟨⟨1, (by simp [k_pay, inR, inB, h1, h2, h3, h4, Int32.not_lt.mpr h4, h5, Int32.not_le.mpr h5]), rfl⟩, ht⟩) nin (Nat.le_refl _) (Nat.le_refl _)
set_option maxHeartbeats 4000000 in
set_option maxRecDepth 100000 in
theorem m_X0_grant (l : Launch) (hl0 : l.stackTraces = false) {D : va_G} {ci cz : ClassId} {cj : ClassId × ClassId} {q : Nat → Nat} {F P : Nat} {g : Nat → Nat → Int32} (hq : DQ q 8) (hF : F ≤ 6) (hP12 : P ≤ 12) (f : Int32) (w : Int32) (a : Int32) (b : Int32) : vx_Met l yX0_grant wsX0_grant ({ frames := 7, cells := 1, slots := 6, locals := 103 } : Room) (va_Pc [.ref (q 0), .int f, .int w, .int a, .int b] (B0 D ci cz cj q F P g)) (PQ (k_grant F P g f w a b) (some (.int (sCro (gAdd g (ix f) (ix w) (ix a) b) P (ix f) (ix w)))) (fun H => va_P D vwCl (w0 ci cz q F P (gAdd g (ix f) (ix w) (ix a) b)) H) (aw q 8)) (PX (k_grant F P g f w a b) [xIO, xIA, xIS]) 1 6 (aw q 8) := by
  refine vx_ofX (cc := cX0_grant) (maxL := 5) (ret := (some .int)) (by decide) rfl (Nat.le_of_ble_eq_true rfl) ?_
  intro pg en s m bl mt cd ls Fx hr hlocks hex hB hl
  obtain ⟨hP, hK, hE⟩ := hB
  have hl : lv_has ls 5 [(0, .ref (q 0)), (1, .int f), (2, .int w), (3, .int a), (4, .int b)] := hl
  have Fx : CallFix pg m cd cX0_grant 5 s _ wsX0_grant RX0 := Fx
  have hx := Fx.1
  have hb := Fx.2.1
  have hS : va_S (aw q 8) s.heap s.heap [] := va_S.rf
  have hP : va_P D vwCl (w0 ci cz q F P g) s.heap := hP
  refine lv_aload_n hx hb dX0_grant_0 rfl (lv_at hl 0 rfl) ?_
  refine lv_iload_n hx hb dX0_grant_1 rfl (lv_at hl 1 rfl) ?_
  by_cases h1 : inR f F
  rotate_left
  · refine r_callX (rest := []) Fx (m_X0_needFerry_x l hl0 (D := D) (ci := ci) (cz := cz) (cj := cj) (q := q) (F := F) (P := P) (g := g) hF hP12 f h1) (cwV 1 Fx.2.2.2.2 gX0_grant_X0_needFerry rfl rfl rfl (by decide +kernel) ⟨Nat.le_of_ble_eq_true rfl, Nat.le_of_ble_eq_true rfl⟩) BW.bl (va_recv hK hP (ci := 0) (q0 := 0) rfl rfl) (BW.at hP hK hE hS) rfl hl.1 rfl (Nat.le_of_ble_eq_true rfl) dX0_grant_2 ⟨Nat.le_of_ble_eq_true rfl, Nat.le_of_ble_eq_true rfl⟩ (fun ce q9 H1 hh hce hcv hcl => ?_)
    exact p_out hex hlocks hh hce hcv hcl ⟨0, (by simp [k_grant, inR, inB, h1]), rfl⟩ (Nat.le_refl _) (Nat.le_refl _)
  obtain ⟨jf, h2, rfl⟩ := inR_of h1 (by omega)
  have h3 : ix (nI jf) = jf := ix_nI (by omega)
  refine r_callR (rest := []) Fx (m_X0_needFerry l (D := D) (ci := ci) (cz := cz) (cj := cj) (q := q) (F := F) (P := P) (g := g) hF hP12 jf (by omega)) (cwV 1 Fx.2.2.2.2 gX0_grant_X0_needFerry rfl rfl rfl (by decide +kernel) ⟨Nat.le_of_ble_eq_true rfl, Nat.le_of_ble_eq_true rfl⟩) BW.bl (va_recv hK hP (ci := 0) (q0 := 0) rfl rfl) (BW.at hP hK hE hS) rfl hl.1 rfl (Nat.le_of_ble_eq_true rfl) dX0_grant_2 ⟨Nat.zero_le _, Nat.zero_le _⟩ ?_
  refine lv_iload_n hx hb dX0_grant_5 rfl (lv_at hl 2 rfl) ?_
  by_cases h4 : inR w 4
  rotate_left
  · refine r_callXS (rest := []) Fx (m_X0_needWatch_x l hl0 (D := D) (ci := ci) (cz := cz) (cj := cj) (q := q) (F := F) (P := P) (g := g) hF hP12 w h4) (va_cwS 1 Fx.2.2.2.2 gX0_grant_X0_needWatch rfl rfl rfl (by decide +kernel) ⟨Nat.le_of_ble_eq_true rfl, Nat.le_of_ble_eq_true rfl⟩) BW.bl (BW.at hP hK hE hS) rfl hl.1 rfl (Nat.le_of_ble_eq_true rfl) dX0_grant_6 ⟨Nat.le_of_ble_eq_true rfl, Nat.le_of_ble_eq_true rfl⟩ (fun ce q9 H1 hh hce hcv hcl => ?_)
    exact p_out hex hlocks hh hce hcv hcl ⟨0, (by simp [k_grant, inR, inB, h1, h2, h3, h4]), rfl⟩ (Nat.le_refl _) (Nat.le_refl _)
  obtain ⟨jw, h5, rfl⟩ := inR_of h4 (by omega)
  have h6 : ix (nI jw) = jw := ix_nI (by omega)
  refine r_callRS (rest := []) Fx (m_X0_needWatch l (D := D) (ci := ci) (cz := cz) (cj := cj) (q := q) (F := F) (P := P) (g := g) hF hP12 jw (by omega)) (va_cwS 1 Fx.2.2.2.2 gX0_grant_X0_needWatch rfl rfl rfl (by decide +kernel) ⟨Nat.le_of_ble_eq_true rfl, Nat.le_of_ble_eq_true rfl⟩) BW.bl (BW.at hP hK hE hS) rfl hl.1 rfl (Nat.le_of_ble_eq_true rfl) dX0_grant_6 ⟨Nat.zero_le _, Nat.zero_le _⟩ ?_
  refine lv_aload_n hx hb dX0_grant_9 rfl (lv_at hl 0 rfl) ?_
  refine lv_iload_n hx hb dX0_grant_10 rfl (lv_at hl 3 rfl) ?_
  by_cases h7 : inR a P
  rotate_left
  · refine r_callX (rest := []) Fx (m_X0_needPerson_x l hl0 (D := D) (ci := ci) (cz := cz) (cj := cj) (q := q) (F := F) (P := P) (g := g) hF hP12 a h7) (cwV 1 Fx.2.2.2.2 gX0_grant_X0_needPerson rfl rfl rfl (by decide +kernel) ⟨Nat.le_of_ble_eq_true rfl, Nat.le_of_ble_eq_true rfl⟩) BW.bl (va_recv hK hP (ci := 0) (q0 := 0) rfl rfl) (BW.at hP hK hE hS) rfl hl.1 rfl (Nat.le_of_ble_eq_true rfl) dX0_grant_11 ⟨Nat.le_of_ble_eq_true rfl, Nat.le_of_ble_eq_true rfl⟩ (fun ce q9 H1 hh hce hcv hcl => ?_)
    exact p_out hex hlocks hh hce hcv hcl ⟨0, (by simp [k_grant, inR, inB, h1, h2, h3, h4, h5, h6, h7]), rfl⟩ (Nat.le_refl _) (Nat.le_refl _)
  obtain ⟨ja, h8, rfl⟩ := inR_of h7 (by omega)
  have h9 : ix (nI ja) = ja := ix_nI (by omega)
  refine r_callR (rest := []) Fx (m_X0_needPerson l (D := D) (ci := ci) (cz := cz) (cj := cj) (q := q) (F := F) (P := P) (g := g) hF hP12 ja (by omega)) (cwV 1 Fx.2.2.2.2 gX0_grant_X0_needPerson rfl rfl rfl (by decide +kernel) ⟨Nat.le_of_ble_eq_true rfl, Nat.le_of_ble_eq_true rfl⟩) BW.bl (va_recv hK hP (ci := 0) (q0 := 0) rfl rfl) (BW.at hP hK hE hS) rfl hl.1 rfl (Nat.le_of_ble_eq_true rfl) dX0_grant_11 ⟨Nat.zero_le _, Nat.zero_le _⟩ ?_
  refine lv_iload hx hb dX0_grant_14 (lv_at hl 4 rfl) ?_
  by_cases h10 : inB 1 64 b
  rotate_left
  · refine r_callXS (rest := []) Fx (m_X0_needShares_x l hl0 (D := D) (ci := ci) (cz := cz) (cj := cj) (q := q) (F := F) (P := P) (g := g) hF hP12 b h10) (va_cwS 1 Fx.2.2.2.2 gX0_grant_X0_needShares rfl rfl rfl (by decide +kernel) ⟨Nat.le_of_ble_eq_true rfl, Nat.le_of_ble_eq_true rfl⟩) BW.bl (BW.at hP hK hE hS) rfl hl.1 rfl (Nat.le_of_ble_eq_true rfl) dX0_grant_16 ⟨Nat.le_of_ble_eq_true rfl, Nat.le_of_ble_eq_true rfl⟩ (fun ce q9 H1 hh hce hcv hcl => ?_)
    exact p_out hex hlocks hh hce hcv hcl ⟨1, (by simp [k_grant, inR, inB, h1, h2, h3, h4, h5, h6, h7, h8, h9, h10]), rfl⟩ (Nat.le_refl _) (Nat.le_refl _)
  refine r_callRS (rest := []) Fx (m_X0_needShares l (D := D) (ci := ci) (cz := cz) (cj := cj) (q := q) (F := F) (P := P) (g := g) hF hP12 b h10) (va_cwS 1 Fx.2.2.2.2 gX0_grant_X0_needShares rfl rfl rfl (by decide +kernel) ⟨Nat.le_of_ble_eq_true rfl, Nat.le_of_ble_eq_true rfl⟩) BW.bl (BW.at hP hK hE hS) rfl hl.1 rfl (Nat.le_of_ble_eq_true rfl) dX0_grant_16 ⟨Nat.zero_le _, Nat.zero_le _⟩ ?_
  refine lv_aload_n hx hb dX0_grant_19 rfl (lv_at hl 0 rfl) ?_
  refine lv_iload_n hx hb dX0_grant_20 rfl (lv_at hl 3 rfl) ?_
  by_cases h11 : lv g ja = true
  rotate_left
  · refine r_callX (rest := []) Fx (m_X0_needAlive_x l hl0 (D := D) (ci := ci) (cz := cz) (cj := cj) (q := q) (F := F) (P := P) (g := g) hF hP12 ja (by omega) h11) (cwV 1 Fx.2.2.2.2 gX0_grant_X0_needAlive rfl rfl rfl (by decide +kernel) ⟨Nat.le_of_ble_eq_true rfl, Nat.le_of_ble_eq_true rfl⟩) BW.bl (va_recv hK hP (ci := 0) (q0 := 0) rfl rfl) (BW.at hP hK hE hS) rfl hl.1 rfl (Nat.le_of_ble_eq_true rfl) dX0_grant_21 ⟨Nat.le_of_ble_eq_true rfl, Nat.le_of_ble_eq_true rfl⟩ (fun ce q9 H1 hh hce hcv hcl => ?_)
    exact p_out hex hlocks hh hce hcv hcl ⟨2, (by simp [k_grant, inR, inB, h1, h2, h3, h4, h5, h6, h7, h8, h9, h10, h11]), rfl⟩ (Nat.le_refl _) (Nat.le_refl _)
  refine r_callR (rest := []) Fx (m_X0_needAlive l (D := D) (ci := ci) (cz := cz) (cj := cj) (q := q) (F := F) (P := P) (g := g) hF hP12 ja (by omega) h11) (cwV 1 Fx.2.2.2.2 gX0_grant_X0_needAlive rfl rfl rfl (by decide +kernel) ⟨Nat.le_of_ble_eq_true rfl, Nat.le_of_ble_eq_true rfl⟩) BW.bl (va_recv hK hP (ci := 0) (q0 := 0) rfl rfl) (BW.at hP hK hE hS) rfl hl.1 rfl (Nat.le_of_ble_eq_true rfl) dX0_grant_21 ⟨Nat.zero_le _, Nat.zero_le _⟩ ?_
  refine lv_aload_n hx hb dX0_grant_24 rfl (lv_at hl 0 rfl) ?_
  refine lv_iload_n hx hb dX0_grant_25 rfl (lv_at hl 1 rfl) ?_
  refine lv_iload_n hx hb dX0_grant_26 rfl (lv_at hl 2 rfl) ?_
  refine r_callR (rest := []) Fx (m_X0_crownOwns l (D := D) (ci := ci) (cz := cz) (cj := cj) (q := q) (F := F) (P := P) (g := g) hF hP12 jf jw (by omega) (by omega)) (cwV 2 Fx.2.2.2.2 gX0_grant_X0_crownOwns rfl rfl rfl (by decide +kernel) ⟨Nat.le_of_ble_eq_true rfl, Nat.le_of_ble_eq_true rfl⟩) BW.bl (va_recv hK hP (ci := 0) (q0 := 0) rfl rfl) (BW.at hP hK hE hS) rfl hl.1 rfl (Nat.le_of_ble_eq_true rfl) dX0_grant_27 ⟨Nat.zero_le _, Nat.zero_le _⟩ ?_
  refine lv_iload hx hb dX0_grant_30 (lv_at hl 4 rfl) ?_
  refine lv_icmp_ge (tgt := 45) hx hb dX0_grant_32 (by decide) (fun h12 => ?_) (fun h12 => ?_)
  · refine lv_aload_n hx hb dX0_grant_45 rfl (lv_at hl 0 rfl) ?_
    refine lv_iload_n hx hb dX0_grant_46 rfl (lv_at hl 1 rfl) ?_
    refine lv_iload_n hx hb dX0_grant_47 rfl (lv_at hl 2 rfl) ?_
    refine lv_iload_n hx hb dX0_grant_48 rfl (lv_at hl 3 rfl) ?_
    refine lv_iload hx hb dX0_grant_49 (lv_at hl 4 rfl) ?_
    refine r_callW (rest := []) Fx (m_X0_addShares l (D := D) (ci := ci) (cz := cz) (cj := cj) (q := q) (F := F) (P := P) (g := g) hq hF hP12 jf jw ja b (by omega) (by omega) (by omega)) (cwV 4 Fx.2.2.2.2 gX0_grant_X0_addShares rfl rfl rfl (by decide +kernel) ⟨Nat.le_of_ble_eq_true rfl, Nat.le_of_ble_eq_true rfl⟩) BW.bl (va_recv hK hP (ci := 0) (q0 := 0) rfl rfl) (BW.at hP hK hE hS) rfl hl.1 rfl (Nat.le_of_ble_eq_true rfl) dX0_grant_51 ⟨Nat.zero_le _, Nat.zero_le _⟩ hS (fun _ h => h) (fun H locs hP hS _ _ => ?_)
    have hP : va_P D vwCl (w0 ci cz q F P (gAdd g jf jw ja b)) H := hP
    refine lv_aload_n hx hb dX0_grant_54 rfl (lv_at hl 0 rfl) ?_
    refine lv_iload_n hx hb dX0_grant_55 rfl (lv_at hl 1 rfl) ?_
    refine lv_iload_n hx hb dX0_grant_56 rfl (lv_at hl 2 rfl) ?_
    refine r_callR (rest := []) Fx (m_X0_crownOwns l (D := D) (ci := ci) (cz := cz) (cj := cj) (q := q) (F := F) (P := P) (g := gAdd g jf jw ja b) hF hP12 jf jw (by omega) (by omega)) (cwV 2 Fx.2.2.2.2 gX0_grant_X0_crownOwns rfl rfl rfl (by decide +kernel) ⟨Nat.le_of_ble_eq_true rfl, Nat.le_of_ble_eq_true rfl⟩) BW.bl (va_recv hK hP (ci := 0) (q0 := 0) rfl rfl) (BW.at hP hK hE hS) rfl hl.1 rfl (Nat.le_of_ble_eq_true rfl) dX0_grant_57 ⟨Nat.zero_le _, Nat.zero_le _⟩ ?_
    exact p_iret hx hb hr hlocks hS (by simp only [h3, h6, h9]; exact hP) (by simp [k_grant, inR, inB, h1, h2, h3, h4, h5, h6, h7, h8, h9, h10, h11, h12, Int32.not_lt.mpr h12]) (by simp [k_grant, h1, h2, h3, h4, h5, h6, h7, h8, h9, h10, h11, h12, Int32.not_lt.mpr h12]) (Nat.zero_le _) (Nat.zero_le _) dX0_grant_60
  · have h12 := Int32.not_le.mp h12
    exact x0_throw (cls := xIS) (text := "the crown has not so many shares") Fx hl0 hE hS hex hlocks (by decide +kernel) (by decide +kernel) (by decide +kernel) (by decide +kernel) (by decide +kernel) hl.1 dX0_grant_35 dX0_grant_38 dX0_grant_39 dX0_grant_41 dX0_grant_44 (Nat.le_of_ble_eq_true rfl) (Nat.le_of_ble_eq_true rfl) (Nat.le_of_ble_eq_true rfl) (Nat.le_of_ble_eq_true rfl) (fun t ht => ⟨⟨2, (by simp [k_grant, inR, inB, h1, h2, h3, h4, h5, h6, h7, h8, h9, h10, h11, h12, Int32.not_le.mpr h12]), rfl⟩, ht⟩) nin (Nat.le_refl _) (Nat.le_refl _)
set_option maxHeartbeats 4000000 in
set_option maxRecDepth 100000 in
theorem m_X0_give (l : Launch) (hl0 : l.stackTraces = false) {D : va_G} {ci cz : ClassId} {cj : ClassId × ClassId} {q : Nat → Nat} {F P : Nat} {g : Nat → Nat → Int32} (hq : DQ q 8) (hF : F ≤ 6) (hP12 : P ≤ 12) (a : Int32) (b : Int32) (f : Int32) (w : Int32) (n : Int32) : vx_Met l yX0_give wsX0_give ({ frames := 7, cells := 1, slots := 6, locals := 103 } : Room) (va_Pc [.ref (q 0), .int a, .int b, .int f, .int w, .int n] (B0 D ci cz cj q F P g)) (PQ (k_give F P g a b f w n) (some (.int (own (gGiv g (ix a) (ix b) (ix f) (ix w) n) (ix f) (ix w) (ix b)))) (fun H => va_P D vwCl (w0 ci cz q F P (gGiv g (ix a) (ix b) (ix f) (ix w) n)) H) (aw q 8)) (PX (k_give F P g a b f w n) [xIO, xIA, xIS]) 1 6 (aw q 8) := by
  refine vx_ofX (cc := cX0_give) (maxL := 6) (ret := (some .int)) (by decide) rfl (Nat.le_of_ble_eq_true rfl) ?_
  intro pg en s m bl mt cd ls Fx hr hlocks hex hB hl
  obtain ⟨hP, hK, hE⟩ := hB
  have hl : lv_has ls 6 [(0, .ref (q 0)), (1, .int a), (2, .int b), (3, .int f), (4, .int w), (5, .int n)] := hl
  have Fx : CallFix pg m cd cX0_give 6 s _ wsX0_give RX0 := Fx
  have hx := Fx.1
  have hb := Fx.2.1
  have hS : va_S (aw q 8) s.heap s.heap [] := va_S.rf
  have hP : va_P D vwCl (w0 ci cz q F P g) s.heap := hP
  refine lv_aload_n hx hb dX0_give_0 rfl (lv_at hl 0 rfl) ?_
  refine lv_iload_n hx hb dX0_give_1 rfl (lv_at hl 1 rfl) ?_
  by_cases h1 : inR a P
  rotate_left
  · refine r_callX (rest := []) Fx (m_X0_needPerson_x l hl0 (D := D) (ci := ci) (cz := cz) (cj := cj) (q := q) (F := F) (P := P) (g := g) hF hP12 a h1) (cwV 1 Fx.2.2.2.2 gX0_give_X0_needPerson rfl rfl rfl (by decide +kernel) ⟨Nat.le_of_ble_eq_true rfl, Nat.le_of_ble_eq_true rfl⟩) BW.bl (va_recv hK hP (ci := 0) (q0 := 0) rfl rfl) (BW.at hP hK hE hS) rfl hl.1 rfl (Nat.le_of_ble_eq_true rfl) dX0_give_2 ⟨Nat.le_of_ble_eq_true rfl, Nat.le_of_ble_eq_true rfl⟩ (fun ce q9 H1 hh hce hcv hcl => ?_)
    exact p_out hex hlocks hh hce hcv hcl ⟨0, (by simp [k_give, inR, inB, h1]), rfl⟩ (Nat.le_refl _) (Nat.le_refl _)
  obtain ⟨ja, h2, rfl⟩ := inR_of h1 (by omega)
  have h3 : ix (nI ja) = ja := ix_nI (by omega)
  refine r_callR (rest := []) Fx (m_X0_needPerson l (D := D) (ci := ci) (cz := cz) (cj := cj) (q := q) (F := F) (P := P) (g := g) hF hP12 ja (by omega)) (cwV 1 Fx.2.2.2.2 gX0_give_X0_needPerson rfl rfl rfl (by decide +kernel) ⟨Nat.le_of_ble_eq_true rfl, Nat.le_of_ble_eq_true rfl⟩) BW.bl (va_recv hK hP (ci := 0) (q0 := 0) rfl rfl) (BW.at hP hK hE hS) rfl hl.1 rfl (Nat.le_of_ble_eq_true rfl) dX0_give_2 ⟨Nat.zero_le _, Nat.zero_le _⟩ ?_
  refine lv_aload_n hx hb dX0_give_5 rfl (lv_at hl 0 rfl) ?_
  refine lv_iload_n hx hb dX0_give_6 rfl (lv_at hl 2 rfl) ?_
  by_cases h4 : inR b P
  rotate_left
  · refine r_callX (rest := []) Fx (m_X0_needPerson_x l hl0 (D := D) (ci := ci) (cz := cz) (cj := cj) (q := q) (F := F) (P := P) (g := g) hF hP12 b h4) (cwV 1 Fx.2.2.2.2 gX0_give_X0_needPerson rfl rfl rfl (by decide +kernel) ⟨Nat.le_of_ble_eq_true rfl, Nat.le_of_ble_eq_true rfl⟩) BW.bl (va_recv hK hP (ci := 0) (q0 := 0) rfl rfl) (BW.at hP hK hE hS) rfl hl.1 rfl (Nat.le_of_ble_eq_true rfl) dX0_give_7 ⟨Nat.le_of_ble_eq_true rfl, Nat.le_of_ble_eq_true rfl⟩ (fun ce q9 H1 hh hce hcv hcl => ?_)
    exact p_out hex hlocks hh hce hcv hcl ⟨0, (by simp [k_give, inR, inB, h1, h2, h3, h4]), rfl⟩ (Nat.le_refl _) (Nat.le_refl _)
  obtain ⟨jb, h5, rfl⟩ := inR_of h4 (by omega)
  have h6 : ix (nI jb) = jb := ix_nI (by omega)
  refine r_callR (rest := []) Fx (m_X0_needPerson l (D := D) (ci := ci) (cz := cz) (cj := cj) (q := q) (F := F) (P := P) (g := g) hF hP12 jb (by omega)) (cwV 1 Fx.2.2.2.2 gX0_give_X0_needPerson rfl rfl rfl (by decide +kernel) ⟨Nat.le_of_ble_eq_true rfl, Nat.le_of_ble_eq_true rfl⟩) BW.bl (va_recv hK hP (ci := 0) (q0 := 0) rfl rfl) (BW.at hP hK hE hS) rfl hl.1 rfl (Nat.le_of_ble_eq_true rfl) dX0_give_7 ⟨Nat.zero_le _, Nat.zero_le _⟩ ?_
  refine lv_aload_n hx hb dX0_give_10 rfl (lv_at hl 0 rfl) ?_
  refine lv_iload_n hx hb dX0_give_11 rfl (lv_at hl 3 rfl) ?_
  by_cases h7 : inR f F
  rotate_left
  · refine r_callX (rest := []) Fx (m_X0_needFerry_x l hl0 (D := D) (ci := ci) (cz := cz) (cj := cj) (q := q) (F := F) (P := P) (g := g) hF hP12 f h7) (cwV 1 Fx.2.2.2.2 gX0_give_X0_needFerry rfl rfl rfl (by decide +kernel) ⟨Nat.le_of_ble_eq_true rfl, Nat.le_of_ble_eq_true rfl⟩) BW.bl (va_recv hK hP (ci := 0) (q0 := 0) rfl rfl) (BW.at hP hK hE hS) rfl hl.1 rfl (Nat.le_of_ble_eq_true rfl) dX0_give_12 ⟨Nat.le_of_ble_eq_true rfl, Nat.le_of_ble_eq_true rfl⟩ (fun ce q9 H1 hh hce hcv hcl => ?_)
    exact p_out hex hlocks hh hce hcv hcl ⟨0, (by simp [k_give, inR, inB, h1, h2, h3, h4, h5, h6, h7]), rfl⟩ (Nat.le_refl _) (Nat.le_refl _)
  obtain ⟨jf, h8, rfl⟩ := inR_of h7 (by omega)
  have h9 : ix (nI jf) = jf := ix_nI (by omega)
  refine r_callR (rest := []) Fx (m_X0_needFerry l (D := D) (ci := ci) (cz := cz) (cj := cj) (q := q) (F := F) (P := P) (g := g) hF hP12 jf (by omega)) (cwV 1 Fx.2.2.2.2 gX0_give_X0_needFerry rfl rfl rfl (by decide +kernel) ⟨Nat.le_of_ble_eq_true rfl, Nat.le_of_ble_eq_true rfl⟩) BW.bl (va_recv hK hP (ci := 0) (q0 := 0) rfl rfl) (BW.at hP hK hE hS) rfl hl.1 rfl (Nat.le_of_ble_eq_true rfl) dX0_give_12 ⟨Nat.zero_le _, Nat.zero_le _⟩ ?_
  refine lv_iload hx hb dX0_give_15 (lv_at hl 4 rfl) ?_
  by_cases h10 : inR w 4
  rotate_left
  · refine r_callXS (rest := []) Fx (m_X0_needWatch_x l hl0 (D := D) (ci := ci) (cz := cz) (cj := cj) (q := q) (F := F) (P := P) (g := g) hF hP12 w h10) (va_cwS 1 Fx.2.2.2.2 gX0_give_X0_needWatch rfl rfl rfl (by decide +kernel) ⟨Nat.le_of_ble_eq_true rfl, Nat.le_of_ble_eq_true rfl⟩) BW.bl (BW.at hP hK hE hS) rfl hl.1 rfl (Nat.le_of_ble_eq_true rfl) dX0_give_17 ⟨Nat.le_of_ble_eq_true rfl, Nat.le_of_ble_eq_true rfl⟩ (fun ce q9 H1 hh hce hcv hcl => ?_)
    exact p_out hex hlocks hh hce hcv hcl ⟨0, (by simp [k_give, inR, inB, h1, h2, h3, h4, h5, h6, h7, h8, h9, h10]), rfl⟩ (Nat.le_refl _) (Nat.le_refl _)
  obtain ⟨jw, h11, rfl⟩ := inR_of h10 (by omega)
  have h12 : ix (nI jw) = jw := ix_nI (by omega)
  refine r_callRS (rest := []) Fx (m_X0_needWatch l (D := D) (ci := ci) (cz := cz) (cj := cj) (q := q) (F := F) (P := P) (g := g) hF hP12 jw (by omega)) (va_cwS 1 Fx.2.2.2.2 gX0_give_X0_needWatch rfl rfl rfl (by decide +kernel) ⟨Nat.le_of_ble_eq_true rfl, Nat.le_of_ble_eq_true rfl⟩) BW.bl (BW.at hP hK hE hS) rfl hl.1 rfl (Nat.le_of_ble_eq_true rfl) dX0_give_17 ⟨Nat.zero_le _, Nat.zero_le _⟩ ?_
  refine lv_iload hx hb dX0_give_20 (lv_at hl 5 rfl) ?_
  by_cases h13 : inB 1 64 n
  rotate_left
  · refine r_callXS (rest := []) Fx (m_X0_needShares_x l hl0 (D := D) (ci := ci) (cz := cz) (cj := cj) (q := q) (F := F) (P := P) (g := g) hF hP12 n h13) (va_cwS 1 Fx.2.2.2.2 gX0_give_X0_needShares rfl rfl rfl (by decide +kernel) ⟨Nat.le_of_ble_eq_true rfl, Nat.le_of_ble_eq_true rfl⟩) BW.bl (BW.at hP hK hE hS) rfl hl.1 rfl (Nat.le_of_ble_eq_true rfl) dX0_give_22 ⟨Nat.le_of_ble_eq_true rfl, Nat.le_of_ble_eq_true rfl⟩ (fun ce q9 H1 hh hce hcv hcl => ?_)
    exact p_out hex hlocks hh hce hcv hcl ⟨1, (by simp [k_give, inR, inB, h1, h2, h3, h4, h5, h6, h7, h8, h9, h10, h11, h12, h13]), rfl⟩ (Nat.le_refl _) (Nat.le_refl _)
  refine r_callRS (rest := []) Fx (m_X0_needShares l (D := D) (ci := ci) (cz := cz) (cj := cj) (q := q) (F := F) (P := P) (g := g) hF hP12 n h13) (va_cwS 1 Fx.2.2.2.2 gX0_give_X0_needShares rfl rfl rfl (by decide +kernel) ⟨Nat.le_of_ble_eq_true rfl, Nat.le_of_ble_eq_true rfl⟩) BW.bl (BW.at hP hK hE hS) rfl hl.1 rfl (Nat.le_of_ble_eq_true rfl) dX0_give_22 ⟨Nat.zero_le _, Nat.zero_le _⟩ ?_
  refine lv_iload_n hx hb dX0_give_25 rfl (lv_at hl 1 rfl) ?_
  refine lv_iload_n hx hb dX0_give_26 rfl (lv_at hl 2 rfl) ?_
  refine n_icmp_ne (tgt := 40) hx hb (by omega) (by omega) dX0_give_27 (by decide) (fun h14 => ?_) (fun h14 => ?_)
  · have h15 : ¬ nI ja = nI jb := fun e9 => h14 ((nI_eq (by omega) (by omega)).mp e9)
    refine lv_aload_n hx hb dX0_give_40 rfl (lv_at hl 0 rfl) ?_
    refine lv_iload_n hx hb dX0_give_41 rfl (lv_at hl 2 rfl) ?_
    by_cases h16 : lv g jb = true
    rotate_left
    · refine r_callX (rest := []) Fx (m_X0_needAlive_x l hl0 (D := D) (ci := ci) (cz := cz) (cj := cj) (q := q) (F := F) (P := P) (g := g) hF hP12 jb (by omega) h16) (cwV 1 Fx.2.2.2.2 gX0_give_X0_needAlive rfl rfl rfl (by decide +kernel) ⟨Nat.le_of_ble_eq_true rfl, Nat.le_of_ble_eq_true rfl⟩) BW.bl (va_recv hK hP (ci := 0) (q0 := 0) rfl rfl) (BW.at hP hK hE hS) rfl hl.1 rfl (Nat.le_of_ble_eq_true rfl) dX0_give_42 ⟨Nat.le_of_ble_eq_true rfl, Nat.le_of_ble_eq_true rfl⟩ (fun ce q9 H1 hh hce hcv hcl => ?_)
      exact p_out hex hlocks hh hce hcv hcl ⟨2, (by simp [k_give, inR, inB, h1, h2, h3, h4, h5, h6, h7, h8, h9, h10, h11, h12, h13, h14, h15, h16]), rfl⟩ (Nat.le_refl _) (Nat.le_refl _)
    refine r_callR (rest := []) Fx (m_X0_needAlive l (D := D) (ci := ci) (cz := cz) (cj := cj) (q := q) (F := F) (P := P) (g := g) hF hP12 jb (by omega) h16) (cwV 1 Fx.2.2.2.2 gX0_give_X0_needAlive rfl rfl rfl (by decide +kernel) ⟨Nat.le_of_ble_eq_true rfl, Nat.le_of_ble_eq_true rfl⟩) BW.bl (va_recv hK hP (ci := 0) (q0 := 0) rfl rfl) (BW.at hP hK hE hS) rfl hl.1 rfl (Nat.le_of_ble_eq_true rfl) dX0_give_42 ⟨Nat.zero_le _, Nat.zero_le _⟩ ?_
    refine lv_aload_n hx hb dX0_give_45 rfl (lv_at hl 0 rfl) ?_
    refine lv_iload_n hx hb dX0_give_46 rfl (lv_at hl 3 rfl) ?_
    refine lv_iload hx hb dX0_give_47 (lv_at hl 4 rfl) ?_
    refine lv_iload_n hx hb dX0_give_49 rfl (lv_at hl 1 rfl) ?_
    refine r_callR (rest := []) Fx (m_X0_owns l (D := D) (ci := ci) (cz := cz) (cj := cj) (q := q) (F := F) (P := P) (g := g) hF hP12 jf jw ja (by omega) (by omega) (by omega)) (cwV 3 Fx.2.2.2.2 gX0_give_X0_owns rfl rfl rfl (by decide +kernel) ⟨Nat.le_of_ble_eq_true rfl, Nat.le_of_ble_eq_true rfl⟩) BW.bl (va_recv hK hP (ci := 0) (q0 := 0) rfl rfl) (BW.at hP hK hE hS) rfl hl.1 rfl (Nat.le_of_ble_eq_true rfl) dX0_give_50 ⟨Nat.zero_le _, Nat.zero_le _⟩ ?_
    refine lv_iload hx hb dX0_give_53 (lv_at hl 5 rfl) ?_
    refine lv_icmp_ge (tgt := 68) hx hb dX0_give_55 (by decide) (fun h17 => ?_) (fun h17 => ?_)
    · refine lv_aload_n hx hb dX0_give_68 rfl (lv_at hl 0 rfl) ?_
      refine lv_iload_n hx hb dX0_give_69 rfl (lv_at hl 3 rfl) ?_
      refine lv_iload hx hb dX0_give_70 (lv_at hl 4 rfl) ?_
      refine lv_iload_n hx hb dX0_give_72 rfl (lv_at hl 1 rfl) ?_
      refine lv_iload hx hb dX0_give_73 (lv_at hl 5 rfl) ?_
      refine lv_ineg hx hb dX0_give_75 ?_
      refine r_callW (rest := []) Fx (m_X0_addShares l (D := D) (ci := ci) (cz := cz) (cj := cj) (q := q) (F := F) (P := P) (g := g) hq hF hP12 jf jw ja (-n) (by omega) (by omega) (by omega)) (cwV 4 Fx.2.2.2.2 gX0_give_X0_addShares rfl rfl rfl (by decide +kernel) ⟨Nat.le_of_ble_eq_true rfl, Nat.le_of_ble_eq_true rfl⟩) BW.bl (va_recv hK hP (ci := 0) (q0 := 0) rfl rfl) (BW.at hP hK hE hS) rfl hl.1 rfl (Nat.le_of_ble_eq_true rfl) dX0_give_76 ⟨Nat.zero_le _, Nat.zero_le _⟩ hS (fun _ h => h) (fun H locs hP hS _ _ => ?_)
      have hP : va_P D vwCl (w0 ci cz q F P (gAdd g jf jw ja (-n))) H := hP
      refine lv_aload_n hx hb dX0_give_79 rfl (lv_at hl 0 rfl) ?_
      refine lv_iload_n hx hb dX0_give_80 rfl (lv_at hl 3 rfl) ?_
      refine lv_iload hx hb dX0_give_81 (lv_at hl 4 rfl) ?_
      refine lv_iload_n hx hb dX0_give_83 rfl (lv_at hl 2 rfl) ?_
      refine lv_iload hx hb dX0_give_84 (lv_at hl 5 rfl) ?_
      refine r_callW (rest := []) Fx (m_X0_addShares l (D := D) (ci := ci) (cz := cz) (cj := cj) (q := q) (F := F) (P := P) (g := gAdd g jf jw ja (-n)) hq hF hP12 jf jw jb n (by omega) (by omega) (by omega)) (cwV 4 Fx.2.2.2.2 gX0_give_X0_addShares rfl rfl rfl (by decide +kernel) ⟨Nat.le_of_ble_eq_true rfl, Nat.le_of_ble_eq_true rfl⟩) BW.bl (va_recv hK hP (ci := 0) (q0 := 0) rfl rfl) (BW.at hP hK hE hS) rfl hl.1 rfl (Nat.le_of_ble_eq_true rfl) dX0_give_86 ⟨Nat.zero_le _, Nat.zero_le _⟩ hS (fun _ h => h) (fun H locs hP hS _ _ => ?_)
      have hP : va_P D vwCl (w0 ci cz q F P (gAdd (gAdd g jf jw ja (-n)) jf jw jb n)) H := hP
      refine lv_aload_n hx hb dX0_give_89 rfl (lv_at hl 0 rfl) ?_
      refine lv_iload_n hx hb dX0_give_90 rfl (lv_at hl 3 rfl) ?_
      refine lv_iload hx hb dX0_give_91 (lv_at hl 4 rfl) ?_
      refine lv_iload_n hx hb dX0_give_93 rfl (lv_at hl 2 rfl) ?_
      refine r_callR (rest := []) Fx (m_X0_owns l (D := D) (ci := ci) (cz := cz) (cj := cj) (q := q) (F := F) (P := P) (g := gAdd (gAdd g jf jw ja (-n)) jf jw jb n) hF hP12 jf jw jb (by omega) (by omega) (by omega)) (cwV 3 Fx.2.2.2.2 gX0_give_X0_owns rfl rfl rfl (by decide +kernel) ⟨Nat.le_of_ble_eq_true rfl, Nat.le_of_ble_eq_true rfl⟩) BW.bl (va_recv hK hP (ci := 0) (q0 := 0) rfl rfl) (BW.at hP hK hE hS) rfl hl.1 rfl (Nat.le_of_ble_eq_true rfl) dX0_give_94 ⟨Nat.zero_le _, Nat.zero_le _⟩ ?_
      exact p_iret hx hb hr hlocks hS (by simp only [h3, h6, h9, h12]; exact hP) (by simp [k_give, inR, inB, h1, h2, h3, h4, h5, h6, h7, h8, h9, h10, h11, h12, h13, h14, h15, h16, h17, Int32.not_lt.mpr h17]) (by simp [gGiv, h1, h2, h3, h4, h5, h6, h7, h8, h9, h10, h11, h12, h13, h14, h15, h16, h17, Int32.not_lt.mpr h17]) (Nat.zero_le _) (Nat.zero_le _) dX0_give_97
    · have h17 := Int32.not_le.mp h17
      exact x0_throw (cls := xIS) (text := "the one who gives has not so many shares") Fx hl0 hE hS hex hlocks (by decide +kernel) (by decide +kernel) (by decide +kernel) (by decide +kernel) (by decide +kernel) hl.1 dX0_give_58 dX0_give_61 dX0_give_62 dX0_give_64 dX0_give_67 (Nat.le_of_ble_eq_true rfl) (Nat.le_of_ble_eq_true rfl) (Nat.le_of_ble_eq_true rfl) (Nat.le_of_ble_eq_true rfl) (fun t ht => ⟨⟨2, (by simp [k_give, inR, inB, h1, h2, h3, h4, h5, h6, h7, h8, h9, h10, h11, h12, h13, h14, h15, h16, h17, Int32.not_le.mpr h17]), rfl⟩, ht⟩) nin (Nat.le_refl _) (Nat.le_refl _)
  · exact x0_throw (cls := xIA) (text := "both people are the same") Fx hl0 hE hS hex hlocks (by decide +kernel) (by decide +kernel) (by decide +kernel) (by decide +kernel) (by decide +kernel) hl.1 dX0_give_30 dX0_give_33 dX0_give_34 dX0_give_36 dX0_give_39 (Nat.le_of_ble_eq_true rfl) (Nat.le_of_ble_eq_true rfl) (Nat.le_of_ble_eq_true rfl) (Nat.le_of_ble_eq_true rfl) (fun t ht => ⟨⟨1, (by simp [k_give, inR, inB, h1, h2, h3, h4, h5, h6, h7, h8, h9, h10, h11, h12, h13, h14]), rfl⟩, ht⟩) nin (Nat.le_refl _) (Nat.le_refl _)
set_option maxHeartbeats 4000000 in
set_option maxRecDepth 100000 in
theorem m_X0_buy (l : Launch) (hl0 : l.stackTraces = false) {D : va_G} {ci cz : ClassId} {cj : ClassId × ClassId} {q : Nat → Nat} {F P : Nat} {g : Nat → Nat → Int32} (hq : DQ q 8) (hF : F ≤ 6) (hP12 : P ≤ 12) (a : Int32) (b : Int32) (f : Int32) (w : Int32) : vx_Met l yX0_buy wsX0_buy ({ frames := 8, cells := 1, slots := 6, locals := 127 } : Room) (va_Pc [.ref (q 0), .int a, .int b, .int f, .int w] (B0 D ci cz cj q F P g)) (PQ (k_buy F P g a b f w) (some (.int (sPri g (ix f) (ix w) (ix b)))) (fun H => va_P D vwCl (w0 ci cz q F P (gBuy g (ix a) (ix b) (ix f) (ix w))) H) (aw q 8)) (PX (k_buy F P g a b f w) [xIO, xIS]) 1 6 (aw q 8) := by
  refine vx_ofX (cc := cX0_buy) (maxL := 7) (ret := (some .int)) (by decide) rfl (Nat.le_of_ble_eq_true rfl) ?_
  intro pg en s m bl mt cd ls Fx hr hlocks hex hB hl
  obtain ⟨hP, hK, hE⟩ := hB
  have hl : lv_has ls 7 [(0, .ref (q 0)), (1, .int a), (2, .int b), (3, .int f), (4, .int w)] := hl
  have Fx : CallFix pg m cd cX0_buy 7 s _ wsX0_buy RX0 := Fx
  have hx := Fx.1
  have hb := Fx.2.1
  have hin : ∀ w ∈ wsX00, w ∈ wsX0_buy := by decide +kernel
  have hS : va_S (aw q 8) s.heap s.heap [] := va_S.rf
  have hP : va_P D vwCl (w0 ci cz q F P g) s.heap := hP
  refine lv_aload_n hx hb dX0_buy_0 rfl (lv_at hl 0 rfl) ?_
  refine lv_iload_n hx hb dX0_buy_1 rfl (lv_at hl 1 rfl) ?_
  refine lv_iload_n hx hb dX0_buy_2 rfl (lv_at hl 2 rfl) ?_
  refine lv_iload_n hx hb dX0_buy_3 rfl (lv_at hl 3 rfl) ?_
  refine lv_iload hx hb dX0_buy_4 (lv_at hl 4 rfl) ?_
  by_cases h1 : inR a P ∧ inR b P ∧ inR f F ∧ inR w 4
  rotate_left
  · refine r_callX (rest := []) Fx (m_X0_needSale_x l hl0 (D := D) (ci := ci) (cz := cz) (cj := cj) (q := q) (F := F) (P := P) (g := g) hF hP12 a b f w h1) (cwV 4 Fx.2.2.2.2 gX0_buy_X0_needSale rfl rfl rfl (by decide +kernel) ⟨Nat.le_of_ble_eq_true rfl, Nat.le_of_ble_eq_true rfl⟩) BW.bl (va_recv hK hP (ci := 0) (q0 := 0) rfl rfl) (BW.at hP hK hE hS) rfl hl.1 rfl (Nat.le_of_ble_eq_true rfl) dX0_buy_6 ⟨Nat.le_of_ble_eq_true rfl, Nat.le_of_ble_eq_true rfl⟩ (fun ce q9 H1 hh hce hcv hcl => ?_)
    exact p_out hex hlocks hh hce hcv hcl ⟨0, (by simp [k_buy, inR, inB, h1]), rfl⟩ (Nat.le_refl _) (Nat.le_refl _)
  obtain ⟨ja, h2, rfl⟩ := inR_of h1.1 (by omega)
  have h3 : ix (nI ja) = ja := ix_nI (by omega)
  obtain ⟨jb, h4, rfl⟩ := inR_of h1.2.1 (by omega)
  have h5 : ix (nI jb) = jb := ix_nI (by omega)
  obtain ⟨jf, h6, rfl⟩ := inR_of h1.2.2.1 (by omega)
  have h7 : ix (nI jf) = jf := ix_nI (by omega)
  obtain ⟨jw, h8, rfl⟩ := inR_of h1.2.2.2 (by omega)
  have h9 : ix (nI jw) = jw := ix_nI (by omega)
  refine r_callR (rest := []) Fx (m_X0_needSale l (D := D) (ci := ci) (cz := cz) (cj := cj) (q := q) (F := F) (P := P) (g := g) hF hP12 ja jb jf jw (by omega) (by omega) (by omega) (by omega)) (cwV 4 Fx.2.2.2.2 gX0_buy_X0_needSale rfl rfl rfl (by decide +kernel) ⟨Nat.le_of_ble_eq_true rfl, Nat.le_of_ble_eq_true rfl⟩) BW.bl (va_recv hK hP (ci := 0) (q0 := 0) rfl rfl) (BW.at hP hK hE hS) rfl hl.1 rfl (Nat.le_of_ble_eq_true rfl) dX0_buy_6 ⟨Nat.zero_le _, Nat.zero_le _⟩ ?_
  refine lv_aload_n hx hb dX0_buy_9 rfl (lv_at hl 0 rfl) ?_
  refine lv_iload_n hx hb dX0_buy_10 rfl (lv_at hl 1 rfl) ?_
  refine lv_iload_n hx hb dX0_buy_11 rfl (lv_at hl 2 rfl) ?_
  refine lv_iload_n hx hb dX0_buy_12 rfl (lv_at hl 3 rfl) ?_
  refine lv_iload hx hb dX0_buy_13 (lv_at hl 4 rfl) ?_
  refine r_callR (rest := []) Fx (m_X0_mayBuy l (D := D) (ci := ci) (cz := cz) (cj := cj) (q := q) (F := F) (P := P) (g := g) hF hP12 ja jb jf jw (by omega) (by omega) (by omega) (by omega)) (cwV 4 Fx.2.2.2.2 gX0_buy_X0_mayBuy rfl rfl rfl (by decide +kernel) ⟨Nat.le_of_ble_eq_true rfl, Nat.le_of_ble_eq_true rfl⟩) BW.bl (va_recv hK hP (ci := 0) (q0 := 0) rfl rfl) (BW.at hP hK hE hS) rfl hl.1 rfl (Nat.le_of_ble_eq_true rfl) dX0_buy_15 ⟨Nat.zero_le _, Nat.zero_le _⟩ ?_
  refine b_if_ne (tgt := 31) hx hb dX0_buy_18 (by decide) (fun h10 => ?_) (fun h10 => ?_)
  · refine lv_aload_n hx hb dX0_buy_31 rfl (lv_at hl 0 rfl) ?_
    refine lv_iload_n hx hb dX0_buy_32 rfl (lv_at hl 2 rfl) ?_
    refine lv_iload_n hx hb dX0_buy_33 rfl (lv_at hl 3 rfl) ?_
    refine lv_iload hx hb dX0_buy_34 (lv_at hl 4 rfl) ?_
    refine r_callR (rest := []) Fx (m_X0_priceOf l (D := D) (ci := ci) (cz := cz) (cj := cj) (q := q) (F := F) (P := P) (g := g) hF hP12 jb jf jw (by omega) (by omega) (by omega)) (cwV 3 Fx.2.2.2.2 gX0_buy_X0_priceOf rfl rfl rfl (by decide +kernel) ⟨Nat.le_of_ble_eq_true rfl, Nat.le_of_ble_eq_true rfl⟩) BW.bl (va_recv hK hP (ci := 0) (q0 := 0) rfl rfl) (BW.at hP hK hE hS) rfl hl.1 rfl (Nat.le_of_ble_eq_true rfl) dX0_buy_36 ⟨Nat.zero_le _, Nat.zero_le _⟩ ?_
    refine lv_istore (lv' := [(5, .int (sPri g jf jw jb)), (0, .ref (q 0)), (1, .int (nI ja)), (2, .int (nI jb)), (3, .int (nI jf)), (4, .int (nI jw))]) hx hb dX0_buy_39 hl (by decide) rfl (fun ls hl => ?_)
    refine lv_aload_n hx hb dX0_buy_41 rfl (lv_at hl 1 rfl) ?_
    refine lv_iload_n hx hb dX0_buy_42 rfl (lv_at hl 4 rfl) ?_
    refine lv_iload hx hb dX0_buy_43 (lv_at hl 5 rfl) ?_
    refine lv_iload_n hx hb dX0_buy_45 rfl (lv_at hl 3 rfl) ?_
    refine r_callR (rest := []) Fx (m_X0_owns l (D := D) (ci := ci) (cz := cz) (cj := cj) (q := q) (F := F) (P := P) (g := g) hF hP12 jf jw jb (by omega) (by omega) (by omega)) (cwV 3 Fx.2.2.2.2 gX0_buy_X0_owns rfl rfl rfl (by decide +kernel) ⟨Nat.le_of_ble_eq_true rfl, Nat.le_of_ble_eq_true rfl⟩) BW.bl (va_recv hK hP (ci := 0) (q0 := 0) rfl rfl) (BW.at hP hK hE hS) rfl hl.1 rfl (Nat.le_of_ble_eq_true rfl) dX0_buy_46 ⟨Nat.zero_le _, Nat.zero_le _⟩ ?_
    refine lv_istore (lv' := [(6, .int (own g jf jw jb)), (5, .int (sPri g jf jw jb)), (0, .ref (q 0)), (1, .int (nI ja)), (2, .int (nI jb)), (3, .int (nI jf)), (4, .int (nI jw))]) hx hb dX0_buy_49 hl (by decide) rfl (fun ls hl => ?_)
    refine lv_aload_n hx hb dX0_buy_51 rfl (lv_at hl 2 rfl) ?_
    refine r_get Fx hin hK hP 0 rfl 6 (by decide) (by decide +kernel) rfl rfl dX0_buy_52 ?_
    refine lv_iload_n hx hb dX0_buy_55 rfl (lv_at hl 3 rfl) ?_
    refine lv_dup2_11 hx hb dX0_buy_56 rfl rfl ?_
    refine r_iald Fx hK hP 5 0 rfl rfl (i := ja) (by omega) (by decide) dX0_buy_57 ?_
    refine lv_iload hx hb dX0_buy_58 (lv_at hl 1 rfl) ?_
    refine lv_isub hx hb dX0_buy_60 ?_
    refine r_iast Fx hK hP (d0 hq) hS 5 0 rfl rfl (i := ja) (by omega) (by decide) dX0_buy_61 (fun H locs hP hS => ?_)
    have hP : va_P D vwCl (w0 ci cz q F P (va_up g 4 (upd (g 4) ja ((g 4 ja) - (sPri g jf jw jb))))) H := hP
    refine lv_aload_n hx hb dX0_buy_62 rfl (lv_at hl 2 rfl) ?_
    refine lv_iload_n hx hb dX0_buy_63 rfl (lv_at hl 4 rfl) ?_
    refine lv_iload hx hb dX0_buy_64 (lv_at hl 1 rfl) ?_
    refine r_callW (rest := []) Fx (m_X0_addCoins l (D := D) (ci := ci) (cz := cz) (cj := cj) (q := q) (F := F) (P := P) (g := va_up g 4 (upd (g 4) ja ((g 4 ja) - (sPri g jf jw jb)))) hq hF hP12 jb (sPri g jf jw jb) (by omega)) (cwV 2 Fx.2.2.2.2 gX0_buy_X0_addCoins rfl rfl rfl (by decide +kernel) ⟨Nat.le_of_ble_eq_true rfl, Nat.le_of_ble_eq_true rfl⟩) BW.bl (va_recv hK hP (ci := 0) (q0 := 0) rfl rfl) (BW.at hP hK hE hS) rfl hl.1 rfl (Nat.le_of_ble_eq_true rfl) dX0_buy_66 ⟨Nat.zero_le _, Nat.zero_le _⟩ hS (fun _ h => h) (fun H locs hP hS _ _ => ?_)
    have hP : va_P D vwCl (w0 ci cz q F P (gGet (va_up g 4 (upd (g 4) ja ((g 4 ja) - (sPri g jf jw jb)))) jb (sPri g jf jw jb))) H := hP
    refine lv_aload_n hx hb dX0_buy_69 rfl (lv_at hl 2 rfl) ?_
    refine lv_iload_n hx hb dX0_buy_70 rfl (lv_at hl 5 rfl) ?_
    refine lv_iload hx hb dX0_buy_71 (lv_at hl 6 rfl) ?_
    refine lv_iload_n hx hb dX0_buy_73 rfl (lv_at hl 4 rfl) ?_
    refine lv_iload hx hb dX0_buy_74 (lv_at hl 0 rfl) ?_
    refine lv_ineg hx hb dX0_buy_76 ?_
    refine r_callW (rest := []) Fx (m_X0_addShares l (D := D) (ci := ci) (cz := cz) (cj := cj) (q := q) (F := F) (P := P) (g := gGet (va_up g 4 (upd (g 4) ja ((g 4 ja) - (sPri g jf jw jb)))) jb (sPri g jf jw jb)) hq hF hP12 jf jw jb (-(own g jf jw jb)) (by omega) (by omega) (by omega)) (cwV 4 Fx.2.2.2.2 gX0_buy_X0_addShares rfl rfl rfl (by decide +kernel) ⟨Nat.le_of_ble_eq_true rfl, Nat.le_of_ble_eq_true rfl⟩) BW.bl (va_recv hK hP (ci := 0) (q0 := 0) rfl rfl) (BW.at hP hK hE hS) rfl hl.1 rfl (Nat.le_of_ble_eq_true rfl) dX0_buy_77 ⟨Nat.zero_le _, Nat.zero_le _⟩ hS (fun _ h => h) (fun H locs hP hS _ _ => ?_)
    have hP : va_P D vwCl (w0 ci cz q F P (gAdd (gGet (va_up g 4 (upd (g 4) ja ((g 4 ja) - (sPri g jf jw jb)))) jb (sPri g jf jw jb)) jf jw jb (-(own g jf jw jb)))) H := hP
    refine lv_aload_n hx hb dX0_buy_80 rfl (lv_at hl 2 rfl) ?_
    refine lv_iload_n hx hb dX0_buy_81 rfl (lv_at hl 5 rfl) ?_
    refine lv_iload hx hb dX0_buy_82 (lv_at hl 6 rfl) ?_
    refine lv_iload_n hx hb dX0_buy_84 rfl (lv_at hl 3 rfl) ?_
    refine lv_iload hx hb dX0_buy_85 (lv_at hl 0 rfl) ?_
    refine r_callW (rest := []) Fx (m_X0_addShares l (D := D) (ci := ci) (cz := cz) (cj := cj) (q := q) (F := F) (P := P) (g := gAdd (gGet (va_up g 4 (upd (g 4) ja ((g 4 ja) - (sPri g jf jw jb)))) jb (sPri g jf jw jb)) jf jw jb (-(own g jf jw jb))) hq hF hP12 jf jw ja (own g jf jw jb) (by omega) (by omega) (by omega)) (cwV 4 Fx.2.2.2.2 gX0_buy_X0_addShares rfl rfl rfl (by decide +kernel) ⟨Nat.le_of_ble_eq_true rfl, Nat.le_of_ble_eq_true rfl⟩) BW.bl (va_recv hK hP (ci := 0) (q0 := 0) rfl rfl) (BW.at hP hK hE hS) rfl hl.1 rfl (Nat.le_of_ble_eq_true rfl) dX0_buy_87 ⟨Nat.zero_le _, Nat.zero_le _⟩ hS (fun _ h => h) (fun H locs hP hS _ _ => ?_)
    have hP : va_P D vwCl (w0 ci cz q F P (gAdd (gAdd (gGet (va_up g 4 (upd (g 4) ja ((g 4 ja) - (sPri g jf jw jb)))) jb (sPri g jf jw jb)) jf jw jb (-(own g jf jw jb))) jf jw ja (own g jf jw jb))) H := hP
    refine lv_iload hx hb dX0_buy_90 (lv_at hl 1 rfl) ?_
    exact p_iret hx hb hr hlocks hS (by simp only [h3, h5, h7, h9]; exact hP) (by simp [k_buy, inR, inB, h1, h2, h3, h4, h5, h6, h7, h8, h9, h10]) (by simp [k_buy, h1, h2, h3, h4, h5, h6, h7, h8, h9, h10]) (Nat.zero_le _) (Nat.zero_le _) dX0_buy_92
  · exact x0_throw (cls := xIS) (text := "this buyer cannot buy them") Fx hl0 hE hS hex hlocks (by decide +kernel) (by decide +kernel) (by decide +kernel) (by decide +kernel) (by decide +kernel) hl.1 dX0_buy_21 dX0_buy_24 dX0_buy_25 dX0_buy_27 dX0_buy_30 (Nat.le_of_ble_eq_true rfl) (Nat.le_of_ble_eq_true rfl) (Nat.le_of_ble_eq_true rfl) (Nat.le_of_ble_eq_true rfl) (fun t ht => ⟨⟨1, (by simp [k_buy, inR, inB, h1, h2, h3, h4, h5, h6, h7, h8, h9, h10]), rfl⟩, ht⟩) nin (Nat.le_refl _) (Nat.le_refl _)
set_option maxHeartbeats 4000000 in
set_option maxRecDepth 100000 in
theorem m_X0_setToll (l : Launch) (hl0 : l.stackTraces = false) {D : va_G} {ci cz : ClassId} {cj : ClassId × ClassId} {q : Nat → Nat} {F P : Nat} {g : Nat → Nat → Int32} (hq : DQ q 8) (hF : F ≤ 6) (hP12 : P ≤ 12) (f : Int32) (a : Int32) (n : Int32) : vx_Met l yX0_setToll wsX0_setToll ({ frames := 7, cells := 1, slots := 6, locals := 103 } : Room) (va_Pc [.ref (q 0), .int f, .int a, .int n] (B0 D ci cz cj q F P g)) (PQ (k_setToll F P g f a n) (some (.int (g 0 (ix f)))) (fun H => va_P D vwCl (w0 ci cz q F P (gTol g (ix f) n)) H) (aw q 8)) (PX (k_setToll F P g f a n) [xIO, xIA, xIS]) 1 6 (aw q 8) := by
  refine vx_ofX (cc := cX0_setToll) (maxL := 5) (ret := (some .int)) (by decide) rfl (Nat.le_of_ble_eq_true rfl) ?_
  intro pg en s m bl mt cd ls Fx hr hlocks hex hB hl
  obtain ⟨hP, hK, hE⟩ := hB
  have hl : lv_has ls 5 [(0, .ref (q 0)), (1, .int f), (2, .int a), (3, .int n)] := hl
  have Fx : CallFix pg m cd cX0_setToll 5 s _ wsX0_setToll RX0 := Fx
  have hx := Fx.1
  have hb := Fx.2.1
  have hin : ∀ w ∈ wsX00, w ∈ wsX0_setToll := by decide +kernel
  have hS : va_S (aw q 8) s.heap s.heap [] := va_S.rf
  have hP : va_P D vwCl (w0 ci cz q F P g) s.heap := hP
  refine lv_aload_n hx hb dX0_setToll_0 rfl (lv_at hl 0 rfl) ?_
  refine lv_iload_n hx hb dX0_setToll_1 rfl (lv_at hl 1 rfl) ?_
  by_cases h1 : inR f F
  rotate_left
  · refine r_callX (rest := []) Fx (m_X0_needFerry_x l hl0 (D := D) (ci := ci) (cz := cz) (cj := cj) (q := q) (F := F) (P := P) (g := g) hF hP12 f h1) (cwV 1 Fx.2.2.2.2 gX0_setToll_X0_needFerry rfl rfl rfl (by decide +kernel) ⟨Nat.le_of_ble_eq_true rfl, Nat.le_of_ble_eq_true rfl⟩) BW.bl (va_recv hK hP (ci := 0) (q0 := 0) rfl rfl) (BW.at hP hK hE hS) rfl hl.1 rfl (Nat.le_of_ble_eq_true rfl) dX0_setToll_2 ⟨Nat.le_of_ble_eq_true rfl, Nat.le_of_ble_eq_true rfl⟩ (fun ce q9 H1 hh hce hcv hcl => ?_)
    exact p_out hex hlocks hh hce hcv hcl ⟨0, (by simp [k_setToll, inR, inB, h1]), rfl⟩ (Nat.le_refl _) (Nat.le_refl _)
  obtain ⟨jf, h2, rfl⟩ := inR_of h1 (by omega)
  have h3 : ix (nI jf) = jf := ix_nI (by omega)
  refine r_callR (rest := []) Fx (m_X0_needFerry l (D := D) (ci := ci) (cz := cz) (cj := cj) (q := q) (F := F) (P := P) (g := g) hF hP12 jf (by omega)) (cwV 1 Fx.2.2.2.2 gX0_setToll_X0_needFerry rfl rfl rfl (by decide +kernel) ⟨Nat.le_of_ble_eq_true rfl, Nat.le_of_ble_eq_true rfl⟩) BW.bl (va_recv hK hP (ci := 0) (q0 := 0) rfl rfl) (BW.at hP hK hE hS) rfl hl.1 rfl (Nat.le_of_ble_eq_true rfl) dX0_setToll_2 ⟨Nat.zero_le _, Nat.zero_le _⟩ ?_
  refine lv_aload_n hx hb dX0_setToll_5 rfl (lv_at hl 0 rfl) ?_
  refine lv_iload_n hx hb dX0_setToll_6 rfl (lv_at hl 2 rfl) ?_
  by_cases h4 : inR a P
  rotate_left
  · refine r_callX (rest := []) Fx (m_X0_needPerson_x l hl0 (D := D) (ci := ci) (cz := cz) (cj := cj) (q := q) (F := F) (P := P) (g := g) hF hP12 a h4) (cwV 1 Fx.2.2.2.2 gX0_setToll_X0_needPerson rfl rfl rfl (by decide +kernel) ⟨Nat.le_of_ble_eq_true rfl, Nat.le_of_ble_eq_true rfl⟩) BW.bl (va_recv hK hP (ci := 0) (q0 := 0) rfl rfl) (BW.at hP hK hE hS) rfl hl.1 rfl (Nat.le_of_ble_eq_true rfl) dX0_setToll_7 ⟨Nat.le_of_ble_eq_true rfl, Nat.le_of_ble_eq_true rfl⟩ (fun ce q9 H1 hh hce hcv hcl => ?_)
    exact p_out hex hlocks hh hce hcv hcl ⟨0, (by simp [k_setToll, inR, inB, h1, h2, h3, h4]), rfl⟩ (Nat.le_refl _) (Nat.le_refl _)
  obtain ⟨ja, h5, rfl⟩ := inR_of h4 (by omega)
  have h6 : ix (nI ja) = ja := ix_nI (by omega)
  refine r_callR (rest := []) Fx (m_X0_needPerson l (D := D) (ci := ci) (cz := cz) (cj := cj) (q := q) (F := F) (P := P) (g := g) hF hP12 ja (by omega)) (cwV 1 Fx.2.2.2.2 gX0_setToll_X0_needPerson rfl rfl rfl (by decide +kernel) ⟨Nat.le_of_ble_eq_true rfl, Nat.le_of_ble_eq_true rfl⟩) BW.bl (va_recv hK hP (ci := 0) (q0 := 0) rfl rfl) (BW.at hP hK hE hS) rfl hl.1 rfl (Nat.le_of_ble_eq_true rfl) dX0_setToll_7 ⟨Nat.zero_le _, Nat.zero_le _⟩ ?_
  refine lv_iload_n hx hb dX0_setToll_10 rfl (lv_at hl 3 rfl) ?_
  by_cases h7 : 0 ≤ n ∧ n ≤ nI 20
  rotate_left
  · refine r_callXS (rest := []) Fx (m_X0_needToll_x l hl0 (D := D) (ci := ci) (cz := cz) (cj := cj) (q := q) (F := F) (P := P) (g := g) hF hP12 n h7) (va_cwS 1 Fx.2.2.2.2 gX0_setToll_X0_needToll rfl rfl rfl (by decide +kernel) ⟨Nat.le_of_ble_eq_true rfl, Nat.le_of_ble_eq_true rfl⟩) BW.bl (BW.at hP hK hE hS) rfl hl.1 rfl (Nat.le_of_ble_eq_true rfl) dX0_setToll_11 ⟨Nat.le_of_ble_eq_true rfl, Nat.le_of_ble_eq_true rfl⟩ (fun ce q9 H1 hh hce hcv hcl => ?_)
    exact p_out hex hlocks hh hce hcv hcl ⟨1, (by simp [k_setToll, inR, inB, h1, h2, h3, h4, h5, h6, h7]), rfl⟩ (Nat.le_refl _) (Nat.le_refl _)
  refine r_callRS (rest := []) Fx (m_X0_needToll l (D := D) (ci := ci) (cz := cz) (cj := cj) (q := q) (F := F) (P := P) (g := g) hF hP12 n h7) (va_cwS 1 Fx.2.2.2.2 gX0_setToll_X0_needToll rfl rfl rfl (by decide +kernel) ⟨Nat.le_of_ble_eq_true rfl, Nat.le_of_ble_eq_true rfl⟩) BW.bl (BW.at hP hK hE hS) rfl hl.1 rfl (Nat.le_of_ble_eq_true rfl) dX0_setToll_11 ⟨Nat.zero_le _, Nat.zero_le _⟩ ?_
  refine lv_aload_n hx hb dX0_setToll_14 rfl (lv_at hl 0 rfl) ?_
  refine lv_iload_n hx hb dX0_setToll_15 rfl (lv_at hl 1 rfl) ?_
  refine r_callR (rest := []) Fx (m_X0_findMaster l (D := D) (ci := ci) (cz := cz) (cj := cj) (q := q) (F := F) (P := P) (g := g) hF hP12 jf (by omega)) (cwV 1 Fx.2.2.2.2 gX0_setToll_X0_findMaster rfl rfl rfl (by decide +kernel) ⟨Nat.le_of_ble_eq_true rfl, Nat.le_of_ble_eq_true rfl⟩) BW.bl (va_recv hK hP (ci := 0) (q0 := 0) rfl rfl) (BW.at hP hK hE hS) rfl hl.1 rfl (Nat.le_of_ble_eq_true rfl) dX0_setToll_16 ⟨Nat.zero_le _, Nat.zero_le _⟩ ?_
  refine lv_iload_n hx hb dX0_setToll_19 rfl (lv_at hl 2 rfl) ?_
  refine lv_icmp_eq (tgt := 33) hx hb dX0_setToll_20 (by decide) (fun h8 => ?_) (fun h8 => ?_)
  · refine lv_aload_n hx hb dX0_setToll_33 rfl (lv_at hl 0 rfl) ?_
    refine r_get Fx hin hK hP 0 rfl 1 (by decide) (by decide +kernel) rfl rfl dX0_setToll_34 ?_
    refine lv_iload_n hx hb dX0_setToll_37 rfl (lv_at hl 1 rfl) ?_
    refine r_iald Fx hK hP 1 0 rfl rfl (i := jf) (by omega) (by decide) dX0_setToll_38 ?_
    refine lv_istore (lv' := [(4, .int (g 0 jf)), (0, .ref (q 0)), (1, .int (nI jf)), (2, .int (nI ja)), (3, .int n)]) hx hb dX0_setToll_39 hl (by decide) rfl (fun ls hl => ?_)
    refine lv_aload_n hx hb dX0_setToll_41 rfl (lv_at hl 1 rfl) ?_
    refine r_get Fx hin hK hP 0 rfl 1 (by decide) (by decide +kernel) rfl rfl dX0_setToll_42 ?_
    refine lv_iload_n hx hb dX0_setToll_45 rfl (lv_at hl 2 rfl) ?_
    refine lv_iload_n hx hb dX0_setToll_46 rfl (lv_at hl 4 rfl) ?_
    refine r_iast Fx hK hP (d0 hq) hS 1 0 rfl rfl (i := jf) (by omega) (by decide) dX0_setToll_47 (fun H locs hP hS => ?_)
    have hP : va_P D vwCl (w0 ci cz q F P (va_up g 0 (upd (g 0) jf n))) H := hP
    refine lv_iload hx hb dX0_setToll_48 (lv_at hl 0 rfl) ?_
    exact p_iret hx hb hr hlocks hS (by simp only [h3, h6]; exact hP) (by simp [k_setToll, inR, inB, h1, h2, h3, h4, h5, h6, h7, h8]) (by simp [k_setToll, h1, h2, h3, h4, h5, h6, h7, h8]) (Nat.zero_le _) (Nat.zero_le _) dX0_setToll_50
  · exact x0_throw (cls := xIS) (text := "this person is not the master of the ferry") Fx hl0 hE hS hex hlocks (by decide +kernel) (by decide +kernel) (by decide +kernel) (by decide +kernel) (by decide +kernel) hl.1 dX0_setToll_23 dX0_setToll_26 dX0_setToll_27 dX0_setToll_29 dX0_setToll_32 (Nat.le_of_ble_eq_true rfl) (Nat.le_of_ble_eq_true rfl) (Nat.le_of_ble_eq_true rfl) (Nat.le_of_ble_eq_true rfl) (fun t ht => ⟨⟨2, (by simp [k_setToll, inR, inB, h1, h2, h3, h4, h5, h6, h7, h8]), rfl⟩, ht⟩) nin (Nat.le_refl _) (Nat.le_refl _)
set_option maxHeartbeats 4000000 in
set_option maxRecDepth 100000 in
theorem m_X0_carry (l : Launch) (hl0 : l.stackTraces = false) {D : va_G} {ci cz : ClassId} {cj : ClassId × ClassId} {q : Nat → Nat} {F P : Nat} {g : Nat → Nat → Int32} (hq : DQ q 8) (hF : F ≤ 6) (hP12 : P ≤ 12) (f : Int32) (h : Int32) (x : Int32) : vx_Met l yX0_carry wsX0_carry ({ frames := 7, cells := 1, slots := 6, locals := 103 } : Room) (va_Pc [.ref (q 0), .int f, .int h, .int x] (B0 D ci cz cj q F P g)) (PQ (k_carry F f h x) (some (.int (lCar g (ix f) (ix h / 6) x P))) (fun H => va_P D vwCl (w0 ci cz q F P (gCry g P (ix f) (ix h / 6) x)) H) (aw q 8)) (PX (k_carry F f h x) [xIO, xIA]) 1 6 (aw q 8) := by
  refine vx_ofX (cc := cX0_carry) (maxL := 8) (ret := (some .int)) (by decide) rfl (Nat.le_of_ble_eq_true rfl) ?_
  intro pg en s m bl mt cd ls Fx hr hlocks hex hB hl
  obtain ⟨hP, hK, hE⟩ := hB
  have hl : lv_has ls 8 [(0, .ref (q 0)), (1, .int f), (2, .int h), (3, .int x)] := hl
  have Fx : CallFix pg m cd cX0_carry 8 s _ wsX0_carry RX0 := Fx
  have hx := Fx.1
  have hb := Fx.2.1
  have hin : ∀ w ∈ wsX00, w ∈ wsX0_carry := by decide +kernel
  have hS : va_S (aw q 8) s.heap s.heap [] := va_S.rf
  have hP : va_P D vwCl (w0 ci cz q F P g) s.heap := hP
  refine lv_aload_n hx hb dX0_carry_0 rfl (lv_at hl 0 rfl) ?_
  refine lv_iload_n hx hb dX0_carry_1 rfl (lv_at hl 1 rfl) ?_
  by_cases h1 : inR f F
  rotate_left
  · refine r_callX (rest := []) Fx (m_X0_needFerry_x l hl0 (D := D) (ci := ci) (cz := cz) (cj := cj) (q := q) (F := F) (P := P) (g := g) hF hP12 f h1) (cwV 1 Fx.2.2.2.2 gX0_carry_X0_needFerry rfl rfl rfl (by decide +kernel) ⟨Nat.le_of_ble_eq_true rfl, Nat.le_of_ble_eq_true rfl⟩) BW.bl (va_recv hK hP (ci := 0) (q0 := 0) rfl rfl) (BW.at hP hK hE hS) rfl hl.1 rfl (Nat.le_of_ble_eq_true rfl) dX0_carry_2 ⟨Nat.le_of_ble_eq_true rfl, Nat.le_of_ble_eq_true rfl⟩ (fun ce q9 H1 hh hce hcv hcl => ?_)
    exact p_out hex hlocks hh hce hcv hcl ⟨0, (by simp [k_carry, inR, inB, h1]), rfl⟩ (Nat.le_refl _) (Nat.le_refl _)
  obtain ⟨jf, h2, rfl⟩ := inR_of h1 (by omega)
  have h3 : ix (nI jf) = jf := ix_nI (by omega)
  refine r_callR (rest := []) Fx (m_X0_needFerry l (D := D) (ci := ci) (cz := cz) (cj := cj) (q := q) (F := F) (P := P) (g := g) hF hP12 jf (by omega)) (cwV 1 Fx.2.2.2.2 gX0_carry_X0_needFerry rfl rfl rfl (by decide +kernel) ⟨Nat.le_of_ble_eq_true rfl, Nat.le_of_ble_eq_true rfl⟩) BW.bl (va_recv hK hP (ci := 0) (q0 := 0) rfl rfl) (BW.at hP hK hE hS) rfl hl.1 rfl (Nat.le_of_ble_eq_true rfl) dX0_carry_2 ⟨Nat.zero_le _, Nat.zero_le _⟩ ?_
  refine lv_iload_n hx hb dX0_carry_5 rfl (lv_at hl 2 rfl) ?_
  by_cases h4 : inR h 24
  rotate_left
  · refine r_callXS (rest := []) Fx (m_X0_needHour_x l hl0 (D := D) (ci := ci) (cz := cz) (cj := cj) (q := q) (F := F) (P := P) (g := g) hF hP12 h h4) (va_cwS 1 Fx.2.2.2.2 gX0_carry_X0_needHour rfl rfl rfl (by decide +kernel) ⟨Nat.le_of_ble_eq_true rfl, Nat.le_of_ble_eq_true rfl⟩) BW.bl (BW.at hP hK hE hS) rfl hl.1 rfl (Nat.le_of_ble_eq_true rfl) dX0_carry_6 ⟨Nat.le_of_ble_eq_true rfl, Nat.le_of_ble_eq_true rfl⟩ (fun ce q9 H1 hh hce hcv hcl => ?_)
    exact p_out hex hlocks hh hce hcv hcl ⟨0, (by simp [k_carry, inR, inB, h1, h2, h3, h4]), rfl⟩ (Nat.le_refl _) (Nat.le_refl _)
  obtain ⟨jh, h5, rfl⟩ := inR_of h4 (by omega)
  have h6 : ix (nI jh) = jh := ix_nI (by omega)
  refine r_callRS (rest := []) Fx (m_X0_needHour l (D := D) (ci := ci) (cz := cz) (cj := cj) (q := q) (F := F) (P := P) (g := g) hF hP12 jh (by omega)) (va_cwS 1 Fx.2.2.2.2 gX0_carry_X0_needHour rfl rfl rfl (by decide +kernel) ⟨Nat.le_of_ble_eq_true rfl, Nat.le_of_ble_eq_true rfl⟩) BW.bl (BW.at hP hK hE hS) rfl hl.1 rfl (Nat.le_of_ble_eq_true rfl) dX0_carry_6 ⟨Nat.zero_le _, Nat.zero_le _⟩ ?_
  refine lv_iload_n hx hb dX0_carry_9 rfl (lv_at hl 3 rfl) ?_
  by_cases h7 : inB 1 200 x
  rotate_left
  · refine r_callXS (rest := []) Fx (m_X0_needPassengers_x l hl0 (D := D) (ci := ci) (cz := cz) (cj := cj) (q := q) (F := F) (P := P) (g := g) hF hP12 x h7) (va_cwS 1 Fx.2.2.2.2 gX0_carry_X0_needPassengers rfl rfl rfl (by decide +kernel) ⟨Nat.le_of_ble_eq_true rfl, Nat.le_of_ble_eq_true rfl⟩) BW.bl (BW.at hP hK hE hS) rfl hl.1 rfl (Nat.le_of_ble_eq_true rfl) dX0_carry_10 ⟨Nat.le_of_ble_eq_true rfl, Nat.le_of_ble_eq_true rfl⟩ (fun ce q9 H1 hh hce hcv hcl => ?_)
    exact p_out hex hlocks hh hce hcv hcl ⟨1, (by simp [k_carry, inR, inB, h1, h2, h3, h4, h5, h6, h7]), rfl⟩ (Nat.le_refl _) (Nat.le_refl _)
  refine r_callRS (rest := []) Fx (m_X0_needPassengers l (D := D) (ci := ci) (cz := cz) (cj := cj) (q := q) (F := F) (P := P) (g := g) hF hP12 x h7) (va_cwS 1 Fx.2.2.2.2 gX0_carry_X0_needPassengers rfl rfl rfl (by decide +kernel) ⟨Nat.le_of_ble_eq_true rfl, Nat.le_of_ble_eq_true rfl⟩) BW.bl (BW.at hP hK hE hS) rfl hl.1 rfl (Nat.le_of_ble_eq_true rfl) dX0_carry_10 ⟨Nat.zero_le _, Nat.zero_le _⟩ ?_
  refine lv_iload_n hx hb dX0_carry_13 rfl (lv_at hl 2 rfl) ?_
  refine lv_bipush (v := nI 6) hx hb dX0_carry_14 (by decide) ?_
  refine r_idiv_n hx hb (by omega) (by omega) (by omega) dX0_carry_16 ?_
  refine lv_istore (lv' := [(4, .int (nI (jh / 6))), (0, .ref (q 0)), (1, .int (nI jf)), (2, .int (nI jh)), (3, .int x)]) hx hb dX0_carry_17 hl (by decide) rfl (fun ls hl => ?_)
  refine lv_aload_n hx hb dX0_carry_19 rfl (lv_at hl 1 rfl) ?_
  refine r_get Fx hin hK hP 0 rfl 1 (by decide) (by decide +kernel) rfl rfl dX0_carry_20 ?_
  refine lv_iload_n hx hb dX0_carry_23 rfl (lv_at hl 2 rfl) ?_
  refine r_iald Fx hK hP 1 0 rfl rfl (i := jf) (by omega) (by decide) dX0_carry_24 ?_
  refine lv_iload_n hx hb dX0_carry_25 rfl (lv_at hl 4 rfl) ?_
  refine lv_imul hx hb dX0_carry_26 ?_
  refine lv_istore (lv' := [(5, .int ((g 0 jf) * x)), (4, .int (nI (jh / 6))), (0, .ref (q 0)), (1, .int (nI jf)), (2, .int (nI jh)), (3, .int x)]) hx hb dX0_carry_27 hl (by decide) rfl (fun ls hl => ?_)
  refine lv_iconst (v := nI 0) hx hb dX0_carry_29 (by decide) ?_
  refine lv_istore (lv' := [(6, .int (nI 0)), (5, .int ((g 0 jf) * x)), (4, .int (nI (jh / 6))), (0, .ref (q 0)), (1, .int (nI jf)), (2, .int (nI jh)), (3, .int x)]) hx hb dX0_carry_30 hl (by decide) rfl (fun ls hl => ?_)
  refine wloop (nL := 8) (N := P) (fun _ => True) (fun i => [(0, .ref (q 0)), (1, .int (nI jf)), (2, .int (nI jh)), (3, .int x), (4, .int (nI (jh / 6))), (5, .int (lCar g jf (jh / 6) x i)), (6, .int (nI i))]) (fun i H => va_P D vwCl (w0 ci cz q F P (gCar g jf (jh / 6) x i)) H) (trivial) (hP) hS (lv_sub hl [3, 4, 5, 6, 2, 1, 0] rfl) ?_ ?_
  · intro h8 H locs ls hP hS hl
    have hl : lv_has ls 8 [(0, .ref (q 0)), (1, .int (nI jf)), (2, .int (nI jh)), (3, .int x), (4, .int (nI (jh / 6))), (5, .int (lCar g jf (jh / 6) x P)), (6, .int (nI P))] := hl
    have hP : va_P D vwCl (w0 ci cz q F P (gCar g jf (jh / 6) x P)) H := hP
    refine lv_iload hx hb dX0_carry_32 (lv_at hl 6 rfl) ?_
    refine lv_aload_n hx hb dX0_carry_34 rfl (lv_at hl 0 rfl) ?_
    refine r_get Fx hin hK hP 0 rfl 4 (by decide) (by decide +kernel) rfl rfl dX0_carry_35 ?_
    refine n_icmp_ge (tgt := 86) hx hb (by omega) (by omega) dX0_carry_38 (by decide) (fun h9 => ?_) (fun h9 => by omega)
    refine lv_aload_n hx hb dX0_carry_86 rfl (lv_at hl 0 rfl) ?_
    refine lv_dup hx hb dX0_carry_87 rfl ?_
    refine r_get Fx hin hK hP 0 rfl 9 (by decide) (by decide +kernel) rfl rfl dX0_carry_88 ?_
    refine lv_iload hx hb dX0_carry_91 (lv_at hl 5 rfl) ?_
    refine lv_iadd hx hb dX0_carry_93 ?_
    refine r_put Fx hin tyX0 tyX0_ok nmX0 hK hP (d0 hq) hS 0 rfl 9 (by decide) (by decide +kernel) rfl (by decide +kernel) rfl (Nat.le_of_ble_eq_true rfl) dX0_carry_94 (fun H locs hP hS => ?_)
    have hP : va_P D vwCl (w0 ci cz q F P (gCro (gCar g jf (jh / 6) x P) (lCar g jf (jh / 6) x P))) H := hP
    refine lv_aload_n hx hb dX0_carry_97 rfl (lv_at hl 0 rfl) ?_
    refine r_get Fx hin hK hP 0 rfl 2 (by decide) (by decide +kernel) rfl rfl dX0_carry_98 ?_
    refine lv_iload_n hx hb dX0_carry_101 rfl (lv_at hl 1 rfl) ?_
    refine lv_dup2_11 hx hb dX0_carry_102 rfl rfl ?_
    refine r_iald Fx hK hP 2 0 rfl rfl (i := jf) (by omega) (by decide) dX0_carry_103 ?_
    refine lv_iload_n hx hb dX0_carry_104 rfl (lv_at hl 3 rfl) ?_
    refine lv_iadd hx hb dX0_carry_105 ?_
    refine r_iast Fx hK hP (d0 hq) hS 2 0 rfl rfl (i := jf) (by omega) (by decide) dX0_carry_106 (fun H locs hP hS => ?_)
    have hP : va_P D vwCl (w0 ci cz q F P (gCad (gCro (gCar g jf (jh / 6) x P) (lCar g jf (jh / 6) x P)) jf x)) H := hP
    refine lv_iload hx hb dX0_carry_107 (lv_at hl 5 rfl) ?_
    exact p_iret hx hb hr hlocks hS (by simp only [h3, h6]; exact hP) (by simp [k_carry, inR, inB, h1, h2, h3, h4, h5, h6, h7, h9]) (by simp [k_carry, h1, h2, h3, h4, h5, h6, h7, h9]) (Nat.zero_le _) (Nat.zero_le _) dX0_carry_109
  · intro i h11 h10 ih32 H locs ls hP hS hl
    have hl : lv_has ls 8 [(0, .ref (q 0)), (1, .int (nI jf)), (2, .int (nI jh)), (3, .int x), (4, .int (nI (jh / 6))), (5, .int (lCar g jf (jh / 6) x i)), (6, .int (nI i))] := hl
    have hP : va_P D vwCl (w0 ci cz q F P (gCar g jf (jh / 6) x i)) H := hP
    refine lv_iload hx hb dX0_carry_32 (lv_at hl 6 rfl) ?_
    refine lv_aload_n hx hb dX0_carry_34 rfl (lv_at hl 0 rfl) ?_
    refine r_get Fx hin hK hP 0 rfl 4 (by decide) (by decide +kernel) rfl rfl dX0_carry_35 ?_
    refine n_icmp_ge (tgt := 86) hx hb (by omega) (by omega) dX0_carry_38 (by decide) (fun h12 => by omega) (fun h12 => ?_)
    refine lv_aload_n hx hb dX0_carry_41 rfl (lv_at hl 0 rfl) ?_
    refine lv_iload hx hb dX0_carry_42 (lv_at hl 6 rfl) ?_
    refine lv_iload_n hx hb dX0_carry_44 rfl (lv_at hl 1 rfl) ?_
    refine lv_iload hx hb dX0_carry_45 (lv_at hl 4 rfl) ?_
    refine lv_iload_n hx hb dX0_carry_47 rfl (lv_at hl 3 rfl) ?_
    refine r_callR (rest := []) Fx (m_X0_fareOf l (D := D) (ci := ci) (cz := cz) (cj := cj) (q := q) (F := F) (P := P) (g := gCar g jf (jh / 6) x i) hF hP12 i jf (jh / 6) x (by omega) (by omega) (by omega)) (cwV 4 Fx.2.2.2.2 gX0_carry_X0_fareOf rfl rfl rfl (by decide +kernel) ⟨Nat.le_of_ble_eq_true rfl, Nat.le_of_ble_eq_true rfl⟩) BW.bl (va_recv hK hP (ci := 0) (q0 := 0) rfl rfl) (BW.at hP hK hE hS) rfl hl.1 rfl (Nat.le_of_ble_eq_true rfl) dX0_carry_48 ⟨Nat.zero_le _, Nat.zero_le _⟩ ?_
    refine lv_istore (lv' := [(7, .int (sFar (gCar g jf (jh / 6) x i) jf (jh / 6) i x)), (0, .ref (q 0)), (1, .int (nI jf)), (2, .int (nI jh)), (3, .int x), (4, .int (nI (jh / 6))), (5, .int (lCar g jf (jh / 6) x i)), (6, .int (nI i))]) hx hb dX0_carry_51 hl (by decide) rfl (fun ls hl => ?_)
    refine lv_aload_n hx hb dX0_carry_53 rfl (lv_at hl 1 rfl) ?_
    refine r_get Fx hin hK hP 0 rfl 7 (by decide) (by decide +kernel) rfl rfl dX0_carry_54 ?_
    refine lv_iload hx hb dX0_carry_57 (lv_at hl 7 rfl) ?_
    refine lv_dup2_11 hx hb dX0_carry_59 rfl rfl ?_
    refine r_iald Fx hK hP 6 0 rfl rfl (i := i) (by omega) (by decide) dX0_carry_60 ?_
    refine lv_iload hx hb dX0_carry_61 (lv_at hl 0 rfl) ?_
    refine lv_iadd hx hb dX0_carry_63 ?_
    refine r_iast Fx hK hP (d0 hq) hS 6 0 rfl rfl (i := i) (by omega) (by decide) dX0_carry_64 (fun H locs hP hS => ?_)
    have hP : va_P D vwCl (w0 ci cz q F P (gEar (gCar g jf (jh / 6) x i) i (sFar (gCar g jf (jh / 6) x i) jf (jh / 6) i x))) H := hP
    refine lv_aload_n hx hb dX0_carry_65 rfl (lv_at hl 1 rfl) ?_
    refine lv_iload hx hb dX0_carry_66 (lv_at hl 7 rfl) ?_
    refine lv_iload hx hb dX0_carry_68 (lv_at hl 0 rfl) ?_
    refine r_callW (rest := []) Fx (m_X0_addCoins l (D := D) (ci := ci) (cz := cz) (cj := cj) (q := q) (F := F) (P := P) (g := gEar (gCar g jf (jh / 6) x i) i (sFar (gCar g jf (jh / 6) x i) jf (jh / 6) i x)) hq hF hP12 i (sFar (gCar g jf (jh / 6) x i) jf (jh / 6) i x) (by omega)) (cwV 2 Fx.2.2.2.2 gX0_carry_X0_addCoins rfl rfl rfl (by decide +kernel) ⟨Nat.le_of_ble_eq_true rfl, Nat.le_of_ble_eq_true rfl⟩) BW.bl (va_recv hK hP (ci := 0) (q0 := 0) rfl rfl) (BW.at hP hK hE hS) rfl hl.1 rfl (Nat.le_of_ble_eq_true rfl) dX0_carry_70 ⟨Nat.zero_le _, Nat.zero_le _⟩ hS (fun _ h => h) (fun H locs hP hS _ _ => ?_)
    have hP : va_P D vwCl (w0 ci cz q F P (gGet (gEar (gCar g jf (jh / 6) x i) i (sFar (gCar g jf (jh / 6) x i) jf (jh / 6) i x)) i (sFar (gCar g jf (jh / 6) x i) jf (jh / 6) i x))) H := hP
    refine lv_iload hx hb dX0_carry_73 (lv_at hl 6 rfl) ?_
    refine lv_iload hx hb dX0_carry_75 (lv_at hl 0 rfl) ?_
    refine lv_isub hx hb dX0_carry_77 ?_
    refine lv_istore (lv' := [(5, .int ((lCar g jf (jh / 6) x i) - (sFar (gCar g jf (jh / 6) x i) jf (jh / 6) i x))), (7, .int (sFar (gCar g jf (jh / 6) x i) jf (jh / 6) i x)), (0, .ref (q 0)), (1, .int (nI jf)), (2, .int (nI jh)), (3, .int x), (4, .int (nI (jh / 6))), (6, .int (nI i))]) hx hb dX0_carry_78 hl (by decide) rfl (fun ls hl => ?_)
    refine lv_iinc (v := nI (i + 1)) (lv' := [(6, .int (nI (i + 1))), (5, .int ((lCar g jf (jh / 6) x i) - (sFar (gCar g jf (jh / 6) x i) jf (jh / 6) i x))), (7, .int (sFar (gCar g jf (jh / 6) x i) jf (jh / 6) i x)), (0, .ref (q 0)), (1, .int (nI jf)), (2, .int (nI jh)), (3, .int x), (4, .int (nI (jh / 6)))]) hx hb dX0_carry_80 hl (k := 7) rfl (nI_inc _ 1) (by decide) rfl (fun ls hl => ?_)
    refine lv_goto (tgt := 32) hx hb dX0_carry_83 (by decide) ?_
    exact ih32 (trivial) _ _ _ (hP) hS (lv_sub hl [3, 4, 5, 6, 7, 1, 0] rfl)
end
section
/-! PART 15: dying, as FerryRights goes about it. -/
section SPEC3
/-- an heir o gets the part at the place pl of c heirs, of each watch of the ferry f; of all ferries; and of the coins -/
def gHw (g : Nat → Nat → Int32) (f k o c pl : Nat) : Nat → Nat → Nat → Int32 | 0 => g | w + 1 => gAdd (gHw g f k o c pl w) f w o (sPar (own (gHw g f k o c pl w) f w k) c pl)
def gHf (g : Nat → Nat → Int32) (k o c pl : Nat) : Nat → Nat → Nat → Int32 | 0 => g | f + 1 => gHw (gHf g k o c pl f) f k o c pl 4
def gHnd (g : Nat → Nat → Int32) (F k o c pl : Nat) : Nat → Nat → Int32 := gGet (gHf g k o c pl F) o (sPar (gHf g k o c pl F 4 k) c pl)
/-- all heirs, in the order of their numbers -/
def gHr (g : Nat → Nat → Int32) (F P k c : Nat) : Nat → Nat → Nat → Int32 | 0 => g | i + 1 => if sIsH g P i k then gHnd (gHr g F P k c i) F k i c (sCHB g P i k) else gHr g F P k c i
/-- the dead one has nothing -/
def gBw (g : Nat → Nat → Int32) (f k : Nat) : Nat → Nat → Nat → Int32 | 0 => g | w + 1 => va_up (gBw g f k w) 2 (upd (gBw g f k w 2) (sl f w k) (nI 0))
def gBf (g : Nat → Nat → Int32) (k : Nat) : Nat → Nat → Nat → Int32 | 0 => g | f + 1 => gBw (gBf g k f) f k 4
def gBur (g : Nat → Nat → Int32) (F k : Nat) : Nat → Nat → Int32 := va_up (va_up (gBf g k F) 4 (upd (gBf g k F 4) k (nI 0))) 3 (upd (gBf g k F 3) k (nI 1))
def gDi1 (g : Nat → Nat → Int32) (F P k : Nat) : Nat → Nat → Int32 := if sCHe g P k = 0 then gCro (gHr g F P k (sCHe g P k) P) (gHr g F P k (sCHe g P k) P 4 k) else gHr g F P k (sCHe g P k) P
def gDie (g : Nat → Nat → Int32) (F P k : Nat) : Nat → Nat → Int32 := gBur (gDi1 g F P k) F k
theorem alv_bury {P k : Nat} {d : Nat → Int32} : upd (alv P d) k (nI 0) = alv P (upd d k (nI 1)) := by
  funext z
  by_cases hz : z = k
  · subst hz
    have h1 : (nI 1 : Int32) ≠ 0 := by decide
    by_cases hp : z < P <;> simp [upd, alv, hp, h1] <;> rfl
  · simp [upd, alv, hz]
theorem bury_w {ci cz : ClassId} {q : Nat → Nat} {F P k : Nat} {g : Nat → Nat → Int32} : w0r ci cz q F P (upd (alv P (va_up (gBf g k F) 4 (upd (gBf g k F 4) k (nI 0)) 3)) k (nI 0)) (va_up (gBf g k F) 4 (upd (gBf g k F 4) k (nI 0))) = w0 ci cz q F P (gBur g F k) := by
  rw [alv_bury]
  rfl
/-- giving changes neither who is dead nor whose child one is -/
theorem hw_36 (g : Nat → Nat → Int32) (f k o c pl : Nat) : ∀ w, gHw g f k o c pl w 3 = g 3 ∧ gHw g f k o c pl w 6 = g 6 ∧ gHw g f k o c pl w 4 = g 4
  | 0 => ⟨rfl, rfl, rfl⟩
  | w + 1 => ⟨(hw_36 g f k o c pl w).1, (hw_36 g f k o c pl w).2.1, (hw_36 g f k o c pl w).2.2⟩
theorem hf_36 (g : Nat → Nat → Int32) (k o c pl : Nat) : ∀ f, gHf g k o c pl f 3 = g 3 ∧ gHf g k o c pl f 6 = g 6 ∧ gHf g k o c pl f 4 = g 4
  | 0 => ⟨rfl, rfl, rfl⟩
  | f + 1 => by
    have h := hw_36 (gHf g k o c pl f) f k o c pl 4
    have h1 := hf_36 g k o c pl f
    exact ⟨h.1.trans h1.1, h.2.1.trans h1.2.1, h.2.2.trans h1.2.2⟩
theorem hnd_36 (g : Nat → Nat → Int32) (F k o c pl : Nat) : gHnd g F k o c pl 3 = g 3 ∧ gHnd g F k o c pl 6 = g 6 := ⟨(hf_36 g k o c pl F).1, (hf_36 g k o c pl F).2.1⟩
theorem hr_36 (g : Nat → Nat → Int32) (F P k c : Nat) : ∀ i, gHr g F P k c i 3 = g 3 ∧ gHr g F P k c i 6 = g 6
  | 0 => ⟨rfl, rfl⟩
  | i + 1 => by
    have h1 := hr_36 g F P k c i
    unfold gHr
    split
    · have h := hnd_36 (gHr g F P k c i) F k i c (sCHB g P i k)
      exact ⟨h.1.trans h1.1, h.2.trans h1.2⟩
    · exact h1
theorem lv_eq {g g' : Nat → Nat → Int32} (h : g' 3 = g 3) : lv g' = lv g := by unfold lv; rw [h]
theorem sHlc_eq {g g' : Nat → Nat → Int32} (h3 : g' 3 = g 3) (h6 : g' 6 = g 6) : sHlc g' = sHlc g := by
  unfold sHlc
  rw [lv_eq h3, h6]
theorem sIsH_eq {g g' : Nat → Nat → Int32} (h3 : g' 3 = g 3) (h6 : g' 6 = g 6) : sIsH g' = sIsH g := by
  unfold sIsH
  rw [lv_eq h3, h6, sHlc_eq h3 h6]
end SPEC3
end
section
/-! FerryRights, V: dying -/
set_option maxHeartbeats 4000000 in
set_option maxRecDepth 100000 in
theorem m_X0_hand (l : Launch) {D : va_G} {ci cz : ClassId} {cj : ClassId × ClassId} {q : Nat → Nat} {F P : Nat} {g : Nat → Nat → Int32} (hq : DQ q 8) (hF : F ≤ 6) (hP12 : P ≤ 12) (k : Nat) (o : Nat) (c : Nat) (pl : Nat) (ha0 : k < 12) (ha1 : o < 12) (ha2 : c ≤ 12) (ha3 : pl ≤ 12) : Met l yX0_hand wsX0_hand ({ frames := 2, cells := 0, slots := 0, locals := 46 } : Room) (va_Pc [.ref (q 0), .int (nI k), .int (nI o), .int (nI c), .int (nI pl)] (B0 D ci cz cj q F P g)) (WQ none (fun H => va_P D vwCl (w0 ci cz q F P (gHnd g F k o c pl)) H) (aw q 8)) 0 0 (aw q 8) := by
  refine Met.ofWr (cc := cX0_hand) (maxL := 7) (ret := none) (by decide) rfl (Nat.le_of_ble_eq_true rfl) ?_
  intro pg en s m bl mt cd ls Fx hr hlocks hB hl
  obtain ⟨hP, hK, hE⟩ := hB
  have hl : lv_has ls 7 [(0, .ref (q 0)), (1, .int (nI k)), (2, .int (nI o)), (3, .int (nI c)), (4, .int (nI pl))] := hl
  have Fx : CallFix pg m cd cX0_hand 7 s _ wsX0_hand RX0 := Fx
  have hx := Fx.1
  have hb := Fx.2.1
  have hin : ∀ w ∈ wsX00, w ∈ wsX0_hand := by decide +kernel
  have hS : va_S (aw q 8) s.heap s.heap [] := va_S.rf
  have hP : va_P D vwCl (w0 ci cz q F P g) s.heap := hP
  refine lv_iconst (v := nI 0) hx hb dX0_hand_0 (by decide) ?_
  refine lv_istore (lv' := [(5, .int (nI 0)), (0, .ref (q 0)), (1, .int (nI k)), (2, .int (nI o)), (3, .int (nI c)), (4, .int (nI pl))]) hx hb dX0_hand_1 hl (by decide) rfl (fun ls hl => ?_)
  refine wloop (nL := 7) (N := F) (fun _ => True) (fun i => [(0, .ref (q 0)), (1, .int (nI k)), (2, .int (nI o)), (3, .int (nI c)), (4, .int (nI pl)), (5, .int (nI i))]) (fun i H => va_P D vwCl (w0 ci cz q F P (gHf g k o c pl i)) H) (trivial) (hP) hS (lv_sub hl [1, 2, 3, 4, 5, 0] rfl) ?_ ?_
  · intro h1 H locs ls hP hS hl
    have hl : lv_has ls 7 [(0, .ref (q 0)), (1, .int (nI k)), (2, .int (nI o)), (3, .int (nI c)), (4, .int (nI pl)), (5, .int (nI F))] := hl
    have hP : va_P D vwCl (w0 ci cz q F P (gHf g k o c pl F)) H := hP
    refine lv_iload hx hb dX0_hand_3 (lv_at hl 5 rfl) ?_
    refine lv_aload_n hx hb dX0_hand_5 rfl (lv_at hl 0 rfl) ?_
    refine r_get Fx hin hK hP 0 rfl 0 (by decide) (by decide +kernel) rfl rfl dX0_hand_6 ?_
    refine n_icmp_ge (tgt := 57) hx hb (by omega) (by omega) dX0_hand_9 (by decide) (fun h2 => ?_) (fun h2 => by omega)
    refine lv_aload_n hx hb dX0_hand_57 rfl (lv_at hl 0 rfl) ?_
    refine lv_iload_n hx hb dX0_hand_58 rfl (lv_at hl 2 rfl) ?_
    refine lv_aload_n hx hb dX0_hand_59 rfl (lv_at hl 0 rfl) ?_
    refine r_get Fx hin hK hP 0 rfl 6 (by decide) (by decide +kernel) rfl rfl dX0_hand_60 ?_
    refine lv_iload_n hx hb dX0_hand_63 rfl (lv_at hl 1 rfl) ?_
    refine r_iald Fx hK hP 5 0 rfl rfl (i := k) (by omega) (by decide) dX0_hand_64 ?_
    refine lv_iload_n hx hb dX0_hand_65 rfl (lv_at hl 3 rfl) ?_
    refine lv_iload hx hb dX0_hand_66 (lv_at hl 4 rfl) ?_
    refine r_callRS (rest := [.int (nI o), .ref (q 0)]) Fx (m_X0_partOf l (D := D) (ci := ci) (cz := cz) (cj := cj) (q := q) (F := F) (P := P) (g := gHf g k o c pl F) hF hP12 ((gHf g k o c pl F) 4 k) c pl (by omega) (by omega)) (va_cwS 3 Fx.2.2.2.2 gX0_hand_X0_partOf rfl rfl rfl (by decide +kernel) ⟨Nat.le_of_ble_eq_true rfl, Nat.le_of_ble_eq_true rfl⟩) BW.bl (BW.at hP hK hE hS) rfl hl.1 rfl (Nat.le_of_ble_eq_true rfl) dX0_hand_68 ⟨Nat.zero_le _, Nat.zero_le _⟩ ?_
    refine r_callW (rest := []) Fx (m_X0_addCoins l (D := D) (ci := ci) (cz := cz) (cj := cj) (q := q) (F := F) (P := P) (g := gHf g k o c pl F) hq hF hP12 o (sPar ((gHf g k o c pl F) 4 k) c pl) (by omega)) (cwV 2 Fx.2.2.2.2 gX0_hand_X0_addCoins rfl rfl rfl (by decide +kernel) ⟨Nat.le_of_ble_eq_true rfl, Nat.le_of_ble_eq_true rfl⟩) BW.bl (va_recv hK hP (ci := 0) (q0 := 0) rfl rfl) (BW.at hP hK hE hS) rfl hl.1 rfl (Nat.le_of_ble_eq_true rfl) dX0_hand_71 ⟨Nat.zero_le _, Nat.zero_le _⟩ hS (fun _ h => h) (fun H locs hP hS _ _ => ?_)
    have hP : va_P D vwCl (w0 ci cz q F P (gGet (gHf g k o c pl F) o (sPar ((gHf g k o c pl F) 4 k) c pl))) H := hP
    exact w_vret hx hb hr hlocks hS (hP) dX0_hand_74
  · intro i h4 h3 ih3 H locs ls hP hS hl
    have hl : lv_has ls 7 [(0, .ref (q 0)), (1, .int (nI k)), (2, .int (nI o)), (3, .int (nI c)), (4, .int (nI pl)), (5, .int (nI i))] := hl
    have hP : va_P D vwCl (w0 ci cz q F P (gHf g k o c pl i)) H := hP
    refine lv_iload hx hb dX0_hand_3 (lv_at hl 5 rfl) ?_
    refine lv_aload_n hx hb dX0_hand_5 rfl (lv_at hl 0 rfl) ?_
    refine r_get Fx hin hK hP 0 rfl 0 (by decide) (by decide +kernel) rfl rfl dX0_hand_6 ?_
    refine n_icmp_ge (tgt := 57) hx hb (by omega) (by omega) dX0_hand_9 (by decide) (fun h5 => by omega) (fun h5 => ?_)
    refine lv_iconst (v := nI 0) hx hb dX0_hand_12 (by decide) ?_
    refine lv_istore (lv' := [(6, .int (nI 0)), (0, .ref (q 0)), (1, .int (nI k)), (2, .int (nI o)), (3, .int (nI c)), (4, .int (nI pl)), (5, .int (nI i))]) hx hb dX0_hand_13 hl (by decide) rfl (fun ls hl => ?_)
    refine wloop (nL := 7) (N := 4) (fun _ => True) (fun i' => [(0, .ref (q 0)), (1, .int (nI k)), (2, .int (nI o)), (3, .int (nI c)), (4, .int (nI pl)), (5, .int (nI i)), (6, .int (nI i'))]) (fun i' H => va_P D vwCl (w0 ci cz q F P (gHw (gHf g k o c pl i) i k o c pl i')) H) (trivial) (hP) hS (lv_sub hl [1, 2, 3, 4, 5, 6, 0] rfl) ?_ ?_
    · intro h6 H locs ls hP hS hl
      have hl : lv_has ls 7 [(0, .ref (q 0)), (1, .int (nI k)), (2, .int (nI o)), (3, .int (nI c)), (4, .int (nI pl)), (5, .int (nI i)), (6, .int (nI 4))] := hl
      have hP : va_P D vwCl (w0 ci cz q F P (gHw (gHf g k o c pl i) i k o c pl 4)) H := hP
      refine lv_iload hx hb dX0_hand_15 (lv_at hl 6 rfl) ?_
      refine lv_iconst (v := nI 4) hx hb dX0_hand_17 (by decide) ?_
      refine n_icmp_ge (tgt := 51) hx hb (by omega) (by omega) dX0_hand_18 (by decide) (fun h7 => ?_) (fun h7 => by omega)
      refine lv_iinc (v := nI (i + 1)) (lv' := [(5, .int (nI (i + 1))), (0, .ref (q 0)), (1, .int (nI k)), (2, .int (nI o)), (3, .int (nI c)), (4, .int (nI pl)), (6, .int (nI 4))]) hx hb dX0_hand_51 hl (k := 5) rfl (nI_inc _ 1) (by decide) rfl (fun ls hl => ?_)
      refine lv_goto (tgt := 3) hx hb dX0_hand_54 (by decide) ?_
      exact ih3 (trivial) _ _ _ (hP) hS (lv_sub hl [1, 2, 3, 4, 5, 0] rfl)
    · intro i' h9 h8 ih15 H locs ls hP hS hl
      have hl : lv_has ls 7 [(0, .ref (q 0)), (1, .int (nI k)), (2, .int (nI o)), (3, .int (nI c)), (4, .int (nI pl)), (5, .int (nI i)), (6, .int (nI i'))] := hl
      have hP : va_P D vwCl (w0 ci cz q F P (gHw (gHf g k o c pl i) i k o c pl i')) H := hP
      refine lv_iload hx hb dX0_hand_15 (lv_at hl 6 rfl) ?_
      refine lv_iconst (v := nI 4) hx hb dX0_hand_17 (by decide) ?_
      refine n_icmp_ge (tgt := 51) hx hb (by omega) (by omega) dX0_hand_18 (by decide) (fun h10 => by omega) (fun h10 => ?_)
      refine lv_aload_n hx hb dX0_hand_21 rfl (lv_at hl 0 rfl) ?_
      refine lv_iload hx hb dX0_hand_22 (lv_at hl 5 rfl) ?_
      refine lv_iload hx hb dX0_hand_24 (lv_at hl 6 rfl) ?_
      refine lv_iload_n hx hb dX0_hand_26 rfl (lv_at hl 2 rfl) ?_
      refine lv_aload_n hx hb dX0_hand_27 rfl (lv_at hl 0 rfl) ?_
      refine lv_iload hx hb dX0_hand_28 (lv_at hl 5 rfl) ?_
      refine lv_iload hx hb dX0_hand_30 (lv_at hl 6 rfl) ?_
      refine lv_iload_n hx hb dX0_hand_32 rfl (lv_at hl 1 rfl) ?_
      refine r_callR (rest := [.int (nI o), .int (nI i'), .int (nI i), .ref (q 0)]) Fx (m_X0_owns l (D := D) (ci := ci) (cz := cz) (cj := cj) (q := q) (F := F) (P := P) (g := gHw (gHf g k o c pl i) i k o c pl i') hF hP12 i i' k (by omega) (by omega) (by omega)) (cwV 3 Fx.2.2.2.2 gX0_hand_X0_owns rfl rfl rfl (by decide +kernel) ⟨Nat.le_of_ble_eq_true rfl, Nat.le_of_ble_eq_true rfl⟩) BW.bl (va_recv hK hP (ci := 0) (q0 := 0) rfl rfl) (BW.at hP hK hE hS) rfl hl.1 rfl (Nat.le_of_ble_eq_true rfl) dX0_hand_33 ⟨Nat.zero_le _, Nat.zero_le _⟩ ?_
      refine lv_iload_n hx hb dX0_hand_36 rfl (lv_at hl 3 rfl) ?_
      refine lv_iload hx hb dX0_hand_37 (lv_at hl 4 rfl) ?_
      refine r_callRS (rest := [.int (nI o), .int (nI i'), .int (nI i), .ref (q 0)]) Fx (m_X0_partOf l (D := D) (ci := ci) (cz := cz) (cj := cj) (q := q) (F := F) (P := P) (g := gHw (gHf g k o c pl i) i k o c pl i') hF hP12 (own (gHw (gHf g k o c pl i) i k o c pl i') i i' k) c pl (by omega) (by omega)) (va_cwS 3 Fx.2.2.2.2 gX0_hand_X0_partOf rfl rfl rfl (by decide +kernel) ⟨Nat.le_of_ble_eq_true rfl, Nat.le_of_ble_eq_true rfl⟩) BW.bl (BW.at hP hK hE hS) rfl hl.1 rfl (Nat.le_of_ble_eq_true rfl) dX0_hand_39 ⟨Nat.zero_le _, Nat.zero_le _⟩ ?_
      refine r_callW (rest := []) Fx (m_X0_addShares l (D := D) (ci := ci) (cz := cz) (cj := cj) (q := q) (F := F) (P := P) (g := gHw (gHf g k o c pl i) i k o c pl i') hq hF hP12 i i' o (sPar (own (gHw (gHf g k o c pl i) i k o c pl i') i i' k) c pl) (by omega) (by omega) (by omega)) (cwV 4 Fx.2.2.2.2 gX0_hand_X0_addShares rfl rfl rfl (by decide +kernel) ⟨Nat.le_of_ble_eq_true rfl, Nat.le_of_ble_eq_true rfl⟩) BW.bl (va_recv hK hP (ci := 0) (q0 := 0) rfl rfl) (BW.at hP hK hE hS) rfl hl.1 rfl (Nat.le_of_ble_eq_true rfl) dX0_hand_42 ⟨Nat.zero_le _, Nat.zero_le _⟩ hS (fun _ h => h) (fun H locs hP hS _ _ => ?_)
      have hP : va_P D vwCl (w0 ci cz q F P (gAdd (gHw (gHf g k o c pl i) i k o c pl i') i i' o (sPar (own (gHw (gHf g k o c pl i) i k o c pl i') i i' k) c pl))) H := hP
      refine lv_iinc (v := nI (i' + 1)) (lv' := [(6, .int (nI (i' + 1))), (0, .ref (q 0)), (1, .int (nI k)), (2, .int (nI o)), (3, .int (nI c)), (4, .int (nI pl)), (5, .int (nI i))]) hx hb dX0_hand_45 hl (k := 6) rfl (nI_inc _ 1) (by decide) rfl (fun ls hl => ?_)
      refine lv_goto (tgt := 15) hx hb dX0_hand_48 (by decide) ?_
      exact ih15 (trivial) _ _ _ (hP) hS (lv_sub hl [1, 2, 3, 4, 5, 6, 0] rfl)
set_option maxHeartbeats 4000000 in
set_option maxRecDepth 100000 in
theorem m_X0_bury (l : Launch) {D : va_G} {ci cz : ClassId} {cj : ClassId × ClassId} {q : Nat → Nat} {F P : Nat} {g : Nat → Nat → Int32} (hq : DQ q 8) (hF : F ≤ 6) (hP12 : P ≤ 12) (k : Nat) (ha0 : k < 12) : Met l yX0_bury wsX0_bury ({ frames := 1, cells := 0, slots := 0, locals := 22 } : Room) (va_Pc [.ref (q 0), .int (nI k)] (B0 D ci cz cj q F P g)) (WQ none (fun H => va_P D vwCl (w0 ci cz q F P (gBur g F k)) H) (aw q 8)) 0 0 (aw q 8) := by
  refine Met.ofWr (cc := cX0_bury) (maxL := 4) (ret := none) (by decide) rfl (Nat.le_of_ble_eq_true rfl) ?_
  intro pg en s m bl mt cd ls Fx hr hlocks hB hl
  obtain ⟨hP, hK, hE⟩ := hB
  have hl : lv_has ls 4 [(0, .ref (q 0)), (1, .int (nI k))] := hl
  have Fx : CallFix pg m cd cX0_bury 4 s _ wsX0_bury RX0 := Fx
  have hx := Fx.1
  have hb := Fx.2.1
  have hin : ∀ w ∈ wsX00, w ∈ wsX0_bury := by decide +kernel
  have hS : va_S (aw q 8) s.heap s.heap [] := va_S.rf
  have hP : va_P D vwCl (w0 ci cz q F P g) s.heap := hP
  refine lv_iconst (v := nI 0) hx hb dX0_bury_0 (by decide) ?_
  refine lv_istore_n (lv' := [(2, .int (nI 0)), (0, .ref (q 0)), (1, .int (nI k))]) hx hb dX0_bury_1 rfl hl (by decide) rfl (fun ls hl => ?_)
  refine wloop (nL := 4) (N := F) (fun _ => True) (fun i => [(0, .ref (q 0)), (1, .int (nI k)), (2, .int (nI i))]) (fun i H => va_P D vwCl (w0 ci cz q F P (gBf g k i)) H) (trivial) (hP) hS (lv_sub hl [1, 2, 0] rfl) ?_ ?_
  · intro h1 H locs ls hP hS hl
    have hl : lv_has ls 4 [(0, .ref (q 0)), (1, .int (nI k)), (2, .int (nI F))] := hl
    have hP : va_P D vwCl (w0 ci cz q F P (gBf g k F)) H := hP
    refine lv_iload_n hx hb dX0_bury_2 rfl (lv_at hl 2 rfl) ?_
    refine lv_aload_n hx hb dX0_bury_3 rfl (lv_at hl 0 rfl) ?_
    refine r_get Fx hin hK hP 0 rfl 0 (by decide) (by decide +kernel) rfl rfl dX0_bury_4 ?_
    refine n_icmp_ge (tgt := 41) hx hb (by omega) (by omega) dX0_bury_7 (by decide) (fun h2 => ?_) (fun h2 => by omega)
    refine lv_aload_n hx hb dX0_bury_41 rfl (lv_at hl 0 rfl) ?_
    refine r_get Fx hin hK hP 0 rfl 6 (by decide) (by decide +kernel) rfl rfl dX0_bury_42 ?_
    refine lv_iload_n hx hb dX0_bury_45 rfl (lv_at hl 1 rfl) ?_
    refine lv_iconst (v := nI 0) hx hb dX0_bury_46 (by decide) ?_
    refine r_iast Fx hK hP (d0 hq) hS 5 0 rfl rfl (i := k) (by omega) (by decide) dX0_bury_47 (fun H locs hP hS => ?_)
    have hP : va_P D vwCl (w0 ci cz q F P (va_up (gBf g k F) 4 (upd ((gBf g k F) 4) k (nI 0)))) H := hP
    refine lv_aload_n hx hb dX0_bury_48 rfl (lv_at hl 0 rfl) ?_
    refine r_get Fx hin hK hP 0 rfl 5 (by decide) (by decide +kernel) rfl rfl dX0_bury_49 ?_
    refine lv_iload_n hx hb dX0_bury_52 rfl (lv_at hl 1 rfl) ?_
    refine lv_iconst (v := nI 0) hx hb dX0_bury_53 (by decide) ?_
    refine r_zast Fx hK hP (d0 hq) hS 4 1 rfl rfl (i := k) (by omega) (by decide) rfl dX0_bury_54 (fun H locs hP hS => ?_)
    have hP : va_P D vwCl (w0r ci cz q F P (upd (alv P (va_up (gBf g k F) 4 (upd ((gBf g k F) 4) k (nI 0)) 3)) k (nI 0)) (va_up (gBf g k F) 4 (upd ((gBf g k F) 4) k (nI 0)))) H := hP
    exact w_vret hx hb hr hlocks hS (by rw [bury_w] at hP; exact hP) dX0_bury_55
  · intro i h4 h3 ih2 H locs ls hP hS hl
    have hl : lv_has ls 4 [(0, .ref (q 0)), (1, .int (nI k)), (2, .int (nI i))] := hl
    have hP : va_P D vwCl (w0 ci cz q F P (gBf g k i)) H := hP
    refine lv_iload_n hx hb dX0_bury_2 rfl (lv_at hl 2 rfl) ?_
    refine lv_aload_n hx hb dX0_bury_3 rfl (lv_at hl 0 rfl) ?_
    refine r_get Fx hin hK hP 0 rfl 0 (by decide) (by decide +kernel) rfl rfl dX0_bury_4 ?_
    refine n_icmp_ge (tgt := 41) hx hb (by omega) (by omega) dX0_bury_7 (by decide) (fun h5 => by omega) (fun h5 => ?_)
    refine lv_iconst (v := nI 0) hx hb dX0_bury_10 (by decide) ?_
    refine lv_istore_n (lv' := [(3, .int (nI 0)), (0, .ref (q 0)), (1, .int (nI k)), (2, .int (nI i))]) hx hb dX0_bury_11 rfl hl (by decide) rfl (fun ls hl => ?_)
    refine wloop (nL := 4) (N := 4) (fun _ => True) (fun i' => [(0, .ref (q 0)), (1, .int (nI k)), (2, .int (nI i)), (3, .int (nI i'))]) (fun i' H => va_P D vwCl (w0 ci cz q F P (gBw (gBf g k i) i k i')) H) (trivial) (hP) hS (lv_sub hl [1, 2, 3, 0] rfl) ?_ ?_
    · intro h6 H locs ls hP hS hl
      have hl : lv_has ls 4 [(0, .ref (q 0)), (1, .int (nI k)), (2, .int (nI i)), (3, .int (nI 4))] := hl
      have hP : va_P D vwCl (w0 ci cz q F P (gBw (gBf g k i) i k 4)) H := hP
      refine lv_iload_n hx hb dX0_bury_12 rfl (lv_at hl 3 rfl) ?_
      refine lv_iconst (v := nI 4) hx hb dX0_bury_13 (by decide) ?_
      refine n_icmp_ge (tgt := 35) hx hb (by omega) (by omega) dX0_bury_14 (by decide) (fun h7 => ?_) (fun h7 => by omega)
      refine lv_iinc (v := nI (i + 1)) (lv' := [(2, .int (nI (i + 1))), (0, .ref (q 0)), (1, .int (nI k)), (3, .int (nI 4))]) hx hb dX0_bury_35 hl (k := 2) rfl (nI_inc _ 1) (by decide) rfl (fun ls hl => ?_)
      refine lv_goto (tgt := 2) hx hb dX0_bury_38 (by decide) ?_
      exact ih2 (trivial) _ _ _ (hP) hS (lv_sub hl [1, 2, 0] rfl)
    · intro i' h9 h8 ih12 H locs ls hP hS hl
      have hl : lv_has ls 4 [(0, .ref (q 0)), (1, .int (nI k)), (2, .int (nI i)), (3, .int (nI i'))] := hl
      have hP : va_P D vwCl (w0 ci cz q F P (gBw (gBf g k i) i k i')) H := hP
      refine lv_iload_n hx hb dX0_bury_12 rfl (lv_at hl 3 rfl) ?_
      refine lv_iconst (v := nI 4) hx hb dX0_bury_13 (by decide) ?_
      refine n_icmp_ge (tgt := 35) hx hb (by omega) (by omega) dX0_bury_14 (by decide) (fun h10 => by omega) (fun h10 => ?_)
      refine lv_aload_n hx hb dX0_bury_17 rfl (lv_at hl 0 rfl) ?_
      refine r_get Fx hin hK hP 0 rfl 3 (by decide) (by decide +kernel) rfl rfl dX0_bury_18 ?_
      refine lv_iload_n hx hb dX0_bury_21 rfl (lv_at hl 2 rfl) ?_
      refine lv_iload_n hx hb dX0_bury_22 rfl (lv_at hl 3 rfl) ?_
      refine lv_iload_n hx hb dX0_bury_23 rfl (lv_at hl 1 rfl) ?_
      refine r_callRS (rest := [.ref (q 3)]) Fx (m_X0_slot l (D := D) (ci := ci) (cz := cz) (cj := cj) (q := q) (F := F) (P := P) (g := gBw (gBf g k i) i k i') hF hP12 i i' k ) (va_cwS 3 Fx.2.2.2.2 gX0_bury_X0_slot rfl rfl rfl (by decide +kernel) ⟨Nat.le_of_ble_eq_true rfl, Nat.le_of_ble_eq_true rfl⟩) BW.bl (BW.at hP hK hE hS) rfl hl.1 rfl (Nat.le_of_ble_eq_true rfl) dX0_bury_24 ⟨Nat.zero_le _, Nat.zero_le _⟩ ?_
      refine lv_iconst (v := nI 0) hx hb dX0_bury_27 (by decide) ?_
      refine r_iast Fx hK hP (d0 hq) hS 3 0 rfl rfl (i := sl i i' k) (sl_lt (by omega) (by omega) (by omega)) (by decide) dX0_bury_28 (fun H locs hP hS => ?_)
      have hP : va_P D vwCl (w0 ci cz q F P (va_up (gBw (gBf g k i) i k i') 2 (upd ((gBw (gBf g k i) i k i') 2) (sl i i' k) (nI 0)))) H := hP
      refine lv_iinc (v := nI (i' + 1)) (lv' := [(3, .int (nI (i' + 1))), (0, .ref (q 0)), (1, .int (nI k)), (2, .int (nI i))]) hx hb dX0_bury_29 hl (k := 3) rfl (nI_inc _ 1) (by decide) rfl (fun ls hl => ?_)
      refine lv_goto (tgt := 12) hx hb dX0_bury_32 (by decide) ?_
      exact ih12 (trivial) _ _ _ (hP) hS (lv_sub hl [1, 2, 3, 0] rfl)
set_option maxHeartbeats 4000000 in
set_option maxRecDepth 100000 in
theorem m_X0_die (l : Launch) (hl0 : l.stackTraces = false) {D : va_G} {ci cz : ClassId} {cj : ClassId × ClassId} {q : Nat → Nat} {F P : Nat} {g : Nat → Nat → Int32} (hq : DQ q 8) (hF : F ≤ 6) (hP12 : P ≤ 12) (a : Int32) : vx_Met l yX0_die wsX0_die ({ frames := 7, cells := 1, slots := 6, locals := 103 } : Room) (va_Pc [.ref (q 0), .int a] (B0 D ci cz cj q F P g)) (PQ (k_die P g a) (some (.int (nI (sCHe g P (ix a))))) (fun H => va_P D vwCl (w0 ci cz q F P (gDie g F P (ix a))) H) (aw q 8)) (PX (k_die P g a) [xIO, xIS]) 1 6 (aw q 8) := by
  refine vx_ofX (cc := cX0_die) (maxL := 5) (ret := (some .int)) (by decide) rfl (Nat.le_of_ble_eq_true rfl) ?_
  intro pg en s m bl mt cd ls Fx hr hlocks hex hB hl
  obtain ⟨hP, hK, hE⟩ := hB
  have hl : lv_has ls 5 [(0, .ref (q 0)), (1, .int a)] := hl
  have Fx : CallFix pg m cd cX0_die 5 s _ wsX0_die RX0 := Fx
  have hx := Fx.1
  have hb := Fx.2.1
  have hin : ∀ w ∈ wsX00, w ∈ wsX0_die := by decide +kernel
  have hS : va_S (aw q 8) s.heap s.heap [] := va_S.rf
  have hP : va_P D vwCl (w0 ci cz q F P g) s.heap := hP
  refine lv_aload_n hx hb dX0_die_0 rfl (lv_at hl 0 rfl) ?_
  refine lv_iload_n hx hb dX0_die_1 rfl (lv_at hl 1 rfl) ?_
  by_cases h1 : inR a P
  rotate_left
  · refine r_callX (rest := []) Fx (m_X0_needPerson_x l hl0 (D := D) (ci := ci) (cz := cz) (cj := cj) (q := q) (F := F) (P := P) (g := g) hF hP12 a h1) (cwV 1 Fx.2.2.2.2 gX0_die_X0_needPerson rfl rfl rfl (by decide +kernel) ⟨Nat.le_of_ble_eq_true rfl, Nat.le_of_ble_eq_true rfl⟩) BW.bl (va_recv hK hP (ci := 0) (q0 := 0) rfl rfl) (BW.at hP hK hE hS) rfl hl.1 rfl (Nat.le_of_ble_eq_true rfl) dX0_die_2 ⟨Nat.le_of_ble_eq_true rfl, Nat.le_of_ble_eq_true rfl⟩ (fun ce q9 H1 hh hce hcv hcl => ?_)
    exact p_out hex hlocks hh hce hcv hcl ⟨0, (by simp [k_die, inR, inB, h1]), rfl⟩ (Nat.le_refl _) (Nat.le_refl _)
  obtain ⟨ja, h2, rfl⟩ := inR_of h1 (by omega)
  have h3 : ix (nI ja) = ja := ix_nI (by omega)
  refine r_callR (rest := []) Fx (m_X0_needPerson l (D := D) (ci := ci) (cz := cz) (cj := cj) (q := q) (F := F) (P := P) (g := g) hF hP12 ja (by omega)) (cwV 1 Fx.2.2.2.2 gX0_die_X0_needPerson rfl rfl rfl (by decide +kernel) ⟨Nat.le_of_ble_eq_true rfl, Nat.le_of_ble_eq_true rfl⟩) BW.bl (va_recv hK hP (ci := 0) (q0 := 0) rfl rfl) (BW.at hP hK hE hS) rfl hl.1 rfl (Nat.le_of_ble_eq_true rfl) dX0_die_2 ⟨Nat.zero_le _, Nat.zero_le _⟩ ?_
  refine lv_aload_n hx hb dX0_die_5 rfl (lv_at hl 0 rfl) ?_
  refine lv_iload_n hx hb dX0_die_6 rfl (lv_at hl 1 rfl) ?_
  by_cases h4 : lv g ja = true
  rotate_left
  · refine r_callX (rest := []) Fx (m_X0_needAlive_x l hl0 (D := D) (ci := ci) (cz := cz) (cj := cj) (q := q) (F := F) (P := P) (g := g) hF hP12 ja (by omega) h4) (cwV 1 Fx.2.2.2.2 gX0_die_X0_needAlive rfl rfl rfl (by decide +kernel) ⟨Nat.le_of_ble_eq_true rfl, Nat.le_of_ble_eq_true rfl⟩) BW.bl (va_recv hK hP (ci := 0) (q0 := 0) rfl rfl) (BW.at hP hK hE hS) rfl hl.1 rfl (Nat.le_of_ble_eq_true rfl) dX0_die_7 ⟨Nat.le_of_ble_eq_true rfl, Nat.le_of_ble_eq_true rfl⟩ (fun ce q9 H1 hh hce hcv hcl => ?_)
    exact p_out hex hlocks hh hce hcv hcl ⟨1, (by simp [k_die, inR, inB, h1, h2, h3, h4]), rfl⟩ (Nat.le_refl _) (Nat.le_refl _)
  refine r_callR (rest := []) Fx (m_X0_needAlive l (D := D) (ci := ci) (cz := cz) (cj := cj) (q := q) (F := F) (P := P) (g := g) hF hP12 ja (by omega) h4) (cwV 1 Fx.2.2.2.2 gX0_die_X0_needAlive rfl rfl rfl (by decide +kernel) ⟨Nat.le_of_ble_eq_true rfl, Nat.le_of_ble_eq_true rfl⟩) BW.bl (va_recv hK hP (ci := 0) (q0 := 0) rfl rfl) (BW.at hP hK hE hS) rfl hl.1 rfl (Nat.le_of_ble_eq_true rfl) dX0_die_7 ⟨Nat.zero_le _, Nat.zero_le _⟩ ?_
  refine lv_aload_n hx hb dX0_die_10 rfl (lv_at hl 0 rfl) ?_
  refine lv_iload_n hx hb dX0_die_11 rfl (lv_at hl 1 rfl) ?_
  refine r_callR (rest := []) Fx (m_X0_countHeirs l (D := D) (ci := ci) (cz := cz) (cj := cj) (q := q) (F := F) (P := P) (g := g) hF hP12 ja (by omega)) (cwV 1 Fx.2.2.2.2 gX0_die_X0_countHeirs rfl rfl rfl (by decide +kernel) ⟨Nat.le_of_ble_eq_true rfl, Nat.le_of_ble_eq_true rfl⟩) BW.bl (va_recv hK hP (ci := 0) (q0 := 0) rfl rfl) (BW.at hP hK hE hS) rfl hl.1 rfl (Nat.le_of_ble_eq_true rfl) dX0_die_12 ⟨Nat.zero_le _, Nat.zero_le _⟩ ?_
  have hcc : sCHe g P ja ≤ 12 := (Nat.le_trans (cn_le _ _) hP12)
  refine lv_istore_n (lv' := [(2, .int (nI (sCHe g P ja))), (0, .ref (q 0)), (1, .int (nI ja))]) hx hb dX0_die_15 rfl hl (by decide) rfl (fun ls hl => ?_)
  refine lv_iconst (v := nI 0) hx hb dX0_die_16 (by decide) ?_
  refine lv_istore_n (lv' := [(3, .int (nI 0)), (2, .int (nI (sCHe g P ja))), (0, .ref (q 0)), (1, .int (nI ja))]) hx hb dX0_die_17 rfl hl (by decide) rfl (fun ls hl => ?_)
  refine lv_iconst (v := nI 0) hx hb dX0_die_18 (by decide) ?_
  refine lv_istore (lv' := [(4, .int (nI 0)), (3, .int (nI 0)), (2, .int (nI (sCHe g P ja))), (0, .ref (q 0)), (1, .int (nI ja))]) hx hb dX0_die_19 hl (by decide) rfl (fun ls hl => ?_)
  refine wloop (nL := 5) (N := P) (fun _ => True) (fun i => [(0, .ref (q 0)), (1, .int (nI ja)), (2, .int (nI (sCHe g P ja))), (3, .int (nI (sCHB g P i ja))), (4, .int (nI i))]) (fun i H => va_P D vwCl (w0 ci cz q F P (gHr g F P ja (sCHe g P ja) i)) H) (trivial) (hP) hS (lv_sub hl [3, 4, 2, 1, 0] rfl) ?_ ?_
  · intro h5 H locs ls hP hS hl
    have hl : lv_has ls 5 [(0, .ref (q 0)), (1, .int (nI ja)), (2, .int (nI (sCHe g P ja))), (3, .int (nI (sCHB g P P ja))), (4, .int (nI P))] := hl
    have hP : va_P D vwCl (w0 ci cz q F P (gHr g F P ja (sCHe g P ja) P)) H := hP
    refine lv_iload hx hb dX0_die_21 (lv_at hl 4 rfl) ?_
    refine lv_aload_n hx hb dX0_die_23 rfl (lv_at hl 0 rfl) ?_
    refine r_get Fx hin hK hP 0 rfl 4 (by decide) (by decide +kernel) rfl rfl dX0_die_24 ?_
    refine n_icmp_ge (tgt := 58) hx hb (by omega) (by omega) dX0_die_27 (by decide) (fun h6 => ?_) (fun h6 => by omega)
    refine lv_iload_n hx hb dX0_die_58 rfl (lv_at hl 2 rfl) ?_
    refine n_if_ne (tgt := 77) hx hb (by omega) dX0_die_59 (by decide) (fun h7 => ?_) (fun h7 => ?_)
    · refine lv_aload_n hx hb dX0_die_77 rfl (lv_at hl 0 rfl) ?_
      refine lv_iload_n hx hb dX0_die_78 rfl (lv_at hl 1 rfl) ?_
      refine r_callW (rest := []) Fx (m_X0_bury l (D := D) (ci := ci) (cz := cz) (cj := cj) (q := q) (F := F) (P := P) (g := gHr g F P ja (sCHe g P ja) P) hq hF hP12 ja (by omega)) (cwV 1 Fx.2.2.2.2 gX0_die_X0_bury rfl rfl rfl (by decide +kernel) ⟨Nat.le_of_ble_eq_true rfl, Nat.le_of_ble_eq_true rfl⟩) BW.bl (va_recv hK hP (ci := 0) (q0 := 0) rfl rfl) (BW.at hP hK hE hS) rfl hl.1 rfl (Nat.le_of_ble_eq_true rfl) dX0_die_79 ⟨Nat.zero_le _, Nat.zero_le _⟩ hS (fun _ h => h) (fun H locs hP hS _ _ => ?_)
      have hP : va_P D vwCl (w0 ci cz q F P (gBur (gHr g F P ja (sCHe g P ja) P) F ja)) H := hP
      refine lv_iload_n hx hb dX0_die_82 rfl (lv_at hl 2 rfl) ?_
      exact p_iret hx hb hr hlocks hS (by show va_P D vwCl (w0 ci cz q F P (gDie g F P (ix (nI ja)))) H; have e9 : gDie g F P (ix (nI ja)) = gBur (gHr g F P ja (sCHe g P ja) P) F ja := (by simp [gDie, gDi1, h1, h2, h3, h4, h6, h7]); rw [e9]; exact hP) (by simp [k_die, inR, inB, h1, h2, h3, h4, h6, h7]) (by simp [k_die, h1, h2, h3, h4, h6, h7]) (Nat.zero_le _) (Nat.zero_le _) dX0_die_83
    · refine lv_aload_n hx hb dX0_die_62 rfl (lv_at hl 0 rfl) ?_
      refine lv_dup hx hb dX0_die_63 rfl ?_
      refine r_get Fx hin hK hP 0 rfl 9 (by decide) (by decide +kernel) rfl rfl dX0_die_64 ?_
      refine lv_aload_n hx hb dX0_die_67 rfl (lv_at hl 0 rfl) ?_
      refine r_get Fx hin hK hP 0 rfl 6 (by decide) (by decide +kernel) rfl rfl dX0_die_68 ?_
      refine lv_iload_n hx hb dX0_die_71 rfl (lv_at hl 1 rfl) ?_
      refine r_iald Fx hK hP 5 0 rfl rfl (i := ja) (by omega) (by decide) dX0_die_72 ?_
      refine lv_iadd hx hb dX0_die_73 ?_
      refine r_put Fx hin tyX0 tyX0_ok nmX0 hK hP (d0 hq) hS 0 rfl 9 (by decide) (by decide +kernel) rfl (by decide +kernel) rfl (Nat.le_of_ble_eq_true rfl) dX0_die_74 (fun H locs hP hS => ?_)
      have hP : va_P D vwCl (w0 ci cz q F P (gCro (gHr g F P ja (sCHe g P ja) P) (gHr g F P ja (sCHe g P ja) P 4 ja))) H := hP
      refine lv_aload_n hx hb dX0_die_77 rfl (lv_at hl 0 rfl) ?_
      refine lv_iload_n hx hb dX0_die_78 rfl (lv_at hl 1 rfl) ?_
      refine r_callW (rest := []) Fx (m_X0_bury l (D := D) (ci := ci) (cz := cz) (cj := cj) (q := q) (F := F) (P := P) (g := gCro (gHr g F P ja (sCHe g P ja) P) (gHr g F P ja (sCHe g P ja) P 4 ja)) hq hF hP12 ja (by omega)) (cwV 1 Fx.2.2.2.2 gX0_die_X0_bury rfl rfl rfl (by decide +kernel) ⟨Nat.le_of_ble_eq_true rfl, Nat.le_of_ble_eq_true rfl⟩) BW.bl (va_recv hK hP (ci := 0) (q0 := 0) rfl rfl) (BW.at hP hK hE hS) rfl hl.1 rfl (Nat.le_of_ble_eq_true rfl) dX0_die_79 ⟨Nat.zero_le _, Nat.zero_le _⟩ hS (fun _ h => h) (fun H locs hP hS _ _ => ?_)
      have hP : va_P D vwCl (w0 ci cz q F P (gBur (gCro (gHr g F P ja (sCHe g P ja) P) (gHr g F P ja (sCHe g P ja) P 4 ja)) F ja)) H := hP
      refine lv_iload_n hx hb dX0_die_82 rfl (lv_at hl 2 rfl) ?_
      exact p_iret hx hb hr hlocks hS (by show va_P D vwCl (w0 ci cz q F P (gDie g F P (ix (nI ja)))) H; have e9 : gDie g F P (ix (nI ja)) = gBur (gCro (gHr g F P ja (sCHe g P ja) P) (gHr g F P ja (sCHe g P ja) P 4 ja)) F ja := (by simp [gDie, gDi1, h1, h2, h3, h4, h6, h7]); rw [e9]; exact hP) (by simp [k_die, inR, inB, h1, h2, h3, h4, h6, h7]) (by simp [k_die, h1, h2, h3, h4, h6, h7]) (Nat.zero_le _) (Nat.zero_le _) dX0_die_83
  · intro i h9 h8 ih21 H locs ls hP hS hl
    have hl : lv_has ls 5 [(0, .ref (q 0)), (1, .int (nI ja)), (2, .int (nI (sCHe g P ja))), (3, .int (nI (sCHB g P i ja))), (4, .int (nI i))] := hl
    have hP : va_P D vwCl (w0 ci cz q F P (gHr g F P ja (sCHe g P ja) i)) H := hP
    refine lv_iload hx hb dX0_die_21 (lv_at hl 4 rfl) ?_
    refine lv_aload_n hx hb dX0_die_23 rfl (lv_at hl 0 rfl) ?_
    refine r_get Fx hin hK hP 0 rfl 4 (by decide) (by decide +kernel) rfl rfl dX0_die_24 ?_
    refine n_icmp_ge (tgt := 58) hx hb (by omega) (by omega) dX0_die_27 (by decide) (fun h10 => by omega) (fun h10 => ?_)
    refine lv_aload_n hx hb dX0_die_30 rfl (lv_at hl 0 rfl) ?_
    refine lv_iload hx hb dX0_die_31 (lv_at hl 4 rfl) ?_
    refine lv_iload_n hx hb dX0_die_33 rfl (lv_at hl 1 rfl) ?_
    refine r_callR (rest := []) Fx (m_X0_isHeir l (D := D) (ci := ci) (cz := cz) (cj := cj) (q := q) (F := F) (P := P) (g := gHr g F P ja (sCHe g P ja) i) hF hP12 i ja (by omega) (by omega)) (cwV 2 Fx.2.2.2.2 gX0_die_X0_isHeir rfl rfl rfl (by decide +kernel) ⟨Nat.le_of_ble_eq_true rfl, Nat.le_of_ble_eq_true rfl⟩) BW.bl (va_recv hK hP (ci := 0) (q0 := 0) rfl rfl) (BW.at hP hK hE hS) rfl hl.1 rfl (Nat.le_of_ble_eq_true rfl) dX0_die_34 ⟨Nat.zero_le _, Nat.zero_le _⟩ ?_
    rw [sIsH_eq (hr_36 _ _ _ _ _ _).1 (hr_36 _ _ _ _ _ _).2]
    refine b_if_eq (tgt := 52) hx hb dX0_die_37 (by decide) (fun h11 => ?_) (fun h11 => ?_)
    · refine lv_iinc (v := nI (i + 1)) (lv' := [(4, .int (nI (i + 1))), (0, .ref (q 0)), (1, .int (nI ja)), (2, .int (nI (sCHe g P ja))), (3, .int (nI (sCHB g P i ja)))]) hx hb dX0_die_52 hl (k := 4) rfl (nI_inc _ 1) (by decide) rfl (fun ls hl => ?_)
      refine lv_goto (tgt := 21) hx hb dX0_die_55 (by decide) ?_
      have e3_ : nI (sCHB g P i ja) = nI (sCHB g P (i + 1) ja) := by simp [sCHB, cn, h1, h2, h3, h4, h9, h10, h11]
      rw [e3_] at hl
      exact ih21 (trivial) _ _ _ (by have e9 : gHr g F P ja (sCHe g P ja) (i + 1) = gHr g F P ja (sCHe g P ja) i := (by simp [gHr, h1, h2, h3, h4, h9, h10, h11]); show va_P D vwCl (w0 ci cz q F P (gHr g F P ja (sCHe g P ja) (i + 1))) H; rw [e9]; exact hP) hS (lv_sub hl [1, 2, 3, 4, 0] rfl)
    · refine lv_aload_n hx hb dX0_die_40 rfl (lv_at hl 0 rfl) ?_
      refine lv_iload_n hx hb dX0_die_41 rfl (lv_at hl 1 rfl) ?_
      refine lv_iload hx hb dX0_die_42 (lv_at hl 4 rfl) ?_
      refine lv_iload_n hx hb dX0_die_44 rfl (lv_at hl 2 rfl) ?_
      refine lv_iload_n hx hb dX0_die_45 rfl (lv_at hl 3 rfl) ?_
      refine r_callW (rest := []) Fx (m_X0_hand l (D := D) (ci := ci) (cz := cz) (cj := cj) (q := q) (F := F) (P := P) (g := gHr g F P ja (sCHe g P ja) i) hq hF hP12 ja i (sCHe g P ja) (sCHB g P i ja) (by omega) (by omega) (Nat.le_trans (cn_le _ _) hP12) (Nat.le_trans (cn_le _ _) (by omega))) (cwV 4 Fx.2.2.2.2 gX0_die_X0_hand rfl rfl rfl (by decide +kernel) ⟨Nat.le_of_ble_eq_true rfl, Nat.le_of_ble_eq_true rfl⟩) BW.bl (va_recv hK hP (ci := 0) (q0 := 0) rfl rfl) (BW.at hP hK hE hS) rfl hl.1 rfl (Nat.le_of_ble_eq_true rfl) dX0_die_46 ⟨Nat.zero_le _, Nat.zero_le _⟩ hS (fun _ h => h) (fun H locs hP hS _ _ => ?_)
      have hP : va_P D vwCl (w0 ci cz q F P (gHnd (gHr g F P ja (sCHe g P ja) i) F ja i (sCHe g P ja) (sCHB g P i ja))) H := hP
      refine lv_iinc (v := nI (sCHB g P i ja + 1)) (lv' := [(3, .int (nI (sCHB g P i ja + 1))), (0, .ref (q 0)), (1, .int (nI ja)), (2, .int (nI (sCHe g P ja))), (4, .int (nI i))]) hx hb dX0_die_49 hl (k := 3) rfl (nI_inc _ 1) (by decide) rfl (fun ls hl => ?_)
      refine lv_iinc (v := nI (i + 1)) (lv' := [(4, .int (nI (i + 1))), (3, .int (nI (sCHB g P i ja + 1))), (0, .ref (q 0)), (1, .int (nI ja)), (2, .int (nI (sCHe g P ja)))]) hx hb dX0_die_52 hl (k := 4) rfl (nI_inc _ 1) (by decide) rfl (fun ls hl => ?_)
      refine lv_goto (tgt := 21) hx hb dX0_die_55 (by decide) ?_
      have e3_ : nI (sCHB g P i ja + 1) = nI (sCHB g P (i + 1) ja) := by simp [sCHB, cn, h1, h2, h3, h4, h9, h10, h11]
      rw [e3_] at hl
      exact ih21 (trivial) _ _ _ (by have e9 : gHr g F P ja (sCHe g P ja) (i + 1) = gHnd (gHr g F P ja (sCHe g P ja) i) F ja i (sCHe g P ja) (sCHB g P i ja) := (by simp [gHr, h1, h2, h3, h4, h9, h10, h11]); show va_P D vwCl (w0 ci cz q F P (gHr g F P ja (sCHe g P ja) (i + 1))) H; rw [e9]; exact hP) hS (lv_sub hl [2, 3, 4, 1, 0] rfl)
end
section
/-! PART 17: methods that may draw (a quotient of doubles), constructors. -/
section DRAWS
def mC (g : Nat → Nat → Int32) (P : Nat) : UInt64 := if sLiv g P = 0 then FP.dconst0 else FP.ddiv (FP.i2d (csm (fun z => lv g z) (fun z => g 4 z) P)) (FP.i2d (nI (sLiv g P)))
/-- ends with a double that is x, or a NaN where x is one -/
def DQd (x : UInt64) (P1 : Heap → Prop) (Ad : Nat → Prop) : Array Value → State → Outcome → State → Prop := fun _ st o t => ∃ r : UInt64, o = .returned (some (.double r)) ∧ alike64 r x = true ∧ P1 t.heap ∧ va_F Ad st t
variable {p : Program} {l : Launch} {e : Env} {R : Room} {s : State} {m : MethodId} {args : Array Value} {below : List Frame} {meth : Method} {c : Code} {H : Heap} {locs : List Loc} {cells slots : Nat} {Q : State → Prop}
variable {y : MethodName} {bytes cc : ByteArray} {maxL nL mc ms n index pc : Nat} {ret : Option FieldType} {ws : List Cond} {rm : Room} {Ts : List Cond} {own C : String} {b : Nat} {As rest st0 : List Value} {ls : Array Slot} {Pr : State → Prop}
theorem MetD.ofD {ws' : List Cond} {av : List Value} {x : UInt64} {P1 : Heap → Prop} {Ad : Nat → Prop} (hy : plainName y.cls = true) (hw : ws = Cond.code y cc maxL ret :: ws') (hlen : (lg_sl av).length ≤ maxL)
    (body : ∀ (p : Program) (e : Env) (s : State) (m : MethodId) (below : List Frame) (meth : Method) (c : Code) (ls : Array Slot), CallFix p m c cc maxL (s.setDrawn s.drawn) av.toArray ws y.cls → meth.sig.returnType = ret → meth.locks = false → Pr s → s.drawn.sameBut s.drawn lw_cs → lv_has ls maxL (lv_args 0 av) →
      W p l e rm (s.setDrawn s.drawn) m av.toArray below meth c s.heap [] 0 0 (MQD lw_cs below (DQd x P1 Ad) av.toArray s 0 0 Ad) (F0 m 0 ls [])) : MetD lw_cs l y ws rm (va_Pc av Pr) (DQd x P1 Ad) 0 0 Ad := by
  refine MetD.ofW (cc := cc) (maxL := maxL) (ret := ret) hy hw ?_
  intro p e s m args below meth c s₁ B hml hv hd0
  obtain ⟨rfl, hv⟩ := hv
  rw [lg_entry_eq]
  exact body p e s m below meth c _ ⟨B.exec, B.bytes, hml, findClass_of_methodNamed B.named, dr_words (atoms_spec (ws := ws) B.pre) _⟩ B.returns B.notSynchronized hv hd0 (lv_entry av hlen)
theorem d_dret {r x : UInt64} {d1 : Drawn} {P1 : Heap → Prop} {Ad : Nat → Prop} (hd1 : s.drawn.sameBut d1 lw_cs) (hexec : p.tables.exec = Jvm.exec) (hb : c.code = cc) (hr : meth.sig.returnType = some .double) (hlocks : meth.locks = false) (hS : va_S Ad s.heap H locs) (hp : P1 H) (h : alike64 r x = true) (hdg : decode cc pc = .ok (.dreturn, 1)) :
    W p l e R (s.setDrawn d1) m args below meth c H locs 0 0 (MQD lw_cs below (DQd x P1 Ad) args s 0 0 Ad) (F0 m pc ls [.double r]) := by
  refine W.endD hd1 ?_
  exact W.dret hexec hb hr (fun t ht _ => ⟨r, rfl, h, by rw [ht]; exact hp, hS.F ht⟩) hS.2.2 hdg hlocks
theorem EV.dr {A : Nat → Prop} {s : State} {H : Heap} (h : EV A s H) (d : Drawn) : EV A (s.setDrawn d) H := EV.mv (s := s) (U := s.setDrawn d) (State.WarmedH.refl s) h (fun _ _ _ => rfl)
/-- a call of such a method -/
theorem r_callD {d0 : Drawn} {x : UInt64} {P1 : Heap → Prop} {Ad A0 : Nat → Prop} {H0 : Heap} (hd0 : s.drawn.sameBut d0 lw_cs) (F : CallFix p m c cc nL (s.setDrawn d0) args Ts own) (hM : MetD lw_cs l y ws rm (va_Pc (.ref b :: As) Pr) (DQd x P1 Ad) 0 0 Ad) (cw : CallW R (s.setDrawn d0) args own C index y bytes maxL ret ws rm 0 0 n) (hbl : ∀ U g mk a, Pr U → Pr (U.calling g mk a))
    (hrec : ∃ cellB : Cell, H[b]? = some cellB ∧ cellB.vm.isStatics = false ∧ s.vm.findClass C = some cellB.cls) (hpre : ∀ U : State, U.heap = H → s.WarmedH U.vm → Pr U) (hn : As.length = n) (hsize : ls.size = nL) (hst : st0 = As.reverse ++ .ref b :: rest) (hW : (rest.map fun v => v.category).sum ≤ 8)
    (hdg : decode cc pc = .ok (.invokevirtual index, 3)) (hf : cells ≤ R.cells ∧ slots ≤ R.slots) (hS : va_S A0 H0 H locs) (hA : ∀ q, Ad q → A0 q)
    (kk : ∀ (r : UInt64) (d1 : Drawn) (H1 : Heap) (locs1 : List Loc), alike64 r x = true → s.drawn.sameBut d1 lw_cs → P1 H1 → va_S A0 H0 H1 locs1 → H.size ≤ H1.size → (∀ q : Nat, q < H.size → ¬ Ad q → H1[q]? = H[q]?) → W p l e R (s.setDrawn d1) m args below meth c H1 locs1 cells slots Q (F0 m (pc + 3) ls (.double r :: rest))) : W p l e R (s.setDrawn d0) m args below meth c H locs cells slots Q (F0 m pc ls st0) := by
  have hM' : MetD lw_cs l y ws rm (va_Pc (.ref b :: As) Pr) (va_Qd (fun r (_ : Unit) => alike64 r x = true) (fun _ t => P1 t.heap) Ad) 0 0 Ad := by
    intro p e ha hc hk s m args below hf happ hP hK
    obtain ⟨n, o, h1, h2, h3, d, h4, ⟨r, h5, h6, h7, h8⟩, L, h9, h10⟩ := hM p e ha hc hk s m args below hf happ hP hK
    exact ⟨n, o, h1, h2, h3, d, h4, ⟨⟨r, (), h5, h6, h7⟩, h8⟩, L, h9, h10⟩
  refine va_calldD hd0 (va_runV_D F hM' cw ⟨fun a U g mk hq => ⟨hq.1, hbl U g mk a hq.2⟩, hrec, fun U hU hW => ⟨rfl, hpre U hU hW⟩⟩ rfl hn hsize hst (lv_room hW) hdg hf) hS (fun q _ h => hA q h) hA (fun r u t H1 locs1 ht hvm hw hB hz hk hS d1 hd1 => ?_)
  exact kk r d1 H1 locs1 hw hd1 (by rw [← ht]; exact hB) hS hz hk
end DRAWS
section MAKE
theorem alv_0 {d : Nat → Int32} : alv 0 d = fun _ => 0 := by
  funext z
  simp [alv]
theorem w0r_at {ci cz : ClassId} {q : Nat → Nat} {F P : Nat} {al : Nat → Int32} {g : Nat → Nat → Int32} {k : Nat} (h : k < 8) : ∃ e, (w0r ci cz q F P al g)[k]? = some (q k, e) := by
  rcases (show k = 0 ∨ k = 1 ∨ k = 2 ∨ k = 3 ∨ k = 4 ∨ k = 5 ∨ k = 6 ∨ k = 7 by omega) with rfl | rfl | rfl | rfl | rfl | rfl | rfl | rfl <;> exact ⟨_, rfl⟩
theorem dq_of {A : Nat → Prop} {ws : va_W} {q : Nat → Nat} {N : Nat} (hD : va_D A ws) (h : ∀ k, k < N → ∃ e, ws[k]? = some (q k, e)) : DQ q N := by
  intro i j hi hj hij
  obtain ⟨e1, h1⟩ := h i hi
  obtain ⟨e2, h2⟩ := h j hj
  exact hD.1 i j _ _ h1 h2 hij
theorem new_of {sz h0 N : Nat} {ws : va_W} {q : Nat → Nat} (hD : va_D (fun a => a = h0 ∨ sz ≤ a) ws) (h : ∀ k, k < N → ∃ e, ws[k]? = some (q k, e)) (h0q : q 0 = h0) : ∀ k, 1 ≤ k → k < N → sz ≤ q k := by
  intro k h1 h2
  obtain ⟨e1, g1⟩ := h k h2
  rcases hD.2 k _ g1 with g | g
  · have := dq_of hD h k 0 h2 (by omega) (by rw [h0q]; exact g)
    omega
  · exact g
theorem ra_eqI {D : va_G} {tys : List (ClassId × FieldType)} {s : State} {c1 c2 : ClassId} (hK : va_K D vwCl tys s) (i j : Nat) (h1 : tys[i]? = some (c1, .int)) (h2 : tys[j]? = some (c2, .int)) : c1 = c2 := Option.some.inj ((hK.2 i _ h1).2.symm.trans (hK.2 j _ h2).2)
theorem ra_eqZ {D : va_G} {tys : List (ClassId × FieldType)} {s : State} {c1 c2 : ClassId} (hK : va_K D vwCl tys s) (i j : Nat) (h1 : tys[i]? = some (c1, .boolean)) (h2 : tys[j]? = some (c2, .boolean)) : c1 = c2 := Option.some.inj ((hK.2 i _ h1).2.symm.trans (hK.2 j _ h2).2)
end MAKE
end
section
/-! FerryRights, VI: the mean -/
set_option maxHeartbeats 4000000 in
set_option maxRecDepth 100000 in
theorem m_X0_meanCoins (l : Launch) {D : va_G} {ci cz : ClassId} {cj : ClassId × ClassId} {q : Nat → Nat} {F P : Nat} {g : Nat → Nat → Int32} (hq : DQ q 8) (hF : F ≤ 6) (hP12 : P ≤ 12) : MetD lw_cs l yX0_meanCoins wsX0_meanCoins ({ frames := 0, cells := 0, slots := 0, locals := 0 } : Room) (va_Pc [.ref (q 0)] (B0 D ci cz cj q F P g)) (DQd (mC g P) (fun H => va_P D vwCl (w0 ci cz q F P g) H) (aw q 8)) 0 0 (aw q 8) := by
  refine MetD.ofD (cc := cX0_meanCoins) (maxL := 4) (ret := (some .double)) (by decide) rfl (Nat.le_of_ble_eq_true rfl) ?_
  intro pg en s m bl mt cd ls Fx hr hlocks hB hd0 hl
  obtain ⟨hP, hK, hE⟩ := hB
  have hl : lv_has ls 4 [(0, .ref (q 0))] := hl
  have Fx : CallFix pg m cd cX0_meanCoins 4 (s.setDrawn s.drawn) _ wsX0_meanCoins RX0 := Fx
  have hK : va_K D vwCl (tyL ci cz cj) (s.setDrawn s.drawn) := hK
  have hE := hE.dr s.drawn
  have hx := Fx.1
  have hb := Fx.2.1
  have hin : ∀ w ∈ wsX00, w ∈ wsX0_meanCoins := by decide +kernel
  have hS : va_S (aw q 8) s.heap s.heap [] := va_S.rf
  have hP : va_P D vwCl (w0 ci cz q F P g) s.heap := hP
  refine lv_iconst (v := nI 0) hx hb dX0_meanCoins_0 (by decide) ?_
  refine lv_istore_n (lv' := [(1, .int (nI 0)), (0, .ref (q 0))]) hx hb dX0_meanCoins_1 rfl hl (by decide) rfl (fun ls hl => ?_)
  refine lv_iconst (v := nI 0) hx hb dX0_meanCoins_2 (by decide) ?_
  refine lv_istore_n (lv' := [(2, .int (nI 0)), (1, .int (nI 0)), (0, .ref (q 0))]) hx hb dX0_meanCoins_3 rfl hl (by decide) rfl (fun ls hl => ?_)
  refine lv_iconst (v := nI 0) hx hb dX0_meanCoins_4 (by decide) ?_
  refine lv_istore_n (lv' := [(3, .int (nI 0)), (2, .int (nI 0)), (1, .int (nI 0)), (0, .ref (q 0))]) hx hb dX0_meanCoins_5 rfl hl (by decide) rfl (fun ls hl => ?_)
  refine rloop (nL := 4) (N := P) (fun _ => True) (fun i => [(0, .ref (q 0)), (1, .int (nI (cn (fun z => lv g z) i))), (2, .int (csm (fun z => lv g z) (fun z => g 4 z) i)), (3, .int (nI i))]) (trivial) (lv_sub hl [3, 2, 1, 0] rfl) ?_ ?_
  · intro h1 ls hl
    have hl : lv_has ls 4 [(0, .ref (q 0)), (1, .int (nI (cn (fun z => lv g z) P))), (2, .int (csm (fun z => lv g z) (fun z => g 4 z) P)), (3, .int (nI P))] := hl
    refine lv_iload_n hx hb dX0_meanCoins_6 rfl (lv_at hl 3 rfl) ?_
    refine lv_aload_n hx hb dX0_meanCoins_7 rfl (lv_at hl 0 rfl) ?_
    refine r_get Fx hin hK hP 0 rfl 4 (by decide) (by decide +kernel) rfl rfl dX0_meanCoins_8 ?_
    refine n_icmp_ge (tgt := 41) hx hb (by omega) (by omega) dX0_meanCoins_11 (by decide) (fun h2 => ?_) (fun h2 => by omega)
    have hcc : cn (fun z => lv g z) P ≤ 12 := Nat.le_trans (cn_le _ _) hP12
    refine lv_iload_n hx hb dX0_meanCoins_41 rfl (lv_at hl 1 rfl) ?_
    refine n_if_ne (tgt := 47) hx hb (by omega) dX0_meanCoins_42 (by decide) (fun h3 => ?_) (fun h3 => ?_)
    · refine lv_iload_n hx hb dX0_meanCoins_47 rfl (lv_at hl 2 rfl) ?_
      refine lv_i2d hx hb dX0_meanCoins_48 ?_
      refine lv_iload_n hx hb dX0_meanCoins_49 rfl (lv_at hl 1 rfl) ?_
      refine lv_i2d hx hb dX0_meanCoins_50 ?_
      refine lv_ddiv_any hd0 lw_bits hx hb dX0_meanCoins_51 (fun r d1 hal hd1 => ?_)
      exact d_dret hd1 hx hb hr hlocks hS (hP) (by simp [mC, sLiv, h2, h3]; exact hal) dX0_meanCoins_52
    · refine lv_dconst0 hx hb dX0_meanCoins_45 ?_
      exact d_dret hd0 hx hb hr hlocks hS (hP) (by simp [mC, sLiv, alike64_refl, h2, h3]) dX0_meanCoins_46
  · intro i h5 h4 ih6 ls hl
    have hl : lv_has ls 4 [(0, .ref (q 0)), (1, .int (nI (cn (fun z => lv g z) i))), (2, .int (csm (fun z => lv g z) (fun z => g 4 z) i)), (3, .int (nI i))] := hl
    refine lv_iload_n hx hb dX0_meanCoins_6 rfl (lv_at hl 3 rfl) ?_
    refine lv_aload_n hx hb dX0_meanCoins_7 rfl (lv_at hl 0 rfl) ?_
    refine r_get Fx hin hK hP 0 rfl 4 (by decide) (by decide +kernel) rfl rfl dX0_meanCoins_8 ?_
    refine n_icmp_ge (tgt := 41) hx hb (by omega) (by omega) dX0_meanCoins_11 (by decide) (fun h6 => by omega) (fun h6 => ?_)
    refine lv_aload_n hx hb dX0_meanCoins_14 rfl (lv_at hl 0 rfl) ?_
    refine r_get Fx hin hK hP 0 rfl 5 (by decide) (by decide +kernel) rfl rfl dX0_meanCoins_15 ?_
    refine lv_iload_n hx hb dX0_meanCoins_18 rfl (lv_at hl 3 rfl) ?_
    refine r_alive Fx hK hP (i := i) (by omega) (by omega) dX0_meanCoins_19 ?_
    refine b_if_eq (tgt := 35) hx hb dX0_meanCoins_20 (by decide) (fun h7 => ?_) (fun h7 => ?_)
    · refine lv_iinc (v := nI (i + 1)) (lv' := [(3, .int (nI (i + 1))), (0, .ref (q 0)), (1, .int (nI (cn (fun z => lv g z) i))), (2, .int (csm (fun z => lv g z) (fun z => g 4 z) i))]) hx hb dX0_meanCoins_35 hl (k := 3) rfl (nI_inc _ 1) (by decide) rfl (fun ls hl => ?_)
      refine lv_goto (tgt := 6) hx hb dX0_meanCoins_38 (by decide) ?_
      have e1_ : nI (cn (fun z => lv g z) i) = nI (cn (fun z => lv g z) (i + 1)) := by simp [cn, h5, h6, h7]
      rw [e1_] at hl
      have e2_ : csm (fun z => lv g z) (fun z => g 4 z) i = csm (fun z => lv g z) (fun z => g 4 z) (i + 1) := by simp [csm, h5, h6, h7]
      rw [e2_] at hl
      exact ih6 (trivial) _ (lv_sub hl [1, 2, 3, 0] rfl)
    · refine lv_iinc (v := nI (cn (fun z => lv g z) i + 1)) (lv' := [(1, .int (nI (cn (fun z => lv g z) i + 1))), (0, .ref (q 0)), (2, .int (csm (fun z => lv g z) (fun z => g 4 z) i)), (3, .int (nI i))]) hx hb dX0_meanCoins_23 hl (k := 1) rfl (nI_inc _ 1) (by decide) rfl (fun ls hl => ?_)
      refine lv_iload_n hx hb dX0_meanCoins_26 rfl (lv_at hl 2 rfl) ?_
      refine lv_aload_n hx hb dX0_meanCoins_27 rfl (lv_at hl 1 rfl) ?_
      refine r_get Fx hin hK hP 0 rfl 6 (by decide) (by decide +kernel) rfl rfl dX0_meanCoins_28 ?_
      refine lv_iload_n hx hb dX0_meanCoins_31 rfl (lv_at hl 3 rfl) ?_
      refine r_iald Fx hK hP 5 0 rfl rfl (i := i) (by omega) (by decide) dX0_meanCoins_32 ?_
      refine lv_iadd hx hb dX0_meanCoins_33 ?_
      refine lv_istore_n (lv' := [(2, .int ((csm (fun z => lv g z) (fun z => g 4 z) i) + (g 4 i))), (1, .int (nI (cn (fun z => lv g z) i + 1))), (0, .ref (q 0)), (3, .int (nI i))]) hx hb dX0_meanCoins_34 rfl hl (by decide) rfl (fun ls hl => ?_)
      refine lv_iinc (v := nI (i + 1)) (lv' := [(3, .int (nI (i + 1))), (2, .int ((csm (fun z => lv g z) (fun z => g 4 z) i) + (g 4 i))), (1, .int (nI (cn (fun z => lv g z) i + 1))), (0, .ref (q 0))]) hx hb dX0_meanCoins_35 hl (k := 3) rfl (nI_inc _ 1) (by decide) rfl (fun ls hl => ?_)
      refine lv_goto (tgt := 6) hx hb dX0_meanCoins_38 (by decide) ?_
      have e1_ : nI (cn (fun z => lv g z) i + 1) = nI (cn (fun z => lv g z) (i + 1)) := by simp [cn, h5, h6, h7]
      rw [e1_] at hl
      have e2_ : (csm (fun z => lv g z) (fun z => g 4 z) i) + (g 4 i) = csm (fun z => lv g z) (fun z => g 4 z) (i + 1) := by simp [csm, h5, h6, h7]
      rw [e2_] at hl
      exact ih6 (trivial) _ (lv_sub hl [3, 2, 1, 0] rfl)
end
section
/-! FerryRights, VII: a new one -/
set_option maxHeartbeats 4000000 in
set_option maxRecDepth 100000 in
theorem m_X0_init (l : Launch) {D : va_G} {ci cz : ClassId} {cj : ClassId × ClassId} (h0 sz : Nat) : Met l yX0_init wsX0_init ({ frames := 1, cells := 7, slots := 348, locals := 16 } : Room) (va_Pc [.ref h0] (fun U => U.heap.size = sz ∧ va_P D vwCl [(h0, .inr (0, [.int 0, .null, .null, .null, .int 0, .null, .null, .null, .null, .int 0]))] U.heap ∧ va_K D vwCl (tyL ci cz cj) U)) (va_Qv (fun q : Nat → Nat => q 0 = h0 ∧ DQ q 8 ∧ ∀ k, 1 ≤ k → k < 8 → sz ≤ q k) (fun q t => va_P D vwCl (w0 ci cz q 0 0 (fun _ _ => 0)) t.heap) (fun a => a = h0 ∨ sz ≤ a)) 7 348 (fun a => a = h0 ∨ sz ≤ a) := by
  refine Met.ofW (cc := cX0_init) (maxL := 1) (ret := none) (by decide) rfl ?_
  intro p e s m args below meth c s₁ B hml hv
  obtain ⟨rfl, hsz, hP, hK⟩ := hv
  have hx := B.exec
  have hb := B.bytes
  have hr := B.returns
  have hts := atoms_spec (ws := wsX0_init) B.pre
  have hown : s.vm.findClass RX0 = some m.cls := findClass_of_methodNamed B.named
  have hlocks := B.notSynchronized
  have hin2 : meth.name = "<init>" := (name_of_methodNamed B.named B.method).1
  subst hsz
  obtain ⟨sz, hsz⟩ : ∃ sz, sz = s.heap.size := ⟨_, rfl⟩
  rw [← hsz]
  have hin : ∀ w ∈ wsX00, w ∈ wsX0_init := by decide +kernel
  have hA : ∀ q : Nat, s.heap.size ≤ q → (fun a => a = h0 ∨ sz ≤ a) q := fun q h => Or.inr (by rw [hsz]; exact h)
  have hS : va_S (fun a => a = h0 ∨ sz ≤ a) s.heap s.heap [] := va_S.rf
  have hD : va_D (fun a => a = h0 ∨ sz ≤ a) [(h0, (.inr (0, [.int 0, .null, .null, .null, .int 0, .null, .null, .null, .null, .int 0]) : va_E))] := ⟨fun i j x y hi hj _ => by
    have h1 := (List.getElem?_eq_some_iff.mp hi).1
    have h2 := (List.getElem?_eq_some_iff.mp hj).1
    simp at h1 h2
    omega, fun k x hk => by
    have h1 := (List.getElem?_eq_some_iff.mp hk).1
    simp at h1
    subst h1
    cases hk
    exact Or.inl rfl⟩
  have hl := lv_entry ([.ref h0]) (n := 1) (Nat.le_of_ble_eq_true rfl)
  rw [lg_entry_eq]
  generalize (lg_sl ([.ref h0]) ++ List.replicate (1 - (lg_sl ([.ref h0])).length) Slot.unset).toArray = ls at hl ⊢
  have hl : lv_has ls 1 [(0, .ref h0)] := hl
  refine lv_aload_n hx hb dX0_init_0 rfl (lv_at hl 0 rfl) ?_
  refine W.objInit hx hb hown (hts (.methodLink RX0 3 objectInit) (by decide +kernel)) (hts (.instanceMethod objectInit) (by decide +kernel)) (hts (.code objectInit ⟨#[0xb1]⟩ 1 none) (by decide +kernel)) rfl (by rw [hml]; exact hl.1) rfl dX0_init_1 (Nat.le_of_ble_eq_true rfl) (Nat.le_of_ble_eq_true rfl) ?_
  refine W.eq (g2 := F0 m 4 ls []) rfl ?_
  refine lv_aload_n hx hb dX0_init_4 rfl (lv_at hl 0 rfl) ?_
  refine lv_iconst (v := 0) hx hb dX0_init_5 (by decide) ?_
  refine va_put (D := D) (ci := 0) (v := .int 0) (ty := .int) (C := RX0) (T := TX0) (N := 10) hx hb hts hin tyX0 tyX0_ok nmX0 hown hK hP hD hS 0 rfl rfl 0 (by decide) (hts (.fieldLink RX0 9 "FerryRights" "ferryCount" "I") (by decide +kernel)) (fun _ h9 => h9) rfl (by decide +kernel) rfl rfl (Nat.le_of_ble_eq_true rfl) dX0_init_6 (fun H locs hP hD hS => ?_)
  have hP : va_P D vwCl [(h0, .inr (0, [.int 0, .null, .null, .null, .int 0, .null, .null, .null, .null, .int 0]))] H := hP
  have hD : va_D (fun a => a = h0 ∨ sz ≤ a) [(h0, .inr (0, [.int 0, .null, .null, .null, .int 0, .null, .null, .null, .null, .int 0]))] := hD
  refine lv_aload_n hx hb dX0_init_9 rfl (lv_at hl 0 rfl) ?_
  refine lv_bipush (v := 6) hx hb dX0_init_10 (by decide) ?_
  refine va_newa (a0 := (6, .inl (fun _ => 0))) (atype := .int) (ty := .int) hx hb (hts (.arrayClass .int) (by decide +kernel)) rfl hK hP hD hS hA (fun _ => rfl) (by decide) (by decide) (by decide) (Nat.le_of_ble_eq_true rfl) (Nat.le_of_ble_eq_true rfl) dX0_init_12 (fun a1 cA H hK1 hP hD hS => ?_)
  obtain rfl := ra_eqI hK1 0 4 rfl rfl
  have hP : va_P D vwCl [(h0, .inr (0, [.int 0, .null, .null, .null, .int 0, .null, .null, .null, .null, .int 0])), (a1, .inl (ci, 6, .inl (fun _ => 0)))] H := hP
  have hD : va_D (fun a => a = h0 ∨ sz ≤ a) [(h0, .inr (0, [.int 0, .null, .null, .null, .int 0, .null, .null, .null, .null, .int 0])), (a1, .inl (ci, 6, .inl (fun _ => 0)))] := hD
  refine va_putF (D := D) (ci := 0) (v := .ref a1) (ty := (.array .int)) (C := RX0) (T := TX0) (N := 10) hx hb hts hin tyX0 tyX0_ok nmX0 hown hK hP hD hS 0 rfl rfl 1 (by decide) (hts (.fieldLink RX0 13 "FerryRights" "tolls" "[I") (by decide +kernel)) (fun _ h9 => h9) rfl hin2 rfl (by decide +kernel) rfl rfl (Nat.le_of_ble_eq_true rfl) dX0_init_14 (fun H locs hP hD hS => ?_)
  have hP : va_P D vwCl [(h0, .inr (0, [.int 0, .ref a1, .null, .null, .int 0, .null, .null, .null, .null, .int 0])), (a1, .inl (ci, 6, .inl (fun _ => 0)))] H := hP
  have hD : va_D (fun a => a = h0 ∨ sz ≤ a) [(h0, .inr (0, [.int 0, .ref a1, .null, .null, .int 0, .null, .null, .null, .null, .int 0])), (a1, .inl (ci, 6, .inl (fun _ => 0)))] := hD
  refine lv_aload_n hx hb dX0_init_17 rfl (lv_at hl 0 rfl) ?_
  refine lv_bipush (v := 6) hx hb dX0_init_18 (by decide) ?_
  refine va_newa (a0 := (6, .inl (fun _ => 0))) (atype := .int) (ty := .int) hx hb (hts (.arrayClass .int) (by decide +kernel)) rfl hK hP hD hS hA (fun _ => rfl) (by decide) (by decide) (by decide) (Nat.le_of_ble_eq_true rfl) (Nat.le_of_ble_eq_true rfl) dX0_init_20 (fun a2 cA H hK1 hP hD hS => ?_)
  obtain rfl := ra_eqI hK1 0 4 rfl rfl
  have hP : va_P D vwCl [(h0, .inr (0, [.int 0, .ref a1, .null, .null, .int 0, .null, .null, .null, .null, .int 0])), (a1, .inl (ci, 6, .inl (fun _ => 0))), (a2, .inl (ci, 6, .inl (fun _ => 0)))] H := hP
  have hD : va_D (fun a => a = h0 ∨ sz ≤ a) [(h0, .inr (0, [.int 0, .ref a1, .null, .null, .int 0, .null, .null, .null, .null, .int 0])), (a1, .inl (ci, 6, .inl (fun _ => 0))), (a2, .inl (ci, 6, .inl (fun _ => 0)))] := hD
  refine va_putF (D := D) (ci := 0) (v := .ref a2) (ty := (.array .int)) (C := RX0) (T := TX0) (N := 10) hx hb hts hin tyX0 tyX0_ok nmX0 hown hK hP hD hS 0 rfl rfl 2 (by decide) (hts (.fieldLink RX0 17 "FerryRights" "passengersCarried" "[I") (by decide +kernel)) (fun _ h9 => h9) rfl hin2 rfl (by decide +kernel) rfl rfl (Nat.le_of_ble_eq_true rfl) dX0_init_22 (fun H locs hP hD hS => ?_)
  have hP : va_P D vwCl [(h0, .inr (0, [.int 0, .ref a1, .ref a2, .null, .int 0, .null, .null, .null, .null, .int 0])), (a1, .inl (ci, 6, .inl (fun _ => 0))), (a2, .inl (ci, 6, .inl (fun _ => 0)))] H := hP
  have hD : va_D (fun a => a = h0 ∨ sz ≤ a) [(h0, .inr (0, [.int 0, .ref a1, .ref a2, .null, .int 0, .null, .null, .null, .null, .int 0])), (a1, .inl (ci, 6, .inl (fun _ => 0))), (a2, .inl (ci, 6, .inl (fun _ => 0)))] := hD
  refine lv_aload_n hx hb dX0_init_25 rfl (lv_at hl 0 rfl) ?_
  refine lv_sipush (v := 288) hx hb dX0_init_26 (by decide) ?_
  refine va_newa (a0 := (288, .inl (fun _ => 0))) (atype := .int) (ty := .int) hx hb (hts (.arrayClass .int) (by decide +kernel)) rfl hK hP hD hS hA (fun _ => rfl) (by decide) (by decide) (by decide) (Nat.le_of_ble_eq_true rfl) (Nat.le_of_ble_eq_true rfl) dX0_init_29 (fun a3 cA H hK1 hP hD hS => ?_)
  obtain rfl := ra_eqI hK1 0 4 rfl rfl
  have hP : va_P D vwCl [(h0, .inr (0, [.int 0, .ref a1, .ref a2, .null, .int 0, .null, .null, .null, .null, .int 0])), (a1, .inl (ci, 6, .inl (fun _ => 0))), (a2, .inl (ci, 6, .inl (fun _ => 0))), (a3, .inl (ci, 288, .inl (fun _ => 0)))] H := hP
  have hD : va_D (fun a => a = h0 ∨ sz ≤ a) [(h0, .inr (0, [.int 0, .ref a1, .ref a2, .null, .int 0, .null, .null, .null, .null, .int 0])), (a1, .inl (ci, 6, .inl (fun _ => 0))), (a2, .inl (ci, 6, .inl (fun _ => 0))), (a3, .inl (ci, 288, .inl (fun _ => 0)))] := hD
  refine va_putF (D := D) (ci := 0) (v := .ref a3) (ty := (.array .int)) (C := RX0) (T := TX0) (N := 10) hx hb hts hin tyX0 tyX0_ok nmX0 hown hK hP hD hS 0 rfl rfl 3 (by decide) (hts (.fieldLink RX0 20 "FerryRights" "sharesOwned" "[I") (by decide +kernel)) (fun _ h9 => h9) rfl hin2 rfl (by decide +kernel) rfl rfl (Nat.le_of_ble_eq_true rfl) dX0_init_31 (fun H locs hP hD hS => ?_)
  have hP : va_P D vwCl [(h0, .inr (0, [.int 0, .ref a1, .ref a2, .ref a3, .int 0, .null, .null, .null, .null, .int 0])), (a1, .inl (ci, 6, .inl (fun _ => 0))), (a2, .inl (ci, 6, .inl (fun _ => 0))), (a3, .inl (ci, 288, .inl (fun _ => 0)))] H := hP
  have hD : va_D (fun a => a = h0 ∨ sz ≤ a) [(h0, .inr (0, [.int 0, .ref a1, .ref a2, .ref a3, .int 0, .null, .null, .null, .null, .int 0])), (a1, .inl (ci, 6, .inl (fun _ => 0))), (a2, .inl (ci, 6, .inl (fun _ => 0))), (a3, .inl (ci, 288, .inl (fun _ => 0)))] := hD
  refine lv_aload_n hx hb dX0_init_34 rfl (lv_at hl 0 rfl) ?_
  refine lv_iconst (v := 0) hx hb dX0_init_35 (by decide) ?_
  refine va_put (D := D) (ci := 0) (v := .int 0) (ty := .int) (C := RX0) (T := TX0) (N := 10) hx hb hts hin tyX0 tyX0_ok nmX0 hown hK hP hD hS 0 rfl rfl 4 (by decide) (hts (.fieldLink RX0 23 "FerryRights" "personCount" "I") (by decide +kernel)) (fun _ h9 => h9) rfl (by decide +kernel) rfl rfl (Nat.le_of_ble_eq_true rfl) dX0_init_36 (fun H locs hP hD hS => ?_)
  have hP : va_P D vwCl [(h0, .inr (0, [.int 0, .ref a1, .ref a2, .ref a3, .int 0, .null, .null, .null, .null, .int 0])), (a1, .inl (ci, 6, .inl (fun _ => 0))), (a2, .inl (ci, 6, .inl (fun _ => 0))), (a3, .inl (ci, 288, .inl (fun _ => 0)))] H := hP
  have hD : va_D (fun a => a = h0 ∨ sz ≤ a) [(h0, .inr (0, [.int 0, .ref a1, .ref a2, .ref a3, .int 0, .null, .null, .null, .null, .int 0])), (a1, .inl (ci, 6, .inl (fun _ => 0))), (a2, .inl (ci, 6, .inl (fun _ => 0))), (a3, .inl (ci, 288, .inl (fun _ => 0)))] := hD
  refine lv_aload_n hx hb dX0_init_39 rfl (lv_at hl 0 rfl) ?_
  refine lv_bipush (v := 12) hx hb dX0_init_40 (by decide) ?_
  refine va_newa (a0 := (12, .inl (fun _ => 0))) (atype := .boolean) (ty := .boolean) hx hb (hts (.arrayClass .boolean) (by decide +kernel)) rfl hK hP hD hS hA (fun _ => rfl) (by decide) (by decide) (by decide) (Nat.le_of_ble_eq_true rfl) (Nat.le_of_ble_eq_true rfl) dX0_init_42 (fun a4 cA H hK1 hP hD hS => ?_)
  obtain rfl := ra_eqZ hK1 1 4 rfl rfl
  have hP : va_P D vwCl [(h0, .inr (0, [.int 0, .ref a1, .ref a2, .ref a3, .int 0, .null, .null, .null, .null, .int 0])), (a1, .inl (ci, 6, .inl (fun _ => 0))), (a2, .inl (ci, 6, .inl (fun _ => 0))), (a3, .inl (ci, 288, .inl (fun _ => 0))), (a4, .inl (cz, 12, .inl (fun _ => 0)))] H := hP
  have hD : va_D (fun a => a = h0 ∨ sz ≤ a) [(h0, .inr (0, [.int 0, .ref a1, .ref a2, .ref a3, .int 0, .null, .null, .null, .null, .int 0])), (a1, .inl (ci, 6, .inl (fun _ => 0))), (a2, .inl (ci, 6, .inl (fun _ => 0))), (a3, .inl (ci, 288, .inl (fun _ => 0))), (a4, .inl (cz, 12, .inl (fun _ => 0)))] := hD
  refine va_putF (D := D) (ci := 0) (v := .ref a4) (ty := (.array .boolean)) (C := RX0) (T := TX0) (N := 10) hx hb hts hin tyX0 tyX0_ok nmX0 hown hK hP hD hS 0 rfl rfl 5 (by decide) (hts (.fieldLink RX0 26 "FerryRights" "alive" "[Z") (by decide +kernel)) (fun _ h9 => h9) rfl hin2 rfl (by decide +kernel) rfl rfl (Nat.le_of_ble_eq_true rfl) dX0_init_44 (fun H locs hP hD hS => ?_)
  have hP : va_P D vwCl [(h0, .inr (0, [.int 0, .ref a1, .ref a2, .ref a3, .int 0, .ref a4, .null, .null, .null, .int 0])), (a1, .inl (ci, 6, .inl (fun _ => 0))), (a2, .inl (ci, 6, .inl (fun _ => 0))), (a3, .inl (ci, 288, .inl (fun _ => 0))), (a4, .inl (cz, 12, .inl (fun _ => 0)))] H := hP
  have hD : va_D (fun a => a = h0 ∨ sz ≤ a) [(h0, .inr (0, [.int 0, .ref a1, .ref a2, .ref a3, .int 0, .ref a4, .null, .null, .null, .int 0])), (a1, .inl (ci, 6, .inl (fun _ => 0))), (a2, .inl (ci, 6, .inl (fun _ => 0))), (a3, .inl (ci, 288, .inl (fun _ => 0))), (a4, .inl (cz, 12, .inl (fun _ => 0)))] := hD
  refine lv_aload_n hx hb dX0_init_47 rfl (lv_at hl 0 rfl) ?_
  refine lv_bipush (v := 12) hx hb dX0_init_48 (by decide) ?_
  refine va_newa (a0 := (12, .inl (fun _ => 0))) (atype := .int) (ty := .int) hx hb (hts (.arrayClass .int) (by decide +kernel)) rfl hK hP hD hS hA (fun _ => rfl) (by decide) (by decide) (by decide) (Nat.le_of_ble_eq_true rfl) (Nat.le_of_ble_eq_true rfl) dX0_init_50 (fun a5 cA H hK1 hP hD hS => ?_)
  obtain rfl := ra_eqI hK1 0 4 rfl rfl
  have hP : va_P D vwCl [(h0, .inr (0, [.int 0, .ref a1, .ref a2, .ref a3, .int 0, .ref a4, .null, .null, .null, .int 0])), (a1, .inl (ci, 6, .inl (fun _ => 0))), (a2, .inl (ci, 6, .inl (fun _ => 0))), (a3, .inl (ci, 288, .inl (fun _ => 0))), (a4, .inl (cz, 12, .inl (fun _ => 0))), (a5, .inl (ci, 12, .inl (fun _ => 0)))] H := hP
  have hD : va_D (fun a => a = h0 ∨ sz ≤ a) [(h0, .inr (0, [.int 0, .ref a1, .ref a2, .ref a3, .int 0, .ref a4, .null, .null, .null, .int 0])), (a1, .inl (ci, 6, .inl (fun _ => 0))), (a2, .inl (ci, 6, .inl (fun _ => 0))), (a3, .inl (ci, 288, .inl (fun _ => 0))), (a4, .inl (cz, 12, .inl (fun _ => 0))), (a5, .inl (ci, 12, .inl (fun _ => 0)))] := hD
  refine va_putF (D := D) (ci := 0) (v := .ref a5) (ty := (.array .int)) (C := RX0) (T := TX0) (N := 10) hx hb hts hin tyX0 tyX0_ok nmX0 hown hK hP hD hS 0 rfl rfl 6 (by decide) (hts (.fieldLink RX0 30 "FerryRights" "purses" "[I") (by decide +kernel)) (fun _ h9 => h9) rfl hin2 rfl (by decide +kernel) rfl rfl (Nat.le_of_ble_eq_true rfl) dX0_init_52 (fun H locs hP hD hS => ?_)
  have hP : va_P D vwCl [(h0, .inr (0, [.int 0, .ref a1, .ref a2, .ref a3, .int 0, .ref a4, .ref a5, .null, .null, .int 0])), (a1, .inl (ci, 6, .inl (fun _ => 0))), (a2, .inl (ci, 6, .inl (fun _ => 0))), (a3, .inl (ci, 288, .inl (fun _ => 0))), (a4, .inl (cz, 12, .inl (fun _ => 0))), (a5, .inl (ci, 12, .inl (fun _ => 0)))] H := hP
  have hD : va_D (fun a => a = h0 ∨ sz ≤ a) [(h0, .inr (0, [.int 0, .ref a1, .ref a2, .ref a3, .int 0, .ref a4, .ref a5, .null, .null, .int 0])), (a1, .inl (ci, 6, .inl (fun _ => 0))), (a2, .inl (ci, 6, .inl (fun _ => 0))), (a3, .inl (ci, 288, .inl (fun _ => 0))), (a4, .inl (cz, 12, .inl (fun _ => 0))), (a5, .inl (ci, 12, .inl (fun _ => 0)))] := hD
  refine lv_aload_n hx hb dX0_init_55 rfl (lv_at hl 0 rfl) ?_
  refine lv_bipush (v := 12) hx hb dX0_init_56 (by decide) ?_
  refine va_newa (a0 := (12, .inl (fun _ => 0))) (atype := .int) (ty := .int) hx hb (hts (.arrayClass .int) (by decide +kernel)) rfl hK hP hD hS hA (fun _ => rfl) (by decide) (by decide) (by decide) (Nat.le_of_ble_eq_true rfl) (Nat.le_of_ble_eq_true rfl) dX0_init_58 (fun a6 cA H hK1 hP hD hS => ?_)
  obtain rfl := ra_eqI hK1 0 4 rfl rfl
  have hP : va_P D vwCl [(h0, .inr (0, [.int 0, .ref a1, .ref a2, .ref a3, .int 0, .ref a4, .ref a5, .null, .null, .int 0])), (a1, .inl (ci, 6, .inl (fun _ => 0))), (a2, .inl (ci, 6, .inl (fun _ => 0))), (a3, .inl (ci, 288, .inl (fun _ => 0))), (a4, .inl (cz, 12, .inl (fun _ => 0))), (a5, .inl (ci, 12, .inl (fun _ => 0))), (a6, .inl (ci, 12, .inl (fun _ => 0)))] H := hP
  have hD : va_D (fun a => a = h0 ∨ sz ≤ a) [(h0, .inr (0, [.int 0, .ref a1, .ref a2, .ref a3, .int 0, .ref a4, .ref a5, .null, .null, .int 0])), (a1, .inl (ci, 6, .inl (fun _ => 0))), (a2, .inl (ci, 6, .inl (fun _ => 0))), (a3, .inl (ci, 288, .inl (fun _ => 0))), (a4, .inl (cz, 12, .inl (fun _ => 0))), (a5, .inl (ci, 12, .inl (fun _ => 0))), (a6, .inl (ci, 12, .inl (fun _ => 0)))] := hD
  refine va_putF (D := D) (ci := 0) (v := .ref a6) (ty := (.array .int)) (C := RX0) (T := TX0) (N := 10) hx hb hts hin tyX0 tyX0_ok nmX0 hown hK hP hD hS 0 rfl rfl 7 (by decide) (hts (.fieldLink RX0 33 "FerryRights" "fares" "[I") (by decide +kernel)) (fun _ h9 => h9) rfl hin2 rfl (by decide +kernel) rfl rfl (Nat.le_of_ble_eq_true rfl) dX0_init_60 (fun H locs hP hD hS => ?_)
  have hP : va_P D vwCl [(h0, .inr (0, [.int 0, .ref a1, .ref a2, .ref a3, .int 0, .ref a4, .ref a5, .ref a6, .null, .int 0])), (a1, .inl (ci, 6, .inl (fun _ => 0))), (a2, .inl (ci, 6, .inl (fun _ => 0))), (a3, .inl (ci, 288, .inl (fun _ => 0))), (a4, .inl (cz, 12, .inl (fun _ => 0))), (a5, .inl (ci, 12, .inl (fun _ => 0))), (a6, .inl (ci, 12, .inl (fun _ => 0)))] H := hP
  have hD : va_D (fun a => a = h0 ∨ sz ≤ a) [(h0, .inr (0, [.int 0, .ref a1, .ref a2, .ref a3, .int 0, .ref a4, .ref a5, .ref a6, .null, .int 0])), (a1, .inl (ci, 6, .inl (fun _ => 0))), (a2, .inl (ci, 6, .inl (fun _ => 0))), (a3, .inl (ci, 288, .inl (fun _ => 0))), (a4, .inl (cz, 12, .inl (fun _ => 0))), (a5, .inl (ci, 12, .inl (fun _ => 0))), (a6, .inl (ci, 12, .inl (fun _ => 0)))] := hD
  refine lv_aload_n hx hb dX0_init_63 rfl (lv_at hl 0 rfl) ?_
  refine lv_bipush (v := 12) hx hb dX0_init_64 (by decide) ?_
  refine va_newa (a0 := (12, .inl (fun _ => 0))) (atype := .int) (ty := .int) hx hb (hts (.arrayClass .int) (by decide +kernel)) rfl hK hP hD hS hA (fun _ => rfl) (by decide) (by decide) (by decide) (Nat.le_of_ble_eq_true rfl) (Nat.le_of_ble_eq_true rfl) dX0_init_66 (fun a7 cA H hK1 hP hD hS => ?_)
  obtain rfl := ra_eqI hK1 0 4 rfl rfl
  have hP : va_P D vwCl [(h0, .inr (0, [.int 0, .ref a1, .ref a2, .ref a3, .int 0, .ref a4, .ref a5, .ref a6, .null, .int 0])), (a1, .inl (ci, 6, .inl (fun _ => 0))), (a2, .inl (ci, 6, .inl (fun _ => 0))), (a3, .inl (ci, 288, .inl (fun _ => 0))), (a4, .inl (cz, 12, .inl (fun _ => 0))), (a5, .inl (ci, 12, .inl (fun _ => 0))), (a6, .inl (ci, 12, .inl (fun _ => 0))), (a7, .inl (ci, 12, .inl (fun _ => 0)))] H := hP
  have hD : va_D (fun a => a = h0 ∨ sz ≤ a) [(h0, .inr (0, [.int 0, .ref a1, .ref a2, .ref a3, .int 0, .ref a4, .ref a5, .ref a6, .null, .int 0])), (a1, .inl (ci, 6, .inl (fun _ => 0))), (a2, .inl (ci, 6, .inl (fun _ => 0))), (a3, .inl (ci, 288, .inl (fun _ => 0))), (a4, .inl (cz, 12, .inl (fun _ => 0))), (a5, .inl (ci, 12, .inl (fun _ => 0))), (a6, .inl (ci, 12, .inl (fun _ => 0))), (a7, .inl (ci, 12, .inl (fun _ => 0)))] := hD
  refine va_putF (D := D) (ci := 0) (v := .ref a7) (ty := (.array .int)) (C := RX0) (T := TX0) (N := 10) hx hb hts hin tyX0 tyX0_ok nmX0 hown hK hP hD hS 0 rfl rfl 8 (by decide) (hts (.fieldLink RX0 36 "FerryRights" "parents" "[I") (by decide +kernel)) (fun _ h9 => h9) rfl hin2 rfl (by decide +kernel) rfl rfl (Nat.le_of_ble_eq_true rfl) dX0_init_68 (fun H locs hP hD hS => ?_)
  have hP : va_P D vwCl [(h0, .inr (0, [.int 0, .ref a1, .ref a2, .ref a3, .int 0, .ref a4, .ref a5, .ref a6, .ref a7, .int 0])), (a1, .inl (ci, 6, .inl (fun _ => 0))), (a2, .inl (ci, 6, .inl (fun _ => 0))), (a3, .inl (ci, 288, .inl (fun _ => 0))), (a4, .inl (cz, 12, .inl (fun _ => 0))), (a5, .inl (ci, 12, .inl (fun _ => 0))), (a6, .inl (ci, 12, .inl (fun _ => 0))), (a7, .inl (ci, 12, .inl (fun _ => 0)))] H := hP
  have hD : va_D (fun a => a = h0 ∨ sz ≤ a) [(h0, .inr (0, [.int 0, .ref a1, .ref a2, .ref a3, .int 0, .ref a4, .ref a5, .ref a6, .ref a7, .int 0])), (a1, .inl (ci, 6, .inl (fun _ => 0))), (a2, .inl (ci, 6, .inl (fun _ => 0))), (a3, .inl (ci, 288, .inl (fun _ => 0))), (a4, .inl (cz, 12, .inl (fun _ => 0))), (a5, .inl (ci, 12, .inl (fun _ => 0))), (a6, .inl (ci, 12, .inl (fun _ => 0))), (a7, .inl (ci, 12, .inl (fun _ => 0)))] := hD
  refine lv_aload_n hx hb dX0_init_71 rfl (lv_at hl 0 rfl) ?_
  refine lv_iconst (v := 0) hx hb dX0_init_72 (by decide) ?_
  refine va_put (D := D) (ci := 0) (v := .int 0) (ty := .int) (C := RX0) (T := TX0) (N := 10) hx hb hts hin tyX0 tyX0_ok nmX0 hown hK hP hD hS 0 rfl rfl 9 (by decide) (hts (.fieldLink RX0 39 "FerryRights" "crownPurse" "I") (by decide +kernel)) (fun _ h9 => h9) rfl (by decide +kernel) rfl rfl (Nat.le_of_ble_eq_true rfl) dX0_init_73 (fun H locs hP hD hS => ?_)
  have hP : va_P D vwCl [(h0, .inr (0, [.int 0, .ref a1, .ref a2, .ref a3, .int 0, .ref a4, .ref a5, .ref a6, .ref a7, .int 0])), (a1, .inl (ci, 6, .inl (fun _ => 0))), (a2, .inl (ci, 6, .inl (fun _ => 0))), (a3, .inl (ci, 288, .inl (fun _ => 0))), (a4, .inl (cz, 12, .inl (fun _ => 0))), (a5, .inl (ci, 12, .inl (fun _ => 0))), (a6, .inl (ci, 12, .inl (fun _ => 0))), (a7, .inl (ci, 12, .inl (fun _ => 0)))] H := hP
  have hD : va_D (fun a => a = h0 ∨ sz ≤ a) [(h0, .inr (0, [.int 0, .ref a1, .ref a2, .ref a3, .int 0, .ref a4, .ref a5, .ref a6, .ref a7, .int 0])), (a1, .inl (ci, 6, .inl (fun _ => 0))), (a2, .inl (ci, 6, .inl (fun _ => 0))), (a3, .inl (ci, 288, .inl (fun _ => 0))), (a4, .inl (cz, 12, .inl (fun _ => 0))), (a5, .inl (ci, 12, .inl (fun _ => 0))), (a6, .inl (ci, 12, .inl (fun _ => 0))), (a7, .inl (ci, 12, .inl (fun _ => 0)))] := hD
  refine W.widen (k := 7) (n := 348) (Nat.le_of_ble_eq_true rfl) (Nat.le_of_ble_eq_true rfl) ?_
  obtain ⟨q, hqe⟩ : ∃ q : Nat → Nat, q = (fun k => match k with | 0 => h0 | 1 => a1 | 2 => a2 | 3 => a3 | 4 => a4 | 5 => a5 | 6 => a6 | _ => a7) := ⟨_, rfl⟩
  have hq0 : q 0 = h0 := by subst hqe; rfl
  have hP9 : va_P D vwCl (w0r ci cz q 0 0 (fun _ => 0) (fun _ _ => 0)) H := hP.sub [0, 1, 2, 3, 4, 5, 6, 7] (by subst hqe; rfl)
  have hD9 : va_D (fun a => a = h0 ∨ sz ≤ a) (w0r ci cz q 0 0 (fun _ => 0) (fun _ _ => 0)) := hD.sub [0, 1, 2, 3, 4, 5, 6, 7] (by decide) (by subst hqe; rfl)
  have hP9 : va_P D vwCl (w0 ci cz q 0 0 (fun _ _ => 0)) H := by unfold w0; rw [alv_0]; exact hP9
  exact W.vret hx hb hr (fun t ht _ => ⟨⟨q, rfl, ⟨hq0, dq_of hD9 (fun _ h => w0r_at h), new_of hD9 (fun _ h => w0r_at h) hq0⟩, (by show va_P D vwCl _ t.heap; rw [ht]; exact hP9)⟩, hS.F ht⟩) hS.2.2 dX0_init_76 hlocks
end
