/-! PART 33: the Sim, IV: one more ferry, one more person. -/
section SIMD
theorem cq_s {b : Nat} {A : Nat → Nat} {i : Nat} : ∀ j, va_up (fun j => if j < i then some (A (b + j)) else none) i (some (A (b + i))) j = if j < i + 1 then some (A (b + j)) else none := by
  intro j
  unfold va_up
  by_cases e : j = i
  · subst e
    rw [if_pos rfl, if_pos (by omega)]
  · rw [if_neg e]
    show (if j < i then some (A (b + j)) else none) = _
    by_cases h : j < i
    · rw [if_pos h, if_pos (by omega)]
    · rw [if_neg h, if_neg (by omega)]
theorem cq_e {n b v : Nat} {A : Nat → Nat} : ∀ j, j < n + 1 → va_up (fun j => if j < n then some (A (b + j)) else none) n (some v) j = if j < n then some (A (b + j)) else some v := by
  intro j hj
  unfold va_up
  by_cases e : j = n
  · subst e
    rw [if_pos rfl, if_neg (Nat.lt_irrefl _)]
  · rw [if_neg e]
    show (if j < n then some (A (b + j)) else none) = _
    rw [if_pos (by omega), if_pos (by omega)]
/-- rows: those before j full of the crown's, of j the first k -/
def rwF (j k w : Nat) : Nat → Int32 := fun z => if w < j ∨ (w = j ∧ z < k) then -1 else 0
theorem rwF_0 (w z : Nat) : rwF 0 0 w z = 0 := if_neg (by omega)
theorem rwF_s {j k : Nat} : ∀ z, upd (rwF j k j) k (-1) z = rwF j (k + 1) j z := by
  intro z
  unfold upd rwF
  by_cases e : z = k
  · subst e
    rw [if_pos rfl, if_pos (by omega)]
  · rw [if_neg e]
    by_cases h : j < j ∨ (j = j ∧ z < k)
    · rw [if_pos h, if_pos (by omega)]
    · rw [if_neg h, if_neg (by omega)]
theorem rwF_o {j k w : Nat} (h : ¬ w = j) : ∀ z, rwF j k w z = rwF j (k + 1) w z := by
  intro z
  unfold rwF
  by_cases h2 : w < j ∨ (w = j ∧ z < k)
  · rw [if_pos h2, if_pos (by omega)]
  · rw [if_neg h2, if_neg (by omega)]
theorem rwF_n {j w z : Nat} (hz : z < 64) : rwF j 64 w z = rwF (j + 1) 0 w z := by
  unfold rwF
  by_cases h2 : w < j ∨ (w = j ∧ z < 64)
  · rw [if_pos h2, if_pos (by omega)]
  · rw [if_neg h2, if_neg (by omega)]
theorem rwF_e {w z : Nat} (hw : w < 4) : rwF 4 0 w z = -1 := if_pos (by omega)
theorem upd_0 {f : Nat → Int32} {n m : Nat} (h : f n = 0) : ∀ j, j < m → upd f n (nI 0) j = f j := by
  intro j _
  unfold upd
  split
  · next e => rw [e, h]; rfl
  · rfl
theorem rI_par {g : Nat → Nat → Int32} {P p : Nat} {x : Int32} (h : p ≠ P) : rI (gPar g P x) p = rI g p := by
  funext j
  simp [rI, gPar, va_up, upd, h]
theorem rI_new {g : Nat → Nat → Int32} {P : Nat} {x : Int32} (h3 : g 3 P = 0) (h4 : g 4 P = 0) (h5 : g 5 P = 0) : ∀ j, j < 4 → upd (upd (upd (upd (fun _ => 0) 0 (nI 0)) 1 (nI 0)) 2 x) 3 (nI 0) j = rI (gPar g P x) P j := by
  intro j hj
  rcases (show j = 0 ∨ j = 1 ∨ j = 2 ∨ j = 3 by omega) with rfl | rfl | rfl | rfl
  · show nI 0 = g 4 P
    rw [h4]; rfl
  · show nI 0 = g 5 P
    rw [h5]; rfl
  · show x = upd (g 6) P x P
    simp [upd]
  · show nI 0 = g 3 P
    rw [h3]; rfl
set_option maxHeartbeats 8000000 in
set_option maxRecDepth 100000 in
theorem m_X1_addPerson (l : Launch) {D : va_G} {ci cz : ClassId} {cj : ClassId × ClassId} {A : Nat → Nat} {F P : Nat} {g : Nat → Nat → Int32} (hz : Nat) {q : Nat → Nat} {sz : Nat} (hsz9 : sz ≤ hz) (hq9 : ∀ k, k < 8 → q k < hz) (hAD : AD q sz A F P) (hF : F ≤ 6) (hP : P < 12) (x : Int32) (h3 : g 3 P = 0) (h4 : g 4 P = 0) (h5 : g 5 P = 0) (hI : Iv F P g) : Met l yX1_addPerson wsX1_addPerson ({ frames := 0, cells := 2, slots := 17, locals := 0 } : Room) (va_Pc [.ref (A 0), .int x] (fun U => U.heap.size = hz ∧ BX D ci cz cj A F P g U)) (MQv (fun v H => v = none ∧ ∃ A', A' 0 = A 0 ∧ AD q sz A' F (P + 1) ∧ SS D ci cj A' F (P + 1) (gPar g P x) H) (fun a => a = A 0 ∨ hz ≤ a)) 2 17 (fun a => a = A 0 ∨ hz ≤ a) := by
  refine Met.ofM (cc := cX1_addPerson) (maxL := 4) (ret := none) (by decide) rfl (Nat.le_of_ble_eq_true rfl) ?_
  intro pg en s m bl mt cd ls Fx hr hlocks hB hl
  obtain ⟨hz9, ⟨T, hR, hQ⟩, hK, hO⟩ := hB
  have lq : ∀ j, sV F P j → A j < hz := fun j hj => by rw [← hz9]; exact hQ.lt hj
  have hi := hAD.1
  have hX := SPx.of hQ
  have hO9 := hQ.o
  have hl : lv_has ls 4 [(0, .ref (A 0)), (1, .int x)] := hl
  have Fx : CallFix pg m cd cX1_addPerson 4 s _ wsX1_addPerson RX1 := Fx
  have hx := Fx.1
  have hb := Fx.2.1
  have hin : ∀ w ∈ wsX10, w ∈ wsX1_addPerson := by decide +kernel
  have hS : va_S (fun a => a = A 0 ∨ hz ≤ a) s.heap s.heap [] := va_S.rf
  refine lv_aload_n hx hb dX1_addPerson_0 rfl (lv_at hl 0 rfl) ?_
  refine g_get Fx hin hK 1 hO9 rfl 3 (by decide) (by decide +kernel) rfl dX1_addPerson_1 ?_
  refine g_alenR Fx hK hX.pe 2 rfl dX1_addPerson_4 ?_
  refine lv_iconst (v := nI 1) hx hb dX1_addPerson_5 (by decide) ?_
  refine r_iadd_n hx hb dX1_addPerson_6 ?_
  have hz8 := Nat.le_trans (Nat.le_of_eq hz9.symm) hS.1
  refine g_newq (nm := "[I") Fx hK 2 rfl (by decide) (by decide +kernel) hO.1 hS (by omega) (by show _ ≤ 2; omega) (by show _ ≤ 17; omega) dX1_addPerson_7 (fun a1 H ea hr1 kp hsz hS => ?_)
  have la1 : hz ≤ a1 := by rw [ea]; exact hz8
  have hX : SPx D ci cj A F P g T H := hX.mv kp (fun _ _ _ h9 => h9.elim)
  have hO9 : va_at D vwCl (A 0, .inr (1, [.ref (A 1), .ref (A 2), .ref (A 3), .ref (A 4), .int (g 7 0)])) H := kp.at hO9 (fun h9 => h9.elim)
  refine lv_astore_n (lv' := [(2, .ref a1), (0, .ref (A 0)), (1, .int x)]) hx hb dX1_addPerson_10 rfl hl (by decide) rfl (fun ls hl => ?_)
  refine lv_iconst (v := nI 0) hx hb dX1_addPerson_11 (by decide) ?_
  refine lv_istore_n (lv' := [(3, .int (nI 0)), (2, .ref a1), (0, .ref (A 0)), (1, .int x)]) hx hb dX1_addPerson_12 rfl hl (by decide) rfl (fun ls hl => ?_)
  refine wloop (nL := 4) (N := P) (fun _ => True) (fun i => [(0, .ref (A 0)), (1, .int x), (2, .ref a1), (3, .int (nI i))]) (fun i H => SPx D ci cj A F P g T H ∧ va_at D vwCl (A 0, .inr (1, [.ref (A 1), .ref (A 2), .ref (A 3), .ref (A 4), .int (g 7 0)])) H ∧ isR D cj.1 H a1 (P + 1) (fun j => if j < i then some (A (35 + j)) else none)) (trivial) (⟨hX, hO9, hr1.cg (fun j _ => (if_neg (Nat.not_lt_zero _)).symm)⟩) hS (lv_sub hl [2, 3, 1, 0] rfl) ?_ ?_
  · intro h1 H locs ls hW hS hl
    have hl : lv_has ls 4 [(0, .ref (A 0)), (1, .int x), (2, .ref a1), (3, .int (nI P))] := hl
    obtain ⟨hX, hO9, hr1⟩ := hW
    have hX : SPx D ci cj A F P g T H := hX
    have hO9 : va_at D vwCl (A 0, .inr (1, [.ref (A 1), .ref (A 2), .ref (A 3), .ref (A 4), .int (g 7 0)])) H := hO9
    have hr1 : isR D cj.1 H a1 (P + 1) (fun j => if j < P then some (A (35 + j)) else none) := hr1
    refine lv_iload_n hx hb dX1_addPerson_13 rfl (lv_at hl 3 rfl) ?_
    refine lv_aload_n hx hb dX1_addPerson_14 rfl (lv_at hl 0 rfl) ?_
    refine g_get Fx hin hK 1 hO9 rfl 3 (by decide) (by decide +kernel) rfl dX1_addPerson_15 ?_
    refine g_alenR Fx hK hX.pe 2 rfl dX1_addPerson_18 ?_
    refine n_icmp_ge (tgt := 37) hx hb (by omega) (by omega) dX1_addPerson_19 (by decide) (fun h2 => ?_) (fun h2 => by omega)
    refine lv_aload_n hx hb dX1_addPerson_37 rfl (lv_at hl 2 rfl) ?_
    refine lv_aload_n hx hb dX1_addPerson_38 rfl (lv_at hl 0 rfl) ?_
    refine g_get Fx hin hK 1 hO9 rfl 3 (by decide) (by decide +kernel) rfl dX1_addPerson_39 ?_
    refine g_alenR Fx hK hX.pe 2 rfl dX1_addPerson_42 ?_
    refine lv_iconst (v := nI 4) hx hb dX1_addPerson_43 (by decide) ?_
    have hz8 := Nat.le_trans (Nat.le_of_eq hz9.symm) hS.1
    refine g_newa Fx hK 0 rfl (by decide +kernel) hS (by omega) (by show _ ≤ 2; omega) (by show _ ≤ 17; omega) dX1_addPerson_44 (fun a3 H ea hm3 kp hsz hS => ?_)
    have la3 : hz ≤ a3 := by rw [ea]; exact hz8
    have l_a3_a1 : a1 < a3 := by rw [ea]; exact va_at.lt hr1
    have hX : SPx D ci cj A F P g T H := hX.mv kp (fun _ _ _ h9 => h9.elim)
    have hO9 : va_at D vwCl (A 0, .inr (1, [.ref (A 1), .ref (A 2), .ref (A 3), .ref (A 4), .int (g 7 0)])) H := kp.at hO9 (fun h9 => h9.elim)
    have hr1 : isR D cj.1 H a1 (P + 1) (fun j => if j < P then some (A (35 + j)) else none) := kp.at hr1 (fun h9 => h9.elim)
    refine lv_dup hx hb dX1_addPerson_46 rfl ?_
    refine lv_iconst (v := nI 0) hx hb dX1_addPerson_47 (by decide) ?_
    refine lv_iconst (v := nI 0) hx hb dX1_addPerson_48 (by decide) ?_
    refine g_iast Fx hK hm3 0 rfl (Or.inr la3) hS (i := 0) (by decide) (by decide) dX1_addPerson_49 (fun H locs hm3 kp hS => ?_)
    have hX : SPx D ci cj A F P g T H := hX.mv kp (fun j9 hj9 _ h9 => by have h9 : A j9 = a3 := h9; have := lq j9 hj9; omega)
    have hO9 : va_at D vwCl (A 0, .inr (1, [.ref (A 1), .ref (A 2), .ref (A 3), .ref (A 4), .int (g 7 0)])) H := kp.at hO9 (fun h9 => by have h9 : A 0 = a3 := h9; have := lq 0 sV0; omega)
    have hr1 : isR D cj.1 H a1 (P + 1) (fun j => if j < P then some (A (35 + j)) else none) := kp.at hr1 (fun h9 => by have h9 : a1 = a3 := h9; have := lq 0 sV0; omega)
    refine lv_dup hx hb dX1_addPerson_50 rfl ?_
    refine lv_iconst (v := nI 1) hx hb dX1_addPerson_51 (by decide) ?_
    refine lv_iconst (v := nI 0) hx hb dX1_addPerson_52 (by decide) ?_
    refine g_iast Fx hK hm3 0 rfl (Or.inr la3) hS (i := 1) (by decide) (by decide) dX1_addPerson_53 (fun H locs hm3 kp hS => ?_)
    have hX : SPx D ci cj A F P g T H := hX.mv kp (fun j9 hj9 _ h9 => by have h9 : A j9 = a3 := h9; have := lq j9 hj9; omega)
    have hO9 : va_at D vwCl (A 0, .inr (1, [.ref (A 1), .ref (A 2), .ref (A 3), .ref (A 4), .int (g 7 0)])) H := kp.at hO9 (fun h9 => by have h9 : A 0 = a3 := h9; have := lq 0 sV0; omega)
    have hr1 : isR D cj.1 H a1 (P + 1) (fun j => if j < P then some (A (35 + j)) else none) := kp.at hr1 (fun h9 => by have h9 : a1 = a3 := h9; have := lq 0 sV0; omega)
    refine lv_dup hx hb dX1_addPerson_54 rfl ?_
    refine lv_iconst (v := nI 2) hx hb dX1_addPerson_55 (by decide) ?_
    refine lv_iload_n hx hb dX1_addPerson_56 rfl (lv_at hl 1 rfl) ?_
    refine g_iast Fx hK hm3 0 rfl (Or.inr la3) hS (i := 2) (by decide) (by decide) dX1_addPerson_57 (fun H locs hm3 kp hS => ?_)
    have hX : SPx D ci cj A F P g T H := hX.mv kp (fun j9 hj9 _ h9 => by have h9 : A j9 = a3 := h9; have := lq j9 hj9; omega)
    have hO9 : va_at D vwCl (A 0, .inr (1, [.ref (A 1), .ref (A 2), .ref (A 3), .ref (A 4), .int (g 7 0)])) H := kp.at hO9 (fun h9 => by have h9 : A 0 = a3 := h9; have := lq 0 sV0; omega)
    have hr1 : isR D cj.1 H a1 (P + 1) (fun j => if j < P then some (A (35 + j)) else none) := kp.at hr1 (fun h9 => by have h9 : a1 = a3 := h9; have := lq 0 sV0; omega)
    refine lv_dup hx hb dX1_addPerson_58 rfl ?_
    refine lv_iconst (v := nI 3) hx hb dX1_addPerson_59 (by decide) ?_
    refine lv_iconst (v := nI 0) hx hb dX1_addPerson_60 (by decide) ?_
    refine g_iast Fx hK hm3 0 rfl (Or.inr la3) hS (i := 3) (by decide) (by decide) dX1_addPerson_61 (fun H locs hm3 kp hS => ?_)
    have hX : SPx D ci cj A F P g T H := hX.mv kp (fun j9 hj9 _ h9 => by have h9 : A j9 = a3 := h9; have := lq j9 hj9; omega)
    have hO9 : va_at D vwCl (A 0, .inr (1, [.ref (A 1), .ref (A 2), .ref (A 3), .ref (A 4), .int (g 7 0)])) H := kp.at hO9 (fun h9 => by have h9 : A 0 = a3 := h9; have := lq 0 sV0; omega)
    have hr1 : isR D cj.1 H a1 (P + 1) (fun j => if j < P then some (A (35 + j)) else none) := kp.at hr1 (fun h9 => by have h9 : a1 = a3 := h9; have := lq 0 sV0; omega)
    refine g_aast Fx hK hO.1 hr1 2 rfl 0 rfl (hK.2 0 _ rfl).2 hm3 (Or.inr la1) hS (i := P) (by omega) (by omega) dX1_addPerson_62 (fun H locs hr1 kp hS => ?_)
    have hm3 : isI D ci H a3 4 (upd (upd (upd (upd (fun _ => 0) 0 (nI 0)) 1 (nI 0)) 2 x) 3 (nI 0)) := kp.at hm3 (fun h9 => by have h9 : a3 = a1 := h9; have := lq 0 sV0; omega)
    have hX : SPx D ci cj A F P g T H := hX.mv kp (fun j9 hj9 _ h9 => by have h9 : A j9 = a1 := h9; have := lq j9 hj9; omega)
    have hO9 : va_at D vwCl (A 0, .inr (1, [.ref (A 1), .ref (A 2), .ref (A 3), .ref (A 4), .int (g 7 0)])) H := kp.at hO9 (fun h9 => by have h9 : A 0 = a1 := h9; have := lq 0 sV0; omega)
    have hr1 : isR D cj.1 H a1 (P + 1) (fun j => if j < P then some (A (35 + j)) else some a3) := hr1.cg (cq_e)
    refine lv_aload_n hx hb dX1_addPerson_63 rfl (lv_at hl 0 rfl) ?_
    refine lv_aload_n hx hb dX1_addPerson_64 rfl (lv_at hl 2 rfl) ?_
    refine g_put (ty := (.array (.array .int))) Fx hin tyX1 tyX1_ok nmX1 hK 1 hO9 (Or.inl rfl) hS rfl 3 (by decide) (by decide +kernel) rfl (by decide +kernel) rfl rfl (Nat.le_of_ble_eq_true rfl) dX1_addPerson_65 (fun H locs hO9 kp hS => ?_)
    have hm3 : isI D ci H a3 4 (upd (upd (upd (upd (fun _ => 0) 0 (nI 0)) 1 (nI 0)) 2 x) 3 (nI 0)) := kp.at hm3 (fun h9 => by have h9 : a3 = A 0 := h9; have := lq 0 sV0; omega)
    have hX : SPx D ci cj A F P g T H := hX.mv kp (fun j9 hj9 h0 h9 => h0 (hi j9 0 hj9 sV0 h9))
    have hr1 : isR D cj.1 H a1 (P + 1) (fun j => if j < P then some (A (35 + j)) else some a3) := kp.at hr1 (fun h9 => by have h9 : a1 = A 0 := h9; have := lq 0 sV0; omega)
    have hO9 : va_at D vwCl (A 0, .inr (1, [.ref (A 1), .ref (A 2), .ref (A 3), .ref a1, .int (g 7 0)])) H := hO9
    exact m_vret hx hb hr hlocks hS ⟨rfl, _, AP_o (by omega) (by omega), addP_AD hAD hF lq hsz9 hq9 la1 la3 l_a3_a1, T, addP_RT hR hP (fun f9 w9 hf9 hw9 => hI.2.2.2.1 f9 w9 P (by omega) hw9 (by omega) (Or.inr (Nat.le_refl _))) rfl, addP_SP hF hX hO9 hr1 (hm3.cg (rI_new h3 h4 h5)) rfl rfl rfl (fun p9 hp9 => rI_par (by omega))⟩ (by omega) (by omega) dX1_addPerson_68
  · intro i h4 h3 ih13 H locs ls hW hS hl
    have hl : lv_has ls 4 [(0, .ref (A 0)), (1, .int x), (2, .ref a1), (3, .int (nI i))] := hl
    obtain ⟨hX, hO9, hr1⟩ := hW
    have hX : SPx D ci cj A F P g T H := hX
    have hO9 : va_at D vwCl (A 0, .inr (1, [.ref (A 1), .ref (A 2), .ref (A 3), .ref (A 4), .int (g 7 0)])) H := hO9
    have hr1 : isR D cj.1 H a1 (P + 1) (fun j => if j < i then some (A (35 + j)) else none) := hr1
    refine lv_iload_n hx hb dX1_addPerson_13 rfl (lv_at hl 3 rfl) ?_
    refine lv_aload_n hx hb dX1_addPerson_14 rfl (lv_at hl 0 rfl) ?_
    refine g_get Fx hin hK 1 hO9 rfl 3 (by decide) (by decide +kernel) rfl dX1_addPerson_15 ?_
    refine g_alenR Fx hK hX.pe 2 rfl dX1_addPerson_18 ?_
    refine n_icmp_ge (tgt := 37) hx hb (by omega) (by omega) dX1_addPerson_19 (by decide) (fun h5 => by omega) (fun h5 => ?_)
    refine lv_aload_n hx hb dX1_addPerson_22 rfl (lv_at hl 2 rfl) ?_
    refine lv_iload_n hx hb dX1_addPerson_23 rfl (lv_at hl 3 rfl) ?_
    refine lv_aload_n hx hb dX1_addPerson_24 rfl (lv_at hl 0 rfl) ?_
    refine g_get Fx hin hK 1 hO9 rfl 3 (by decide) (by decide +kernel) rfl dX1_addPerson_25 ?_
    refine lv_iload_n hx hb dX1_addPerson_28 rfl (lv_at hl 3 rfl) ?_
    refine g_aald Fx hK hX.pe 2 rfl rfl (i := i) (by omega) (by omega) rfl dX1_addPerson_29 ?_
    refine g_aast Fx hK hO.1 hr1 2 rfl 0 rfl (hK.2 0 _ rfl).2 (hX.pp (k := i) (by omega)) (Or.inr la1) hS (i := i) (by omega) (by omega) dX1_addPerson_30 (fun H locs hr1 kp hS => ?_)
    have hX : SPx D ci cj A F P g T H := hX.mv kp (fun j9 hj9 _ h9 => by have h9 : A j9 = a1 := h9; have := lq j9 hj9; omega)
    have hO9 : va_at D vwCl (A 0, .inr (1, [.ref (A 1), .ref (A 2), .ref (A 3), .ref (A 4), .int (g 7 0)])) H := kp.at hO9 (fun h9 => by have h9 : A 0 = a1 := h9; have := lq 0 sV0; omega)
    have hr1 : isR D cj.1 H a1 (P + 1) (fun j => if j < i + 1 then some (A (35 + j)) else none) := hr1.cg (fun j _ => cq_s j)
    refine lv_iinc (v := nI (i + 1)) (lv' := [(3, .int (nI (i + 1))), (0, .ref (A 0)), (1, .int x), (2, .ref a1)]) hx hb dX1_addPerson_31 hl (k := 3) rfl (nI_inc _ 1) (by decide) rfl (fun ls hl => ?_)
    refine lv_goto (tgt := 13) hx hb dX1_addPerson_34 (by decide) ?_
    exact ih13 (trivial) _ _ _ (⟨hX, hO9, hr1⟩) hS (lv_sub hl [1, 2, 3, 0] rfl)
set_option maxHeartbeats 8000000 in
set_option maxRecDepth 100000 in
theorem m_X1_addFerry (l : Launch) {D : va_G} {ci cz : ClassId} {cj : ClassId × ClassId} {A : Nat → Nat} {F P : Nat} {g : Nat → Nat → Int32} (hz : Nat) {q : Nat → Nat} {sz : Nat} (hsz9 : sz ≤ hz) (hq9 : ∀ k, k < 8 → q k < hz) (hAD : AD q sz A F P) (hF : F ≤ 5) (hP : P ≤ 12) (x : Int32) (hg1 : g 1 F = 0) (hI : Iv F P g) : Met l yX1_addFerry wsX1_addFerry ({ frames := 1, cells := 8, slots := 300, locals := 23 } : Room) (va_Pc [.ref (A 0), .int x] (fun U => U.heap.size = hz ∧ BX D ci cz cj A F P g U)) (MQv (fun v H => v = none ∧ ∃ A', A' 0 = A 0 ∧ AD q sz A' (F + 1) P ∧ SS D ci cj A' (F + 1) P (gTol g F x) H) (fun a => a = A 0 ∨ hz ≤ a)) 8 300 (fun a => a = A 0 ∨ hz ≤ a) := by
  refine Met.ofM (cc := cX1_addFerry) (maxL := 8) (ret := none) (by decide) rfl (Nat.le_of_ble_eq_true rfl) ?_
  intro pg en s m bl mt cd ls Fx hr hlocks hB hl
  obtain ⟨hz9, ⟨T, hR, hQ⟩, hK, hO⟩ := hB
  have lq : ∀ j, sV F P j → A j < hz := fun j hj => by rw [← hz9]; exact hQ.lt hj
  have hi := hAD.1
  have hX := SPx.of hQ
  have hO9 := hQ.o
  have hl : lv_has ls 8 [(0, .ref (A 0)), (1, .int x)] := hl
  have Fx : CallFix pg m cd cX1_addFerry 8 s _ wsX1_addFerry RX1 := Fx
  have hx := Fx.1
  have hb := Fx.2.1
  have hin : ∀ w ∈ wsX10, w ∈ wsX1_addFerry := by decide +kernel
  have hS : va_S (fun a => a = A 0 ∨ hz ≤ a) s.heap s.heap [] := va_S.rf
  refine lv_aload_n hx hb dX1_addFerry_0 rfl (lv_at hl 0 rfl) ?_
  refine lv_aload_n hx hb dX1_addFerry_1 rfl (lv_at hl 0 rfl) ?_
  refine g_get Fx hin hK 1 hO9 rfl 0 (by decide) (by decide +kernel) rfl dX1_addFerry_2 ?_
  refine lv_iload_n hx hb dX1_addFerry_5 rfl (lv_at hl 1 rfl) ?_
  have hz8 := Nat.le_trans (Nat.le_of_eq hz9.symm) hS.1
  refine r_callMS (rest := [.ref (A 0)]) Fx (m_X1_more l (D := D) (ci := ci) (cz := cz) (cj := cj) _ (A 1) F (g 0) x (by omega)) (va_cwS 2 Fx.2.2.2.2 gX1_addFerry_X1_more rfl rfl rfl (by decide +kernel) ⟨Nat.le_of_ble_eq_true rfl, Nat.le_of_ble_eq_true rfl⟩) (fun U fr mk a h9 => ⟨h9.1, h9.2.1, va_K.moved (u := U) (U := U.calling fr mk a) (Vm.Alike.refl U.vm) h9.2.2⟩) (fun U hU hW => ⟨by rw [hU], by rw [hU]; exact hX.to, va_K.moved hW.alike hK⟩) rfl hl.1 rfl (Nat.le_of_ble_eq_true rfl) dX1_addFerry_6 ⟨Nat.le_of_ble_eq_true rfl, Nat.le_of_ble_eq_true rfl⟩ hS (fun q9 h9 => Or.inr (Nat.le_trans hz8 h9)) (fun v H locs hv kp hS => ?_)
  obtain ⟨a1, rfl, la1, hma1⟩ := hv
  have la1 : hz ≤ a1 := Nat.le_trans hz8 la1
  have hX : SPx D ci cj A F P g T H := hX.new kp
  have hO9 : va_at D vwCl (A 0, .inr (1, [.ref (A 1), .ref (A 2), .ref (A 3), .ref (A 4), .int (g 7 0)])) H := kp.new_at hO9
  refine g_put (ty := (.array .int)) Fx hin tyX1 tyX1_ok nmX1 hK 1 hO9 (Or.inl rfl) hS rfl 0 (by decide) (by decide +kernel) rfl (by decide +kernel) rfl rfl (Nat.le_of_ble_eq_true rfl) dX1_addFerry_9 (fun H locs hO9 kp hS => ?_)
  have hma1 : isI D ci H a1 (F + 1) (upd (g 0) F x) := kp.at hma1 (fun h9 => by have h9 : a1 = A 0 := h9; have := lq 0 sV0; omega)
  have hX : SPx D ci cj A F P g T H := hX.mv kp (fun j9 hj9 h0 h9 => h0 (hi j9 0 hj9 sV0 h9))
  have hO9 : va_at D vwCl (A 0, .inr (1, [.ref a1, .ref (A 2), .ref (A 3), .ref (A 4), .int (g 7 0)])) H := hO9
  refine lv_aload_n hx hb dX1_addFerry_12 rfl (lv_at hl 0 rfl) ?_
  refine lv_aload_n hx hb dX1_addFerry_13 rfl (lv_at hl 0 rfl) ?_
  refine g_get Fx hin hK 1 hO9 rfl 1 (by decide) (by decide +kernel) rfl dX1_addFerry_14 ?_
  refine lv_iconst (v := nI 0) hx hb dX1_addFerry_17 (by decide) ?_
  have hz8 := Nat.le_trans (Nat.le_of_eq hz9.symm) hS.1
  refine r_callMS (rest := [.ref (A 0)]) Fx (m_X1_more l (D := D) (ci := ci) (cz := cz) (cj := cj) _ (A 2) F (g 1) (nI 0) (by omega)) (va_cwS 2 Fx.2.2.2.2 gX1_addFerry_X1_more rfl rfl rfl (by decide +kernel) ⟨Nat.le_of_ble_eq_true rfl, Nat.le_of_ble_eq_true rfl⟩) (fun U fr mk a h9 => ⟨h9.1, h9.2.1, va_K.moved (u := U) (U := U.calling fr mk a) (Vm.Alike.refl U.vm) h9.2.2⟩) (fun U hU hW => ⟨by rw [hU], by rw [hU]; exact hX.ca, va_K.moved hW.alike hK⟩) rfl hl.1 rfl (Nat.le_of_ble_eq_true rfl) dX1_addFerry_18 ⟨Nat.le_of_ble_eq_true rfl, Nat.le_of_ble_eq_true rfl⟩ hS (fun q9 h9 => Or.inr (Nat.le_trans hz8 h9)) (fun v H locs hv kp hS => ?_)
  obtain ⟨a2, rfl, la2, hma2⟩ := hv
  have l_a2_a1 : a1 < a2 := Nat.lt_of_lt_of_le (va_at.lt hma1) la2
  have la2 : hz ≤ a2 := Nat.le_trans hz8 la2
  have hma1 : isI D ci H a1 (F + 1) (upd (g 0) F x) := kp.new_at hma1
  have hX : SPx D ci cj A F P g T H := hX.new kp
  have hO9 : va_at D vwCl (A 0, .inr (1, [.ref a1, .ref (A 2), .ref (A 3), .ref (A 4), .int (g 7 0)])) H := kp.new_at hO9
  refine g_put (ty := (.array .int)) Fx hin tyX1 tyX1_ok nmX1 hK 1 hO9 (Or.inl rfl) hS rfl 1 (by decide) (by decide +kernel) rfl (by decide +kernel) rfl rfl (Nat.le_of_ble_eq_true rfl) dX1_addFerry_21 (fun H locs hO9 kp hS => ?_)
  have hma1 : isI D ci H a1 (F + 1) (upd (g 0) F x) := kp.at hma1 (fun h9 => by have h9 : a1 = A 0 := h9; have := lq 0 sV0; omega)
  have hma2 : isI D ci H a2 (F + 1) (upd (g 1) F (nI 0)) := kp.at hma2 (fun h9 => by have h9 : a2 = A 0 := h9; have := lq 0 sV0; omega)
  have hX : SPx D ci cj A F P g T H := hX.mv kp (fun j9 hj9 h0 h9 => h0 (hi j9 0 hj9 sV0 h9))
  have hO9 : va_at D vwCl (A 0, .inr (1, [.ref a1, .ref a2, .ref (A 3), .ref (A 4), .int (g 7 0)])) H := hO9
  refine lv_aload_n hx hb dX1_addFerry_24 rfl (lv_at hl 0 rfl) ?_
  refine g_get Fx hin hK 1 hO9 rfl 2 (by decide) (by decide +kernel) rfl dX1_addFerry_25 ?_
  refine g_alenR Fx hK hX.sh 3 rfl dX1_addFerry_28 ?_
  refine lv_iconst (v := nI 1) hx hb dX1_addFerry_29 (by decide) ?_
  refine r_iadd_n hx hb dX1_addFerry_30 ?_
  have hz8 := Nat.le_trans (Nat.le_of_eq hz9.symm) hS.1
  refine g_newq (nm := "[[I") Fx hK 3 rfl (by decide) (by decide +kernel) hO.2 hS (by omega) (by show _ ≤ 8; omega) (by show _ ≤ 300; omega) dX1_addFerry_31 (fun a3 H ea hr3 kp hsz hS => ?_)
  have l_a3_a1 : a1 < a3 := by rw [ea]; exact va_at.lt hma1
  have l_a3_a2 : a2 < a3 := by rw [ea]; exact va_at.lt hma2
  have la3 : hz ≤ a3 := by rw [ea]; exact hz8
  have hma1 : isI D ci H a1 (F + 1) (upd (g 0) F x) := kp.at hma1 (fun h9 => h9.elim)
  have hma2 : isI D ci H a2 (F + 1) (upd (g 1) F (nI 0)) := kp.at hma2 (fun h9 => h9.elim)
  have hX : SPx D ci cj A F P g T H := hX.mv kp (fun _ _ _ h9 => h9.elim)
  have hO9 : va_at D vwCl (A 0, .inr (1, [.ref a1, .ref a2, .ref (A 3), .ref (A 4), .int (g 7 0)])) H := kp.at hO9 (fun h9 => h9.elim)
  refine lv_astore_n (lv' := [(2, .ref a3), (0, .ref (A 0)), (1, .int x)]) hx hb dX1_addFerry_34 rfl hl (by decide) rfl (fun ls hl => ?_)
  refine lv_iconst (v := nI 0) hx hb dX1_addFerry_35 (by decide) ?_
  refine lv_istore_n (lv' := [(3, .int (nI 0)), (2, .ref a3), (0, .ref (A 0)), (1, .int x)]) hx hb dX1_addFerry_36 rfl hl (by decide) rfl (fun ls hl => ?_)
  refine wloop (nL := 8) (N := F) (fun _ => True) (fun i => [(0, .ref (A 0)), (1, .int x), (2, .ref a3), (3, .int (nI i))]) (fun i H => isI D ci H a1 (F + 1) (upd (g 0) F x) ∧ isI D ci H a2 (F + 1) (upd (g 1) F (nI 0)) ∧ SPx D ci cj A F P g T H ∧ va_at D vwCl (A 0, .inr (1, [.ref a1, .ref a2, .ref (A 3), .ref (A 4), .int (g 7 0)])) H ∧ isR D cj.2 H a3 (F + 1) (fun j => if j < i then some (A (5 + j)) else none)) (trivial) (⟨hma1, hma2, hX, hO9, hr3.cg (fun j _ => (if_neg (Nat.not_lt_zero _)).symm)⟩) hS (lv_sub hl [2, 3, 1, 0] rfl) ?_ ?_
  · intro h1 H locs ls hW hS hl
    have hl : lv_has ls 8 [(0, .ref (A 0)), (1, .int x), (2, .ref a3), (3, .int (nI F))] := hl
    obtain ⟨hma1, hma2, hX, hO9, hr3⟩ := hW
    have hma1 : isI D ci H a1 (F + 1) (upd (g 0) F x) := hma1
    have hma2 : isI D ci H a2 (F + 1) (upd (g 1) F (nI 0)) := hma2
    have hX : SPx D ci cj A F P g T H := hX
    have hO9 : va_at D vwCl (A 0, .inr (1, [.ref a1, .ref a2, .ref (A 3), .ref (A 4), .int (g 7 0)])) H := hO9
    have hr3 : isR D cj.2 H a3 (F + 1) (fun j => if j < F then some (A (5 + j)) else none) := hr3
    refine lv_iload_n hx hb dX1_addFerry_37 rfl (lv_at hl 3 rfl) ?_
    refine lv_aload_n hx hb dX1_addFerry_38 rfl (lv_at hl 0 rfl) ?_
    refine g_get Fx hin hK 1 hO9 rfl 2 (by decide) (by decide +kernel) rfl dX1_addFerry_39 ?_
    refine g_alenR Fx hK hX.sh 3 rfl dX1_addFerry_42 ?_
    refine n_icmp_ge (tgt := 61) hx hb (by omega) (by omega) dX1_addFerry_43 (by decide) (fun h2 => ?_) (fun h2 => by omega)
    refine lv_aload_n hx hb dX1_addFerry_61 rfl (lv_at hl 2 rfl) ?_
    refine lv_aload_n hx hb dX1_addFerry_62 rfl (lv_at hl 0 rfl) ?_
    refine g_get Fx hin hK 1 hO9 rfl 2 (by decide) (by decide +kernel) rfl dX1_addFerry_63 ?_
    refine g_alenR Fx hK hX.sh 3 rfl dX1_addFerry_66 ?_
    refine lv_iconst (v := nI 4) hx hb dX1_addFerry_67 (by decide) ?_
    refine lv_bipush (v := nI 64) hx hb dX1_addFerry_68 (by decide) ?_
    have hz8 := Nat.le_trans (Nat.le_of_eq hz9.symm) hS.1
    refine g_mna (N := 4) (M := 64) Fx hK 2 rfl 0 rfl (by decide +kernel) (by decide +kernel) hO.1 hS (by decide) (by decide) (by show _ ≤ 8; omega) (by show _ ≤ 300; omega) dX1_addFerry_70 (fun a4 H ea hr4 hrw kp hsz hS => ?_)
    have la4 : hz ≤ a4 := by rw [ea]; exact hz8
    have l_a4_a3 : a3 < a4 := by rw [ea]; exact va_at.lt hr3
    have hma1 : isI D ci H a1 (F + 1) (upd (g 0) F x) := kp.at hma1 (fun h9 => h9.elim)
    have hma2 : isI D ci H a2 (F + 1) (upd (g 1) F (nI 0)) := kp.at hma2 (fun h9 => h9.elim)
    have hX : SPx D ci cj A F P g T H := hX.mv kp (fun _ _ _ h9 => h9.elim)
    have hO9 : va_at D vwCl (A 0, .inr (1, [.ref a1, .ref a2, .ref (A 3), .ref (A 4), .int (g 7 0)])) H := kp.at hO9 (fun h9 => h9.elim)
    have hr3 : isR D cj.2 H a3 (F + 1) (fun j => if j < F then some (A (5 + j)) else none) := kp.at hr3 (fun h9 => h9.elim)
    have hr4 : isR D cj.1 H a4 4 (fun i => some (a4 + 1 + i)) := hr4.cg (fun j hj => if_pos hj)
    have hrw : ∀ w, w < 4 → isI D ci H (a4 + 1 + w) 64 (rwF 0 0 w) := fun w hw => (hrw w hw).cg (fun z _ => (rwF_0 w z).symm)
    refine g_aast Fx hK hO.2 hr3 3 rfl 2 rfl (hK.2 2 _ rfl).2 hr4 (Or.inr la3) hS (i := F) (by omega) (by omega) dX1_addFerry_74 (fun H locs hr3 kp hS => ?_)
    have hma1 : isI D ci H a1 (F + 1) (upd (g 0) F x) := kp.at hma1 (fun h9 => by have h9 : a1 = a3 := h9; have := lq 0 sV0; omega)
    have hma2 : isI D ci H a2 (F + 1) (upd (g 1) F (nI 0)) := kp.at hma2 (fun h9 => by have h9 : a2 = a3 := h9; have := lq 0 sV0; omega)
    have hX : SPx D ci cj A F P g T H := hX.mv kp (fun j9 hj9 _ h9 => by have h9 : A j9 = a3 := h9; have := lq j9 hj9; omega)
    have hO9 : va_at D vwCl (A 0, .inr (1, [.ref a1, .ref a2, .ref (A 3), .ref (A 4), .int (g 7 0)])) H := kp.at hO9 (fun h9 => by have h9 : A 0 = a3 := h9; have := lq 0 sV0; omega)
    have hr4 : isR D cj.1 H a4 4 (fun i => some (a4 + 1 + i)) := kp.at hr4 (fun h9 => by have h9 : a4 = a3 := h9; have := lq 0 sV0; omega)
    have hrw : ∀ w, w < 4 → isI D ci H (a4 + 1 + w) 64 (rwF 0 0 w) := fun w hw => kp.at (hrw w hw) (fun h9 => by have h9 : a4 + 1 + w = a3 := h9; have := lq 0 sV0; omega)
    have hr3 : isR D cj.2 H a3 (F + 1) (fun j => if j < F then some (A (5 + j)) else some a4) := hr3.cg (cq_e)
    refine lv_aload_n hx hb dX1_addFerry_75 rfl (lv_at hl 2 rfl) ?_
    refine lv_aload_n hx hb dX1_addFerry_76 rfl (lv_at hl 0 rfl) ?_
    refine g_get Fx hin hK 1 hO9 rfl 2 (by decide) (by decide +kernel) rfl dX1_addFerry_77 ?_
    refine g_alenR Fx hK hX.sh 3 rfl dX1_addFerry_80 ?_
    refine g_aald Fx hK hr3 3 rfl rfl (i := F) (by omega) (by omega) (if_neg (Nat.lt_irrefl _)) dX1_addFerry_81 ?_
    refine lv_astore_n (lv' := [(3, .ref a4), (0, .ref (A 0)), (1, .int x), (2, .ref a3)]) hx hb dX1_addFerry_82 rfl hl (by decide) rfl (fun ls hl => ?_)
    refine lv_aload_n hx hb dX1_addFerry_83 rfl (lv_at hl 0 rfl) ?_
    refine g_alenR Fx hK hr4 2 rfl dX1_addFerry_84 ?_
    refine lv_istore (lv' := [(4, .int (nI 4)), (3, .ref a4), (0, .ref (A 0)), (1, .int x), (2, .ref a3)]) hx hb dX1_addFerry_85 hl (by decide) rfl (fun ls hl => ?_)
    refine lv_iconst (v := nI 0) hx hb dX1_addFerry_87 (by decide) ?_
    refine lv_istore (lv' := [(5, .int (nI 0)), (4, .int (nI 4)), (3, .ref a4), (0, .ref (A 0)), (1, .int x), (2, .ref a3)]) hx hb dX1_addFerry_88 hl (by decide) rfl (fun ls hl => ?_)
    refine wloop (nL := 8) (N := 4) (fun _ => True) (fun i => [(0, .ref (A 0)), (1, .int x), (2, .ref a3), (3, .ref a4), (4, .int (nI 4)), (5, .int (nI i))]) (fun i H => isI D ci H a1 (F + 1) (upd (g 0) F x) ∧ isI D ci H a2 (F + 1) (upd (g 1) F (nI 0)) ∧ SPx D ci cj A F P g T H ∧ va_at D vwCl (A 0, .inr (1, [.ref a1, .ref a2, .ref (A 3), .ref (A 4), .int (g 7 0)])) H ∧ isR D cj.2 H a3 (F + 1) (fun j => if j < F then some (A (5 + j)) else some a4) ∧ isR D cj.1 H a4 4 (fun i => some (a4 + 1 + i)) ∧ ∀ w, w < 4 → isI D ci H (a4 + 1 + w) 64 (rwF i 0 w)) (trivial) (⟨hma1, hma2, hX, hO9, hr3, hr4, hrw⟩) hS (lv_sub hl [3, 4, 5, 2, 1, 0] rfl) ?_ ?_
    · intro h3 H locs ls hW hS hl
      have hl : lv_has ls 8 [(0, .ref (A 0)), (1, .int x), (2, .ref a3), (3, .ref a4), (4, .int (nI 4)), (5, .int (nI 4))] := hl
      obtain ⟨hma1, hma2, hX, hO9, hr3, hr4, hrw⟩ := hW
      have hma1 : isI D ci H a1 (F + 1) (upd (g 0) F x) := hma1
      have hma2 : isI D ci H a2 (F + 1) (upd (g 1) F (nI 0)) := hma2
      have hX : SPx D ci cj A F P g T H := hX
      have hO9 : va_at D vwCl (A 0, .inr (1, [.ref a1, .ref a2, .ref (A 3), .ref (A 4), .int (g 7 0)])) H := hO9
      have hr3 : isR D cj.2 H a3 (F + 1) (fun j => if j < F then some (A (5 + j)) else some a4) := hr3
      have hr4 : isR D cj.1 H a4 4 (fun i => some (a4 + 1 + i)) := hr4
      have hrw : ∀ w, w < 4 → isI D ci H (a4 + 1 + w) 64 (rwF 4 0 w) := hrw
      refine lv_iload hx hb dX1_addFerry_90 (lv_at hl 5 rfl) ?_
      refine lv_iload hx hb dX1_addFerry_92 (lv_at hl 4 rfl) ?_
      refine n_icmp_ge (tgt := 131) hx hb (by omega) (by omega) dX1_addFerry_94 (by decide) (fun h4 => ?_) (fun h4 => by omega)
      refine lv_aload_n hx hb dX1_addFerry_131 rfl (lv_at hl 0 rfl) ?_
      refine lv_aload_n hx hb dX1_addFerry_132 rfl (lv_at hl 2 rfl) ?_
      refine g_put (ty := (.array (.array (.array .int)))) Fx hin tyX1 tyX1_ok nmX1 hK 1 hO9 (Or.inl rfl) hS rfl 2 (by decide) (by decide +kernel) rfl (by decide +kernel) rfl rfl (Nat.le_of_ble_eq_true rfl) dX1_addFerry_133 (fun H locs hO9 kp hS => ?_)
      have hma1 : isI D ci H a1 (F + 1) (upd (g 0) F x) := kp.at hma1 (fun h9 => by have h9 : a1 = A 0 := h9; have := lq 0 sV0; omega)
      have hma2 : isI D ci H a2 (F + 1) (upd (g 1) F (nI 0)) := kp.at hma2 (fun h9 => by have h9 : a2 = A 0 := h9; have := lq 0 sV0; omega)
      have hX : SPx D ci cj A F P g T H := hX.mv kp (fun j9 hj9 h0 h9 => h0 (hi j9 0 hj9 sV0 h9))
      have hr3 : isR D cj.2 H a3 (F + 1) (fun j => if j < F then some (A (5 + j)) else some a4) := kp.at hr3 (fun h9 => by have h9 : a3 = A 0 := h9; have := lq 0 sV0; omega)
      have hr4 : isR D cj.1 H a4 4 (fun i => some (a4 + 1 + i)) := kp.at hr4 (fun h9 => by have h9 : a4 = A 0 := h9; have := lq 0 sV0; omega)
      have hrw : ∀ w, w < 4 → isI D ci H (a4 + 1 + w) 64 (rwF 4 0 w) := fun w hw => kp.at (hrw w hw) (fun h9 => by have h9 : a4 + 1 + w = A 0 := h9; have := lq 0 sV0; omega)
      have hO9 : va_at D vwCl (A 0, .inr (1, [.ref a1, .ref a2, .ref a3, .ref (A 4), .int (g 7 0)])) H := hO9
      exact m_vret hx hb hr hlocks hS ⟨rfl, _, AF_o (by omega) (by omega) (by omega) (by omega) (by omega), addF_AD hAD hF lq hsz9 hq9 la1 l_a2_a1 (by omega) l_a4_a3, _, addF_RT hR hP (fun w9 p9 hw9 hp9 => hI.2.2.2.1 F w9 p9 (by omega) hw9 (by omega) (Or.inl (Nat.le_refl _))) rfl, addF_SP hF hP hX hO9 hma1 (hma2.cg (upd_0 hg1)) hr3 hr4 (fun w hw => (hrw w hw).cg (fun z _ => rwF_e hw)) rfl (fun _ _ => rfl)⟩ (by omega) (by omega) dX1_addFerry_136
    · intro i h6 h5 ih90 H locs ls hW hS hl
      have hl : lv_has ls 8 [(0, .ref (A 0)), (1, .int x), (2, .ref a3), (3, .ref a4), (4, .int (nI 4)), (5, .int (nI i))] := hl
      obtain ⟨hma1, hma2, hX, hO9, hr3, hr4, hrw⟩ := hW
      have hma1 : isI D ci H a1 (F + 1) (upd (g 0) F x) := hma1
      have hma2 : isI D ci H a2 (F + 1) (upd (g 1) F (nI 0)) := hma2
      have hX : SPx D ci cj A F P g T H := hX
      have hO9 : va_at D vwCl (A 0, .inr (1, [.ref a1, .ref a2, .ref (A 3), .ref (A 4), .int (g 7 0)])) H := hO9
      have hr3 : isR D cj.2 H a3 (F + 1) (fun j => if j < F then some (A (5 + j)) else some a4) := hr3
      have hr4 : isR D cj.1 H a4 4 (fun i => some (a4 + 1 + i)) := hr4
      have hrw : ∀ w, w < 4 → isI D ci H (a4 + 1 + w) 64 (rwF i 0 w) := hrw
      refine lv_iload hx hb dX1_addFerry_90 (lv_at hl 5 rfl) ?_
      refine lv_iload hx hb dX1_addFerry_92 (lv_at hl 4 rfl) ?_
      refine n_icmp_ge (tgt := 131) hx hb (by omega) (by omega) dX1_addFerry_94 (by decide) (fun h7 => by omega) (fun h7 => ?_)
      refine lv_aload_n hx hb dX1_addFerry_97 rfl (lv_at hl 3 rfl) ?_
      refine lv_iload hx hb dX1_addFerry_98 (lv_at hl 5 rfl) ?_
      refine g_aald Fx hK hr4 2 rfl rfl (i := i) (by omega) (by decide) rfl dX1_addFerry_100 ?_
      refine lv_astore (lv' := [(6, .ref (a4 + 1 + i)), (0, .ref (A 0)), (1, .int x), (2, .ref a3), (3, .ref a4), (4, .int (nI 4)), (5, .int (nI i))]) hx hb dX1_addFerry_101 hl (by decide) rfl (fun ls hl => ?_)
      refine lv_iconst (v := nI 0) hx hb dX1_addFerry_103 (by decide) ?_
      refine lv_istore (lv' := [(7, .int (nI 0)), (6, .ref (a4 + 1 + i)), (0, .ref (A 0)), (1, .int x), (2, .ref a3), (3, .ref a4), (4, .int (nI 4)), (5, .int (nI i))]) hx hb dX1_addFerry_104 hl (by decide) rfl (fun ls hl => ?_)
      refine wloop (nL := 8) (N := 64) (fun _ => True) (fun i' => [(0, .ref (A 0)), (1, .int x), (2, .ref a3), (3, .ref a4), (4, .int (nI 4)), (5, .int (nI i)), (6, .ref (a4 + 1 + i)), (7, .int (nI i'))]) (fun i' H => isI D ci H a1 (F + 1) (upd (g 0) F x) ∧ isI D ci H a2 (F + 1) (upd (g 1) F (nI 0)) ∧ SPx D ci cj A F P g T H ∧ va_at D vwCl (A 0, .inr (1, [.ref a1, .ref a2, .ref (A 3), .ref (A 4), .int (g 7 0)])) H ∧ isR D cj.2 H a3 (F + 1) (fun j => if j < F then some (A (5 + j)) else some a4) ∧ isR D cj.1 H a4 4 (fun i => some (a4 + 1 + i)) ∧ ∀ w, w < 4 → isI D ci H (a4 + 1 + w) 64 (rwF i i' w)) (trivial) (⟨hma1, hma2, hX, hO9, hr3, hr4, hrw⟩) hS (lv_sub hl [2, 3, 4, 5, 6, 7, 1, 0] rfl) ?_ ?_
      · intro h8 H locs ls hW hS hl
        have hl : lv_has ls 8 [(0, .ref (A 0)), (1, .int x), (2, .ref a3), (3, .ref a4), (4, .int (nI 4)), (5, .int (nI i)), (6, .ref (a4 + 1 + i)), (7, .int (nI 64))] := hl
        obtain ⟨hma1, hma2, hX, hO9, hr3, hr4, hrw⟩ := hW
        have hma1 : isI D ci H a1 (F + 1) (upd (g 0) F x) := hma1
        have hma2 : isI D ci H a2 (F + 1) (upd (g 1) F (nI 0)) := hma2
        have hX : SPx D ci cj A F P g T H := hX
        have hO9 : va_at D vwCl (A 0, .inr (1, [.ref a1, .ref a2, .ref (A 3), .ref (A 4), .int (g 7 0)])) H := hO9
        have hr3 : isR D cj.2 H a3 (F + 1) (fun j => if j < F then some (A (5 + j)) else some a4) := hr3
        have hr4 : isR D cj.1 H a4 4 (fun i => some (a4 + 1 + i)) := hr4
        have hrw : ∀ w, w < 4 → isI D ci H (a4 + 1 + w) 64 (rwF i 64 w) := hrw
        refine lv_iload hx hb dX1_addFerry_106 (lv_at hl 7 rfl) ?_
        refine lv_bipush (v := nI 64) hx hb dX1_addFerry_108 (by decide) ?_
        refine n_icmp_ge (tgt := 125) hx hb (by omega) (by omega) dX1_addFerry_110 (by decide) (fun h9 => ?_) (fun h9 => by omega)
        refine lv_iinc (v := nI (i + 1)) (lv' := [(5, .int (nI (i + 1))), (0, .ref (A 0)), (1, .int x), (2, .ref a3), (3, .ref a4), (4, .int (nI 4)), (6, .ref (a4 + 1 + i)), (7, .int (nI 64))]) hx hb dX1_addFerry_125 hl (k := 5) rfl (nI_inc _ 1) (by decide) rfl (fun ls hl => ?_)
        refine lv_goto (tgt := 90) hx hb dX1_addFerry_128 (by decide) ?_
        exact ih90 (trivial) _ _ _ (⟨hma1, hma2, hX, hO9, hr3, hr4, fun w hw => (hrw w hw).cg (fun z hz9 => rwF_n hz9)⟩) hS (lv_sub hl [1, 2, 3, 4, 5, 0] rfl)
      · intro i' h11 h10 ih106 H locs ls hW hS hl
        have hl : lv_has ls 8 [(0, .ref (A 0)), (1, .int x), (2, .ref a3), (3, .ref a4), (4, .int (nI 4)), (5, .int (nI i)), (6, .ref (a4 + 1 + i)), (7, .int (nI i'))] := hl
        obtain ⟨hma1, hma2, hX, hO9, hr3, hr4, hrw⟩ := hW
        have hma1 : isI D ci H a1 (F + 1) (upd (g 0) F x) := hma1
        have hma2 : isI D ci H a2 (F + 1) (upd (g 1) F (nI 0)) := hma2
        have hX : SPx D ci cj A F P g T H := hX
        have hO9 : va_at D vwCl (A 0, .inr (1, [.ref a1, .ref a2, .ref (A 3), .ref (A 4), .int (g 7 0)])) H := hO9
        have hr3 : isR D cj.2 H a3 (F + 1) (fun j => if j < F then some (A (5 + j)) else some a4) := hr3
        have hr4 : isR D cj.1 H a4 4 (fun i => some (a4 + 1 + i)) := hr4
        have hrw : ∀ w, w < 4 → isI D ci H (a4 + 1 + w) 64 (rwF i i' w) := hrw
        refine lv_iload hx hb dX1_addFerry_106 (lv_at hl 7 rfl) ?_
        refine lv_bipush (v := nI 64) hx hb dX1_addFerry_108 (by decide) ?_
        refine n_icmp_ge (tgt := 125) hx hb (by omega) (by omega) dX1_addFerry_110 (by decide) (fun h12 => by omega) (fun h12 => ?_)
        refine lv_aload hx hb dX1_addFerry_113 (lv_at hl 6 rfl) ?_
        refine lv_iload hx hb dX1_addFerry_115 (lv_at hl 7 rfl) ?_
        refine lv_iconst (v := -1) hx hb dX1_addFerry_117 (by decide) ?_
        refine g_iast Fx hK (hrw i (by omega)) 0 rfl (Or.inr (by omega)) hS (i := i') (by omega) (by decide) dX1_addFerry_118 (fun H locs he9 kp hS => ?_)
        have hma1 : isI D ci H a1 (F + 1) (upd (g 0) F x) := kp.at hma1 (fun h9 => by have h9 : a1 = (a4 + 1 + i) := h9; have := lq 0 sV0; omega)
        have hma2 : isI D ci H a2 (F + 1) (upd (g 1) F (nI 0)) := kp.at hma2 (fun h9 => by have h9 : a2 = (a4 + 1 + i) := h9; have := lq 0 sV0; omega)
        have hX : SPx D ci cj A F P g T H := hX.mv kp (fun j9 hj9 _ h9 => by have h9 : A j9 = (a4 + 1 + i) := h9; have := lq j9 hj9; omega)
        have hO9 : va_at D vwCl (A 0, .inr (1, [.ref a1, .ref a2, .ref (A 3), .ref (A 4), .int (g 7 0)])) H := kp.at hO9 (fun h9 => by have h9 : A 0 = (a4 + 1 + i) := h9; have := lq 0 sV0; omega)
        have hr3 : isR D cj.2 H a3 (F + 1) (fun j => if j < F then some (A (5 + j)) else some a4) := kp.at hr3 (fun h9 => by have h9 : a3 = (a4 + 1 + i) := h9; have := lq 0 sV0; omega)
        have hr4 : isR D cj.1 H a4 4 (fun i => some (a4 + 1 + i)) := kp.at hr4 (fun h9 => by have h9 : a4 = (a4 + 1 + i) := h9; have := lq 0 sV0; omega)
        have hrw : ∀ w, w < 4 → isI D ci H (a4 + 1 + w) 64 (rwF i (i' + 1) w) := fun w hw => by
          by_cases e9 : w = i
          · subst e9; exact he9.cg (fun z _ => rwF_s z)
          · exact (isI.cg (kp.at (hrw w hw) (fun h9 => by have h9 : a4 + 1 + w = a4 + 1 + i := h9; omega) ) (fun z _ => rwF_o e9 z))
        refine lv_iinc (v := nI (i' + 1)) (lv' := [(7, .int (nI (i' + 1))), (0, .ref (A 0)), (1, .int x), (2, .ref a3), (3, .ref a4), (4, .int (nI 4)), (5, .int (nI i)), (6, .ref (a4 + 1 + i))]) hx hb dX1_addFerry_119 hl (k := 7) rfl (nI_inc _ 1) (by decide) rfl (fun ls hl => ?_)
        refine lv_goto (tgt := 106) hx hb dX1_addFerry_122 (by decide) ?_
        exact ih106 (trivial) _ _ _ (⟨hma1, hma2, hX, hO9, hr3, hr4, hrw⟩) hS (lv_sub hl [1, 2, 3, 4, 5, 6, 7, 0] rfl)
  · intro i h14 h13 ih37 H locs ls hW hS hl
    have hl : lv_has ls 8 [(0, .ref (A 0)), (1, .int x), (2, .ref a3), (3, .int (nI i))] := hl
    obtain ⟨hma1, hma2, hX, hO9, hr3⟩ := hW
    have hma1 : isI D ci H a1 (F + 1) (upd (g 0) F x) := hma1
    have hma2 : isI D ci H a2 (F + 1) (upd (g 1) F (nI 0)) := hma2
    have hX : SPx D ci cj A F P g T H := hX
    have hO9 : va_at D vwCl (A 0, .inr (1, [.ref a1, .ref a2, .ref (A 3), .ref (A 4), .int (g 7 0)])) H := hO9
    have hr3 : isR D cj.2 H a3 (F + 1) (fun j => if j < i then some (A (5 + j)) else none) := hr3
    refine lv_iload_n hx hb dX1_addFerry_37 rfl (lv_at hl 3 rfl) ?_
    refine lv_aload_n hx hb dX1_addFerry_38 rfl (lv_at hl 0 rfl) ?_
    refine g_get Fx hin hK 1 hO9 rfl 2 (by decide) (by decide +kernel) rfl dX1_addFerry_39 ?_
    refine g_alenR Fx hK hX.sh 3 rfl dX1_addFerry_42 ?_
    refine n_icmp_ge (tgt := 61) hx hb (by omega) (by omega) dX1_addFerry_43 (by decide) (fun h15 => by omega) (fun h15 => ?_)
    refine lv_aload_n hx hb dX1_addFerry_46 rfl (lv_at hl 2 rfl) ?_
    refine lv_iload_n hx hb dX1_addFerry_47 rfl (lv_at hl 3 rfl) ?_
    refine lv_aload_n hx hb dX1_addFerry_48 rfl (lv_at hl 0 rfl) ?_
    refine g_get Fx hin hK 1 hO9 rfl 2 (by decide) (by decide +kernel) rfl dX1_addFerry_49 ?_
    refine lv_iload_n hx hb dX1_addFerry_52 rfl (lv_at hl 3 rfl) ?_
    refine g_aald Fx hK hX.sh 3 rfl rfl (i := i) (by omega) (by omega) rfl dX1_addFerry_53 ?_
    refine g_aast Fx hK hO.2 hr3 3 rfl 2 rfl (hK.2 2 _ rfl).2 (hX.fr (f := i) (by omega) (by omega)) (Or.inr la3) hS (i := i) (by omega) (by omega) dX1_addFerry_54 (fun H locs hr3 kp hS => ?_)
    have hma1 : isI D ci H a1 (F + 1) (upd (g 0) F x) := kp.at hma1 (fun h9 => by have h9 : a1 = a3 := h9; have := lq 0 sV0; omega)
    have hma2 : isI D ci H a2 (F + 1) (upd (g 1) F (nI 0)) := kp.at hma2 (fun h9 => by have h9 : a2 = a3 := h9; have := lq 0 sV0; omega)
    have hX : SPx D ci cj A F P g T H := hX.mv kp (fun j9 hj9 _ h9 => by have h9 : A j9 = a3 := h9; have := lq j9 hj9; omega)
    have hO9 : va_at D vwCl (A 0, .inr (1, [.ref a1, .ref a2, .ref (A 3), .ref (A 4), .int (g 7 0)])) H := kp.at hO9 (fun h9 => by have h9 : A 0 = a3 := h9; have := lq 0 sV0; omega)
    have hr3 : isR D cj.2 H a3 (F + 1) (fun j => if j < i + 1 then some (A (5 + j)) else none) := hr3.cg (fun j _ => cq_s j)
    refine lv_iinc (v := nI (i + 1)) (lv' := [(3, .int (nI (i + 1))), (0, .ref (A 0)), (1, .int x), (2, .ref a3)]) hx hb dX1_addFerry_55 hl (k := 3) rfl (nI_inc _ 1) (by decide) rfl (fun ls hl => ?_)
    refine lv_goto (tgt := 37) hx hb dX1_addFerry_58 (by decide) ?_
    exact ih37 (trivial) _ _ _ (⟨hma1, hma2, hX, hO9, hr3⟩) hS (lv_sub hl [1, 2, 3, 0] rfl)
end SIMD
