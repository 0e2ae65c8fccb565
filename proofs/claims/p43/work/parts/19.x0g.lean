/-! FerryRights, VII: a new one -/
set_option maxHeartbeats 4000000 in
set_option maxRecDepth 100000 in
theorem m_X0_init (l : Launch) {D : va_G} {ci cz : ClassId} {cj : ClassId × ClassId} (h0 sz : Nat) : Met l yX0_init wsX0_init ({ frames := 1, cells := 7, slots := 348, locals := 16 } : Room) (va_Pc [.ref h0] (fun U => U.heap.size = sz ∧ va_P D vwCl [(h0, .inr (0, [.int 0, .null, .null, .null, .int 0, .null, .null, .null, .null, .int 0]))] U.heap ∧ va_K D vwCl (tyL ci cz cj) U)) (va_Qv (fun q : Nat → Nat => q 0 = h0 ∧ DQ q 8 ∧ ∀ k, 1 ≤ k → k < 8 → sz ≤ q k) (fun q t => va_P D vwCl (w0 ci cz q 0 0 (fun _ _ => 0)) t.heap) (fun a => a = h0 ∨ sz ≤ a)) 7 348 (fun a => a = h0 ∨ sz ≤ a) := by
  refine Met.ofW (cc := cX0_init) (maxL := 1) (ret := none) (by decide) rfl ?_
  intro p e s m args below meth c s₁ B hml hv
  obtain ⟨rfl, hsz, hP, hK⟩ := hv
  have hx := B.exec
  have hb := B.bytes
  have hr := B.returns
  have hts := atoms_spec (ws := wsX0_init) B.pre
  have hown : s.vm.findClass RX0 = some m.cls := findClass_of_methodNamed B.named
  have hlocks := B.notSynchronized
  have hin2 : meth.name = "<init>" := (name_of_methodNamed B.named B.method).1
  subst hsz
  obtain ⟨sz, hsz⟩ : ∃ sz, sz = s.heap.size := ⟨_, rfl⟩
  rw [← hsz]
  have hin : ∀ w ∈ wsX00, w ∈ wsX0_init := by decide +kernel
  have hA : ∀ q : Nat, s.heap.size ≤ q → (fun a => a = h0 ∨ sz ≤ a) q := fun q h => Or.inr (by rw [hsz]; exact h)
  have hS : va_S (fun a => a = h0 ∨ sz ≤ a) s.heap s.heap [] := va_S.rf
  have hD : va_D (fun a => a = h0 ∨ sz ≤ a) [(h0, (.inr (0, [.int 0, .null, .null, .null, .int 0, .null, .null, .null, .null, .int 0]) : va_E))] := ⟨fun i j x y hi hj _ => by
    have h1 := (List.getElem?_eq_some_iff.mp hi).1
    have h2 := (List.getElem?_eq_some_iff.mp hj).1
    simp at h1 h2
    omega, fun k x hk => by
    have h1 := (List.getElem?_eq_some_iff.mp hk).1
    simp at h1
    subst h1
    cases hk
    exact Or.inl rfl⟩
  have hl := lv_entry ([.ref h0]) (n := 1) (Nat.le_of_ble_eq_true rfl)
  rw [lg_entry_eq]
  generalize (lg_sl ([.ref h0]) ++ List.replicate (1 - (lg_sl ([.ref h0])).length) Slot.unset).toArray = ls at hl ⊢
  have hl : lv_has ls 1 [(0, .ref h0)] := hl
  refine lv_aload_n hx hb dX0_init_0 rfl (lv_at hl 0 rfl) ?_
  refine W.objInit hx hb hown (hts (.methodLink RX0 3 objectInit) (by decide +kernel)) (hts (.instanceMethod objectInit) (by decide +kernel)) (hts (.code objectInit ⟨#[0xb1]⟩ 1 none) (by decide +kernel)) rfl (by rw [hml]; exact hl.1) rfl dX0_init_1 (Nat.le_of_ble_eq_true rfl) (Nat.le_of_ble_eq_true rfl) ?_
  refine W.eq (g2 := F0 m 4 ls []) rfl ?_
  refine lv_aload_n hx hb dX0_init_4 rfl (lv_at hl 0 rfl) ?_
  refine lv_iconst (v := 0) hx hb dX0_init_5 (by decide) ?_
  refine va_put (D := D) (ci := 0) (v := .int 0) (ty := .int) (C := RX0) (T := TX0) (N := 10) hx hb hts hin tyX0 tyX0_ok nmX0 hown hK hP hD hS 0 rfl rfl 0 (by decide) (hts (.fieldLink RX0 9 "FerryRights" "ferryCount" "I") (by decide +kernel)) (fun _ h9 => h9) rfl (by decide +kernel) rfl rfl (Nat.le_of_ble_eq_true rfl) dX0_init_6 (fun H locs hP hD hS => ?_)
  have hP : va_P D vwCl [(h0, .inr (0, [.int 0, .null, .null, .null, .int 0, .null, .null, .null, .null, .int 0]))] H := hP
  have hD : va_D (fun a => a = h0 ∨ sz ≤ a) [(h0, .inr (0, [.int 0, .null, .null, .null, .int 0, .null, .null, .null, .null, .int 0]))] := hD
  refine lv_aload_n hx hb dX0_init_9 rfl (lv_at hl 0 rfl) ?_
  refine lv_bipush (v := 6) hx hb dX0_init_10 (by decide) ?_
  refine va_newa (a0 := (6, .inl (fun _ => 0))) (atype := .int) (ty := .int) hx hb (hts (.arrayClass .int) (by decide +kernel)) rfl hK hP hD hS hA (fun _ => rfl) (by decide) (by decide) (by decide) (Nat.le_of_ble_eq_true rfl) (Nat.le_of_ble_eq_true rfl) dX0_init_12 (fun a1 cA H hK1 hP hD hS => ?_)
  obtain rfl := ra_eqI hK1 0 4 rfl rfl
  have hP : va_P D vwCl [(h0, .inr (0, [.int 0, .null, .null, .null, .int 0, .null, .null, .null, .null, .int 0])), (a1, .inl (ci, 6, .inl (fun _ => 0)))] H := hP
  have hD : va_D (fun a => a = h0 ∨ sz ≤ a) [(h0, .inr (0, [.int 0, .null, .null, .null, .int 0, .null, .null, .null, .null, .int 0])), (a1, .inl (ci, 6, .inl (fun _ => 0)))] := hD
  refine va_putF (D := D) (ci := 0) (v := .ref a1) (ty := (.array .int)) (C := RX0) (T := TX0) (N := 10) hx hb hts hin tyX0 tyX0_ok nmX0 hown hK hP hD hS 0 rfl rfl 1 (by decide) (hts (.fieldLink RX0 13 "FerryRights" "tolls" "[I") (by decide +kernel)) (fun _ h9 => h9) rfl hin2 rfl (by decide +kernel) rfl rfl (Nat.le_of_ble_eq_true rfl) dX0_init_14 (fun H locs hP hD hS => ?_)
  have hP : va_P D vwCl [(h0, .inr (0, [.int 0, .ref a1, .null, .null, .int 0, .null, .null, .null, .null, .int 0])), (a1, .inl (ci, 6, .inl (fun _ => 0)))] H := hP
  have hD : va_D (fun a => a = h0 ∨ sz ≤ a) [(h0, .inr (0, [.int 0, .ref a1, .null, .null, .int 0, .null, .null, .null, .null, .int 0])), (a1, .inl (ci, 6, .inl (fun _ => 0)))] := hD
  refine lv_aload_n hx hb dX0_init_17 rfl (lv_at hl 0 rfl) ?_
  refine lv_bipush (v := 6) hx hb dX0_init_18 (by decide) ?_
  refine va_newa (a0 := (6, .inl (fun _ => 0))) (atype := .int) (ty := .int) hx hb (hts (.arrayClass .int) (by decide +kernel)) rfl hK hP hD hS hA (fun _ => rfl) (by decide) (by decide) (by decide) (Nat.le_of_ble_eq_true rfl) (Nat.le_of_ble_eq_true rfl) dX0_init_20 (fun a2 cA H hK1 hP hD hS => ?_)
  obtain rfl := ra_eqI hK1 0 4 rfl rfl
  have hP : va_P D vwCl [(h0, .inr (0, [.int 0, .ref a1, .null, .null, .int 0, .null, .null, .null, .null, .int 0])), (a1, .inl (ci, 6, .inl (fun _ => 0))), (a2, .inl (ci, 6, .inl (fun _ => 0)))] H := hP
  have hD : va_D (fun a => a = h0 ∨ sz ≤ a) [(h0, .inr (0, [.int 0, .ref a1, .null, .null, .int 0, .null, .null, .null, .null, .int 0])), (a1, .inl (ci, 6, .inl (fun _ => 0))), (a2, .inl (ci, 6, .inl (fun _ => 0)))] := hD
  refine va_putF (D := D) (ci := 0) (v := .ref a2) (ty := (.array .int)) (C := RX0) (T := TX0) (N := 10) hx hb hts hin tyX0 tyX0_ok nmX0 hown hK hP hD hS 0 rfl rfl 2 (by decide) (hts (.fieldLink RX0 17 "FerryRights" "passengersCarried" "[I") (by decide +kernel)) (fun _ h9 => h9) rfl hin2 rfl (by decide +kernel) rfl rfl (Nat.le_of_ble_eq_true rfl) dX0_init_22 (fun H locs hP hD hS => ?_)
  have hP : va_P D vwCl [(h0, .inr (0, [.int 0, .ref a1, .ref a2, .null, .int 0, .null, .null, .null, .null, .int 0])), (a1, .inl (ci, 6, .inl (fun _ => 0))), (a2, .inl (ci, 6, .inl (fun _ => 0)))] H := hP
  have hD : va_D (fun a => a = h0 ∨ sz ≤ a) [(h0, .inr (0, [.int 0, .ref a1, .ref a2, .null, .int 0, .null, .null, .null, .null, .int 0])), (a1, .inl (ci, 6, .inl (fun _ => 0))), (a2, .inl (ci, 6, .inl (fun _ => 0)))] := hD
  refine lv_aload_n hx hb dX0_init_25 rfl (lv_at hl 0 rfl) ?_
  refine lv_sipush (v := 288) hx hb dX0_init_26 (by decide) ?_
  refine va_newa (a0 := (288, .inl (fun _ => 0))) (atype := .int) (ty := .int) hx hb (hts (.arrayClass .int) (by decide +kernel)) rfl hK hP hD hS hA (fun _ => rfl) (by decide) (by decide) (by decide) (Nat.le_of_ble_eq_true rfl) (Nat.le_of_ble_eq_true rfl) dX0_init_29 (fun a3 cA H hK1 hP hD hS => ?_)
  obtain rfl := ra_eqI hK1 0 4 rfl rfl
  have hP : va_P D vwCl [(h0, .inr (0, [.int 0, .ref a1, .ref a2, .null, .int 0, .null, .null, .null, .null, .int 0])), (a1, .inl (ci, 6, .inl (fun _ => 0))), (a2, .inl (ci, 6, .inl (fun _ => 0))), (a3, .inl (ci, 288, .inl (fun _ => 0)))] H := hP
  have hD : va_D (fun a => a = h0 ∨ sz ≤ a) [(h0, .inr (0, [.int 0, .ref a1, .ref a2, .null, .int 0, .null, .null, .null, .null, .int 0])), (a1, .inl (ci, 6, .inl (fun _ => 0))), (a2, .inl (ci, 6, .inl (fun _ => 0))), (a3, .inl (ci, 288, .inl (fun _ => 0)))] := hD
  refine va_putF (D := D) (ci := 0) (v := .ref a3) (ty := (.array .int)) (C := RX0) (T := TX0) (N := 10) hx hb hts hin tyX0 tyX0_ok nmX0 hown hK hP hD hS 0 rfl rfl 3 (by decide) (hts (.fieldLink RX0 20 "FerryRights" "sharesOwned" "[I") (by decide +kernel)) (fun _ h9 => h9) rfl hin2 rfl (by decide +kernel) rfl rfl (Nat.le_of_ble_eq_true rfl) dX0_init_31 (fun H locs hP hD hS => ?_)
  have hP : va_P D vwCl [(h0, .inr (0, [.int 0, .ref a1, .ref a2, .ref a3, .int 0, .null, .null, .null, .null, .int 0])), (a1, .inl (ci, 6, .inl (fun _ => 0))), (a2, .inl (ci, 6, .inl (fun _ => 0))), (a3, .inl (ci, 288, .inl (fun _ => 0)))] H := hP
  have hD : va_D (fun a => a = h0 ∨ sz ≤ a) [(h0, .inr (0, [.int 0, .ref a1, .ref a2, .ref a3, .int 0, .null, .null, .null, .null, .int 0])), (a1, .inl (ci, 6, .inl (fun _ => 0))), (a2, .inl (ci, 6, .inl (fun _ => 0))), (a3, .inl (ci, 288, .inl (fun _ => 0)))] := hD
  refine lv_aload_n hx hb dX0_init_34 rfl (lv_at hl 0 rfl) ?_
  refine lv_iconst (v := 0) hx hb dX0_init_35 (by decide) ?_
  refine va_put (D := D) (ci := 0) (v := .int 0) (ty := .int) (C := RX0) (T := TX0) (N := 10) hx hb hts hin tyX0 tyX0_ok nmX0 hown hK hP hD hS 0 rfl rfl 4 (by decide) (hts (.fieldLink RX0 23 "FerryRights" "personCount" "I") (by decide +kernel)) (fun _ h9 => h9) rfl (by decide +kernel) rfl rfl (Nat.le_of_ble_eq_true rfl) dX0_init_36 (fun H locs hP hD hS => ?_)
  have hP : va_P D vwCl [(h0, .inr (0, [.int 0, .ref a1, .ref a2, .ref a3, .int 0, .null, .null, .null, .null, .int 0])), (a1, .inl (ci, 6, .inl (fun _ => 0))), (a2, .inl (ci, 6, .inl (fun _ => 0))), (a3, .inl (ci, 288, .inl (fun _ => 0)))] H := hP
  have hD : va_D (fun a => a = h0 ∨ sz ≤ a) [(h0, .inr (0, [.int 0, .ref a1, .ref a2, .ref a3, .int 0, .null, .null, .null, .null, .int 0])), (a1, .inl (ci, 6, .inl (fun _ => 0))), (a2, .inl (ci, 6, .inl (fun _ => 0))), (a3, .inl (ci, 288, .inl (fun _ => 0)))] := hD
  refine lv_aload_n hx hb dX0_init_39 rfl (lv_at hl 0 rfl) ?_
  refine lv_bipush (v := 12) hx hb dX0_init_40 (by decide) ?_
  refine va_newa (a0 := (12, .inl (fun _ => 0))) (atype := .boolean) (ty := .boolean) hx hb (hts (.arrayClass .boolean) (by decide +kernel)) rfl hK hP hD hS hA (fun _ => rfl) (by decide) (by decide) (by decide) (Nat.le_of_ble_eq_true rfl) (Nat.le_of_ble_eq_true rfl) dX0_init_42 (fun a4 cA H hK1 hP hD hS => ?_)
  obtain rfl := ra_eqZ hK1 1 4 rfl rfl
  have hP : va_P D vwCl [(h0, .inr (0, [.int 0, .ref a1, .ref a2, .ref a3, .int 0, .null, .null, .null, .null, .int 0])), (a1, .inl (ci, 6, .inl (fun _ => 0))), (a2, .inl (ci, 6, .inl (fun _ => 0))), (a3, .inl (ci, 288, .inl (fun _ => 0))), (a4, .inl (cz, 12, .inl (fun _ => 0)))] H := hP
  have hD : va_D (fun a => a = h0 ∨ sz ≤ a) [(h0, .inr (0, [.int 0, .ref a1, .ref a2, .ref a3, .int 0, .null, .null, .null, .null, .int 0])), (a1, .inl (ci, 6, .inl (fun _ => 0))), (a2, .inl (ci, 6, .inl (fun _ => 0))), (a3, .inl (ci, 288, .inl (fun _ => 0))), (a4, .inl (cz, 12, .inl (fun _ => 0)))] := hD
  refine va_putF (D := D) (ci := 0) (v := .ref a4) (ty := (.array .boolean)) (C := RX0) (T := TX0) (N := 10) hx hb hts hin tyX0 tyX0_ok nmX0 hown hK hP hD hS 0 rfl rfl 5 (by decide) (hts (.fieldLink RX0 26 "FerryRights" "alive" "[Z") (by decide +kernel)) (fun _ h9 => h9) rfl hin2 rfl (by decide +kernel) rfl rfl (Nat.le_of_ble_eq_true rfl) dX0_init_44 (fun H locs hP hD hS => ?_)
  have hP : va_P D vwCl [(h0, .inr (0, [.int 0, .ref a1, .ref a2, .ref a3, .int 0, .ref a4, .null, .null, .null, .int 0])), (a1, .inl (ci, 6, .inl (fun _ => 0))), (a2, .inl (ci, 6, .inl (fun _ => 0))), (a3, .inl (ci, 288, .inl (fun _ => 0))), (a4, .inl (cz, 12, .inl (fun _ => 0)))] H := hP
  have hD : va_D (fun a => a = h0 ∨ sz ≤ a) [(h0, .inr (0, [.int 0, .ref a1, .ref a2, .ref a3, .int 0, .ref a4, .null, .null, .null, .int 0])), (a1, .inl (ci, 6, .inl (fun _ => 0))), (a2, .inl (ci, 6, .inl (fun _ => 0))), (a3, .inl (ci, 288, .inl (fun _ => 0))), (a4, .inl (cz, 12, .inl (fun _ => 0)))] := hD
  refine lv_aload_n hx hb dX0_init_47 rfl (lv_at hl 0 rfl) ?_
  refine lv_bipush (v := 12) hx hb dX0_init_48 (by decide) ?_
  refine va_newa (a0 := (12, .inl (fun _ => 0))) (atype := .int) (ty := .int) hx hb (hts (.arrayClass .int) (by decide +kernel)) rfl hK hP hD hS hA (fun _ => rfl) (by decide) (by decide) (by decide) (Nat.le_of_ble_eq_true rfl) (Nat.le_of_ble_eq_true rfl) dX0_init_50 (fun a5 cA H hK1 hP hD hS => ?_)
  obtain rfl := ra_eqI hK1 0 4 rfl rfl
  have hP : va_P D vwCl [(h0, .inr (0, [.int 0, .ref a1, .ref a2, .ref a3, .int 0, .ref a4, .null, .null, .null, .int 0])), (a1, .inl (ci, 6, .inl (fun _ => 0))), (a2, .inl (ci, 6, .inl (fun _ => 0))), (a3, .inl (ci, 288, .inl (fun _ => 0))), (a4, .inl (cz, 12, .inl (fun _ => 0))), (a5, .inl (ci, 12, .inl (fun _ => 0)))] H := hP
  have hD : va_D (fun a => a = h0 ∨ sz ≤ a) [(h0, .inr (0, [.int 0, .ref a1, .ref a2, .ref a3, .int 0, .ref a4, .null, .null, .null, .int 0])), (a1, .inl (ci, 6, .inl (fun _ => 0))), (a2, .inl (ci, 6, .inl (fun _ => 0))), (a3, .inl (ci, 288, .inl (fun _ => 0))), (a4, .inl (cz, 12, .inl (fun _ => 0))), (a5, .inl (ci, 12, .inl (fun _ => 0)))] := hD
  refine va_putF (D := D) (ci := 0) (v := .ref a5) (ty := (.array .int)) (C := RX0) (T := TX0) (N := 10) hx hb hts hin tyX0 tyX0_ok nmX0 hown hK hP hD hS 0 rfl rfl 6 (by decide) (hts (.fieldLink RX0 30 "FerryRights" "purses" "[I") (by decide +kernel)) (fun _ h9 => h9) rfl hin2 rfl (by decide +kernel) rfl rfl (Nat.le_of_ble_eq_true rfl) dX0_init_52 (fun H locs hP hD hS => ?_)
  have hP : va_P D vwCl [(h0, .inr (0, [.int 0, .ref a1, .ref a2, .ref a3, .int 0, .ref a4, .ref a5, .null, .null, .int 0])), (a1, .inl (ci, 6, .inl (fun _ => 0))), (a2, .inl (ci, 6, .inl (fun _ => 0))), (a3, .inl (ci, 288, .inl (fun _ => 0))), (a4, .inl (cz, 12, .inl (fun _ => 0))), (a5, .inl (ci, 12, .inl (fun _ => 0)))] H := hP
  have hD : va_D (fun a => a = h0 ∨ sz ≤ a) [(h0, .inr (0, [.int 0, .ref a1, .ref a2, .ref a3, .int 0, .ref a4, .ref a5, .null, .null, .int 0])), (a1, .inl (ci, 6, .inl (fun _ => 0))), (a2, .inl (ci, 6, .inl (fun _ => 0))), (a3, .inl (ci, 288, .inl (fun _ => 0))), (a4, .inl (cz, 12, .inl (fun _ => 0))), (a5, .inl (ci, 12, .inl (fun _ => 0)))] := hD
  refine lv_aload_n hx hb dX0_init_55 rfl (lv_at hl 0 rfl) ?_
  refine lv_bipush (v := 12) hx hb dX0_init_56 (by decide) ?_
  refine va_newa (a0 := (12, .inl (fun _ => 0))) (atype := .int) (ty := .int) hx hb (hts (.arrayClass .int) (by decide +kernel)) rfl hK hP hD hS hA (fun _ => rfl) (by decide) (by decide) (by decide) (Nat.le_of_ble_eq_true rfl) (Nat.le_of_ble_eq_true rfl) dX0_init_58 (fun a6 cA H hK1 hP hD hS => ?_)
  obtain rfl := ra_eqI hK1 0 4 rfl rfl
  have hP : va_P D vwCl [(h0, .inr (0, [.int 0, .ref a1, .ref a2, .ref a3, .int 0, .ref a4, .ref a5, .null, .null, .int 0])), (a1, .inl (ci, 6, .inl (fun _ => 0))), (a2, .inl (ci, 6, .inl (fun _ => 0))), (a3, .inl (ci, 288, .inl (fun _ => 0))), (a4, .inl (cz, 12, .inl (fun _ => 0))), (a5, .inl (ci, 12, .inl (fun _ => 0))), (a6, .inl (ci, 12, .inl (fun _ => 0)))] H := hP
  have hD : va_D (fun a => a = h0 ∨ sz ≤ a) [(h0, .inr (0, [.int 0, .ref a1, .ref a2, .ref a3, .int 0, .ref a4, .ref a5, .null, .null, .int 0])), (a1, .inl (ci, 6, .inl (fun _ => 0))), (a2, .inl (ci, 6, .inl (fun _ => 0))), (a3, .inl (ci, 288, .inl (fun _ => 0))), (a4, .inl (cz, 12, .inl (fun _ => 0))), (a5, .inl (ci, 12, .inl (fun _ => 0))), (a6, .inl (ci, 12, .inl (fun _ => 0)))] := hD
  refine va_putF (D := D) (ci := 0) (v := .ref a6) (ty := (.array .int)) (C := RX0) (T := TX0) (N := 10) hx hb hts hin tyX0 tyX0_ok nmX0 hown hK hP hD hS 0 rfl rfl 7 (by decide) (hts (.fieldLink RX0 33 "FerryRights" "fares" "[I") (by decide +kernel)) (fun _ h9 => h9) rfl hin2 rfl (by decide +kernel) rfl rfl (Nat.le_of_ble_eq_true rfl) dX0_init_60 (fun H locs hP hD hS => ?_)
  have hP : va_P D vwCl [(h0, .inr (0, [.int 0, .ref a1, .ref a2, .ref a3, .int 0, .ref a4, .ref a5, .ref a6, .null, .int 0])), (a1, .inl (ci, 6, .inl (fun _ => 0))), (a2, .inl (ci, 6, .inl (fun _ => 0))), (a3, .inl (ci, 288, .inl (fun _ => 0))), (a4, .inl (cz, 12, .inl (fun _ => 0))), (a5, .inl (ci, 12, .inl (fun _ => 0))), (a6, .inl (ci, 12, .inl (fun _ => 0)))] H := hP
  have hD : va_D (fun a => a = h0 ∨ sz ≤ a) [(h0, .inr (0, [.int 0, .ref a1, .ref a2, .ref a3, .int 0, .ref a4, .ref a5, .ref a6, .null, .int 0])), (a1, .inl (ci, 6, .inl (fun _ => 0))), (a2, .inl (ci, 6, .inl (fun _ => 0))), (a3, .inl (ci, 288, .inl (fun _ => 0))), (a4, .inl (cz, 12, .inl (fun _ => 0))), (a5, .inl (ci, 12, .inl (fun _ => 0))), (a6, .inl (ci, 12, .inl (fun _ => 0)))] := hD
  refine lv_aload_n hx hb dX0_init_63 rfl (lv_at hl 0 rfl) ?_
  refine lv_bipush (v := 12) hx hb dX0_init_64 (by decide) ?_
  refine va_newa (a0 := (12, .inl (fun _ => 0))) (atype := .int) (ty := .int) hx hb (hts (.arrayClass .int) (by decide +kernel)) rfl hK hP hD hS hA (fun _ => rfl) (by decide) (by decide) (by decide) (Nat.le_of_ble_eq_true rfl) (Nat.le_of_ble_eq_true rfl) dX0_init_66 (fun a7 cA H hK1 hP hD hS => ?_)
  obtain rfl := ra_eqI hK1 0 4 rfl rfl
  have hP : va_P D vwCl [(h0, .inr (0, [.int 0, .ref a1, .ref a2, .ref a3, .int 0, .ref a4, .ref a5, .ref a6, .null, .int 0])), (a1, .inl (ci, 6, .inl (fun _ => 0))), (a2, .inl (ci, 6, .inl (fun _ => 0))), (a3, .inl (ci, 288, .inl (fun _ => 0))), (a4, .inl (cz, 12, .inl (fun _ => 0))), (a5, .inl (ci, 12, .inl (fun _ => 0))), (a6, .inl (ci, 12, .inl (fun _ => 0))), (a7, .inl (ci, 12, .inl (fun _ => 0)))] H := hP
  have hD : va_D (fun a => a = h0 ∨ sz ≤ a) [(h0, .inr (0, [.int 0, .ref a1, .ref a2, .ref a3, .int 0, .ref a4, .ref a5, .ref a6, .null, .int 0])), (a1, .inl (ci, 6, .inl (fun _ => 0))), (a2, .inl (ci, 6, .inl (fun _ => 0))), (a3, .inl (ci, 288, .inl (fun _ => 0))), (a4, .inl (cz, 12, .inl (fun _ => 0))), (a5, .inl (ci, 12, .inl (fun _ => 0))), (a6, .inl (ci, 12, .inl (fun _ => 0))), (a7, .inl (ci, 12, .inl (fun _ => 0)))] := hD
  refine va_putF (D := D) (ci := 0) (v := .ref a7) (ty := (.array .int)) (C := RX0) (T := TX0) (N := 10) hx hb hts hin tyX0 tyX0_ok nmX0 hown hK hP hD hS 0 rfl rfl 8 (by decide) (hts (.fieldLink RX0 36 "FerryRights" "parents" "[I") (by decide +kernel)) (fun _ h9 => h9) rfl hin2 rfl (by decide +kernel) rfl rfl (Nat.le_of_ble_eq_true rfl) dX0_init_68 (fun H locs hP hD hS => ?_)
  have hP : va_P D vwCl [(h0, .inr (0, [.int 0, .ref a1, .ref a2, .ref a3, .int 0, .ref a4, .ref a5, .ref a6, .ref a7, .int 0])), (a1, .inl (ci, 6, .inl (fun _ => 0))), (a2, .inl (ci, 6, .inl (fun _ => 0))), (a3, .inl (ci, 288, .inl (fun _ => 0))), (a4, .inl (cz, 12, .inl (fun _ => 0))), (a5, .inl (ci, 12, .inl (fun _ => 0))), (a6, .inl (ci, 12, .inl (fun _ => 0))), (a7, .inl (ci, 12, .inl (fun _ => 0)))] H := hP
  have hD : va_D (fun a => a = h0 ∨ sz ≤ a) [(h0, .inr (0, [.int 0, .ref a1, .ref a2, .ref a3, .int 0, .ref a4, .ref a5, .ref a6, .ref a7, .int 0])), (a1, .inl (ci, 6, .inl (fun _ => 0))), (a2, .inl (ci, 6, .inl (fun _ => 0))), (a3, .inl (ci, 288, .inl (fun _ => 0))), (a4, .inl (cz, 12, .inl (fun _ => 0))), (a5, .inl (ci, 12, .inl (fun _ => 0))), (a6, .inl (ci, 12, .inl (fun _ => 0))), (a7, .inl (ci, 12, .inl (fun _ => 0)))] := hD
  refine lv_aload_n hx hb dX0_init_71 rfl (lv_at hl 0 rfl) ?_
  refine lv_iconst (v := 0) hx hb dX0_init_72 (by decide) ?_
  refine va_put (D := D) (ci := 0) (v := .int 0) (ty := .int) (C := RX0) (T := TX0) (N := 10) hx hb hts hin tyX0 tyX0_ok nmX0 hown hK hP hD hS 0 rfl rfl 9 (by decide) (hts (.fieldLink RX0 39 "FerryRights" "crownPurse" "I") (by decide +kernel)) (fun _ h9 => h9) rfl (by decide +kernel) rfl rfl (Nat.le_of_ble_eq_true rfl) dX0_init_73 (fun H locs hP hD hS => ?_)
  have hP : va_P D vwCl [(h0, .inr (0, [.int 0, .ref a1, .ref a2, .ref a3, .int 0, .ref a4, .ref a5, .ref a6, .ref a7, .int 0])), (a1, .inl (ci, 6, .inl (fun _ => 0))), (a2, .inl (ci, 6, .inl (fun _ => 0))), (a3, .inl (ci, 288, .inl (fun _ => 0))), (a4, .inl (cz, 12, .inl (fun _ => 0))), (a5, .inl (ci, 12, .inl (fun _ => 0))), (a6, .inl (ci, 12, .inl (fun _ => 0))), (a7, .inl (ci, 12, .inl (fun _ => 0)))] H := hP
  have hD : va_D (fun a => a = h0 ∨ sz ≤ a) [(h0, .inr (0, [.int 0, .ref a1, .ref a2, .ref a3, .int 0, .ref a4, .ref a5, .ref a6, .ref a7, .int 0])), (a1, .inl (ci, 6, .inl (fun _ => 0))), (a2, .inl (ci, 6, .inl (fun _ => 0))), (a3, .inl (ci, 288, .inl (fun _ => 0))), (a4, .inl (cz, 12, .inl (fun _ => 0))), (a5, .inl (ci, 12, .inl (fun _ => 0))), (a6, .inl (ci, 12, .inl (fun _ => 0))), (a7, .inl (ci, 12, .inl (fun _ => 0)))] := hD
  refine W.widen (k := 7) (n := 348) (Nat.le_of_ble_eq_true rfl) (Nat.le_of_ble_eq_true rfl) ?_
  obtain ⟨q, hqe⟩ : ∃ q : Nat → Nat, q = (fun k => match k with | 0 => h0 | 1 => a1 | 2 => a2 | 3 => a3 | 4 => a4 | 5 => a5 | 6 => a6 | _ => a7) := ⟨_, rfl⟩
  have hq0 : q 0 = h0 := by subst hqe; rfl
  have hP9 : va_P D vwCl (w0r ci cz q 0 0 (fun _ => 0) (fun _ _ => 0)) H := hP.sub [0, 1, 2, 3, 4, 5, 6, 7] (by subst hqe; rfl)
  have hD9 : va_D (fun a => a = h0 ∨ sz ≤ a) (w0r ci cz q 0 0 (fun _ => 0) (fun _ _ => 0)) := hD.sub [0, 1, 2, 3, 4, 5, 6, 7] (by decide) (by subst hqe; rfl)
  have hP9 : va_P D vwCl (w0 ci cz q 0 0 (fun _ _ => 0)) H := by unfold w0; rw [alv_0]; exact hP9
  exact W.vret hx hb hr (fun t ht _ => ⟨⟨q, rfl, ⟨hq0, dq_of hD9 (fun _ h => w0r_at h), new_of hD9 (fun _ h => w0r_at h) hq0⟩, (by show va_P D vwCl _ t.heap; rw [ht]; exact hP9)⟩, hS.F ht⟩) hS.2.2 dX0_init_76 hlocks
