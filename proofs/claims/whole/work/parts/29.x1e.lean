/-! FerryRightsModel, V: a new one -/
set_option maxHeartbeats 4000000 in
set_option maxRecDepth 100000 in
theorem m_X1_init (l : Launch) {D : va_G} {ci cz cj : ClassId} (h0 sz : Nat) : Met l yX1_init wsX1_init ({ frames := 1, cells := 8, slots := 360, locals := 16 } : Room) (va_Pc [.ref h0] (fun U => U.heap.size = sz ∧ va_P D vwCl [(h0, .inr (1, [.int 0, .int 0, .null, .null, .null, .int 0, .null, .null, .null, .null, .int 0, .null, .int 0]))] U.heap ∧ va_K D vwCl (tyL ci cz cj) U)) (va_Qv (fun q : Nat → Nat => q 0 = h0 ∧ DQ q 9 ∧ ∀ k, 1 ≤ k → k < 9 → sz ≤ q k) (fun q t => va_P D vwCl (w1 ci cz q 0 0 0 (fun _ _ => 0) (fun _ => 0) 0) t.heap) (fun a => a = h0 ∨ sz ≤ a)) 8 360 (fun a => a = h0 ∨ sz ≤ a) := by
  refine Met.ofW (cc := cX1_init) (maxL := 1) (ret := none) (by decide) rfl ?_
  intro p e s m args below meth c s₁ B hml hv
  obtain ⟨rfl, hsz, hP, hK⟩ := hv
  have hx := B.exec
  have hb := B.bytes
  have hr := B.returns
  have hts := atoms_spec (ws := wsX1_init) B.pre
  have hown : s.vm.findClass RX1 = some m.cls := findClass_of_methodNamed B.named
  have hlocks := B.notSynchronized
  have hin2 : meth.name = "<init>" := (name_of_methodNamed B.named B.method).1
  subst hsz
  obtain ⟨sz, hsz⟩ : ∃ sz, sz = s.heap.size := ⟨_, rfl⟩
  rw [← hsz]
  have hin : ∀ w ∈ wsX10, w ∈ wsX1_init := by decide +kernel
  have hA : ∀ q : Nat, s.heap.size ≤ q → (fun a => a = h0 ∨ sz ≤ a) q := fun q h => Or.inr (by rw [hsz]; exact h)
  have hS : va_S (fun a => a = h0 ∨ sz ≤ a) s.heap s.heap [] := va_S.rf
  have hD : va_D (fun a => a = h0 ∨ sz ≤ a) [(h0, (.inr (1, [.int 0, .int 0, .null, .null, .null, .int 0, .null, .null, .null, .null, .int 0, .null, .int 0]) : va_E))] := ⟨fun i j x y hi hj _ => by
    have h1 := (List.getElem?_eq_some_iff.mp hi).1
    have h2 := (List.getElem?_eq_some_iff.mp hj).1
    simp at h1 h2
    omega, fun k x hk => by
    have h1 := (List.getElem?_eq_some_iff.mp hk).1
    simp at h1
    subst h1
    cases hk
    exact Or.inl rfl⟩
  have hl := lv_entry ([.ref h0]) (n := 1) (Nat.le_of_ble_eq_true rfl)
  rw [lg_entry_eq]
  generalize (lg_sl ([.ref h0]) ++ List.replicate (1 - (lg_sl ([.ref h0])).length) Slot.unset).toArray = ls at hl ⊢
  have hl : lv_has ls 1 [(0, .ref h0)] := hl
  refine lv_aload_n hx hb dX1_init_0 rfl (lv_at hl 0 rfl) ?_
  refine W.objInit hx hb hown (hts (.methodLink RX1 1 objectInit) (by decide +kernel)) (hts (.instanceMethod objectInit) (by decide +kernel)) (hts (.code objectInit ⟨#[0xb1]⟩ 1 none) (by decide +kernel)) rfl (by rw [hml]; exact hl.1) rfl dX1_init_1 (Nat.le_of_ble_eq_true rfl) (Nat.le_of_ble_eq_true rfl) ?_
  refine W.eq (g2 := F0 m 4 ls []) rfl ?_
  refine lv_aload_n hx hb dX1_init_4 rfl (lv_at hl 0 rfl) ?_
  refine lv_bipush (v := 6) hx hb dX1_init_5 (by decide) ?_
  refine va_newa (a0 := (6, .inl (fun _ => 0))) (atype := .int) (ty := .int) hx hb (hts (.arrayClass .int) (by decide +kernel)) rfl hK hP hD hS hA (fun _ => rfl) (by decide) (by decide) (by decide) (Nat.le_of_ble_eq_true rfl) (Nat.le_of_ble_eq_true rfl) dX1_init_7 (fun a1 cA H hK1 hP hD hS => ?_)
  obtain rfl := ra_eqI hK1 0 3 rfl rfl
  have hP : va_P D vwCl [(h0, .inr (1, [.int 0, .int 0, .null, .null, .null, .int 0, .null, .null, .null, .null, .int 0, .null, .int 0])), (a1, .inl (ci, 6, .inl (fun _ => 0)))] H := hP
  have hD : va_D (fun a => a = h0 ∨ sz ≤ a) [(h0, .inr (1, [.int 0, .int 0, .null, .null, .null, .int 0, .null, .null, .null, .null, .int 0, .null, .int 0])), (a1, .inl (ci, 6, .inl (fun _ => 0)))] := hD
  refine va_putF (D := D) (ci := 1) (v := .ref a1) (ty := (.array .int)) (C := RX1) (T := TX1) (N := 13) hx hb hts hin tyX1 tyX1_ok nmX1 hown hK hP hD hS 0 rfl rfl 2 (by decide) (hts (.fieldLink RX1 9 "FerryRightsModel" "toll" "[I") (by decide +kernel)) (fun _ h9 => h9) rfl hin2 rfl (by decide +kernel) rfl rfl (Nat.le_of_ble_eq_true rfl) dX1_init_9 (fun H locs hP hD hS => ?_)
  have hP : va_P D vwCl [(h0, .inr (1, [.int 0, .int 0, .ref a1, .null, .null, .int 0, .null, .null, .null, .null, .int 0, .null, .int 0])), (a1, .inl (ci, 6, .inl (fun _ => 0)))] H := hP
  have hD : va_D (fun a => a = h0 ∨ sz ≤ a) [(h0, .inr (1, [.int 0, .int 0, .ref a1, .null, .null, .int 0, .null, .null, .null, .null, .int 0, .null, .int 0])), (a1, .inl (ci, 6, .inl (fun _ => 0)))] := hD
  refine lv_aload_n hx hb dX1_init_12 rfl (lv_at hl 0 rfl) ?_
  refine lv_bipush (v := 6) hx hb dX1_init_13 (by decide) ?_
  refine va_newa (a0 := (6, .inl (fun _ => 0))) (atype := .int) (ty := .int) hx hb (hts (.arrayClass .int) (by decide +kernel)) rfl hK hP hD hS hA (fun _ => rfl) (by decide) (by decide) (by decide) (Nat.le_of_ble_eq_true rfl) (Nat.le_of_ble_eq_true rfl) dX1_init_15 (fun a2 cA H hK1 hP hD hS => ?_)
  obtain rfl := ra_eqI hK1 0 3 rfl rfl
  have hP : va_P D vwCl [(h0, .inr (1, [.int 0, .int 0, .ref a1, .null, .null, .int 0, .null, .null, .null, .null, .int 0, .null, .int 0])), (a1, .inl (ci, 6, .inl (fun _ => 0))), (a2, .inl (ci, 6, .inl (fun _ => 0)))] H := hP
  have hD : va_D (fun a => a = h0 ∨ sz ≤ a) [(h0, .inr (1, [.int 0, .int 0, .ref a1, .null, .null, .int 0, .null, .null, .null, .null, .int 0, .null, .int 0])), (a1, .inl (ci, 6, .inl (fun _ => 0))), (a2, .inl (ci, 6, .inl (fun _ => 0)))] := hD
  refine va_putF (D := D) (ci := 1) (v := .ref a2) (ty := (.array .int)) (C := RX1) (T := TX1) (N := 13) hx hb hts hin tyX1 tyX1_ok nmX1 hown hK hP hD hS 0 rfl rfl 3 (by decide) (hts (.fieldLink RX1 13 "FerryRightsModel" "carried" "[I") (by decide +kernel)) (fun _ h9 => h9) rfl hin2 rfl (by decide +kernel) rfl rfl (Nat.le_of_ble_eq_true rfl) dX1_init_17 (fun H locs hP hD hS => ?_)
  have hP : va_P D vwCl [(h0, .inr (1, [.int 0, .int 0, .ref a1, .ref a2, .null, .int 0, .null, .null, .null, .null, .int 0, .null, .int 0])), (a1, .inl (ci, 6, .inl (fun _ => 0))), (a2, .inl (ci, 6, .inl (fun _ => 0)))] H := hP
  have hD : va_D (fun a => a = h0 ∨ sz ≤ a) [(h0, .inr (1, [.int 0, .int 0, .ref a1, .ref a2, .null, .int 0, .null, .null, .null, .null, .int 0, .null, .int 0])), (a1, .inl (ci, 6, .inl (fun _ => 0))), (a2, .inl (ci, 6, .inl (fun _ => 0)))] := hD
  refine lv_aload_n hx hb dX1_init_20 rfl (lv_at hl 0 rfl) ?_
  refine lv_sipush (v := 288) hx hb dX1_init_21 (by decide) ?_
  refine va_newa (a0 := (288, .inl (fun _ => 0))) (atype := .int) (ty := .int) hx hb (hts (.arrayClass .int) (by decide +kernel)) rfl hK hP hD hS hA (fun _ => rfl) (by decide) (by decide) (by decide) (Nat.le_of_ble_eq_true rfl) (Nat.le_of_ble_eq_true rfl) dX1_init_24 (fun a3 cA H hK1 hP hD hS => ?_)
  obtain rfl := ra_eqI hK1 0 3 rfl rfl
  have hP : va_P D vwCl [(h0, .inr (1, [.int 0, .int 0, .ref a1, .ref a2, .null, .int 0, .null, .null, .null, .null, .int 0, .null, .int 0])), (a1, .inl (ci, 6, .inl (fun _ => 0))), (a2, .inl (ci, 6, .inl (fun _ => 0))), (a3, .inl (ci, 288, .inl (fun _ => 0)))] H := hP
  have hD : va_D (fun a => a = h0 ∨ sz ≤ a) [(h0, .inr (1, [.int 0, .int 0, .ref a1, .ref a2, .null, .int 0, .null, .null, .null, .null, .int 0, .null, .int 0])), (a1, .inl (ci, 6, .inl (fun _ => 0))), (a2, .inl (ci, 6, .inl (fun _ => 0))), (a3, .inl (ci, 288, .inl (fun _ => 0)))] := hD
  refine va_putF (D := D) (ci := 1) (v := .ref a3) (ty := (.array .int)) (C := RX1) (T := TX1) (N := 13) hx hb hts hin tyX1 tyX1_ok nmX1 hown hK hP hD hS 0 rfl rfl 4 (by decide) (hts (.fieldLink RX1 16 "FerryRightsModel" "owns" "[I") (by decide +kernel)) (fun _ h9 => h9) rfl hin2 rfl (by decide +kernel) rfl rfl (Nat.le_of_ble_eq_true rfl) dX1_init_26 (fun H locs hP hD hS => ?_)
  have hP : va_P D vwCl [(h0, .inr (1, [.int 0, .int 0, .ref a1, .ref a2, .ref a3, .int 0, .null, .null, .null, .null, .int 0, .null, .int 0])), (a1, .inl (ci, 6, .inl (fun _ => 0))), (a2, .inl (ci, 6, .inl (fun _ => 0))), (a3, .inl (ci, 288, .inl (fun _ => 0)))] H := hP
  have hD : va_D (fun a => a = h0 ∨ sz ≤ a) [(h0, .inr (1, [.int 0, .int 0, .ref a1, .ref a2, .ref a3, .int 0, .null, .null, .null, .null, .int 0, .null, .int 0])), (a1, .inl (ci, 6, .inl (fun _ => 0))), (a2, .inl (ci, 6, .inl (fun _ => 0))), (a3, .inl (ci, 288, .inl (fun _ => 0)))] := hD
  refine lv_aload_n hx hb dX1_init_29 rfl (lv_at hl 0 rfl) ?_
  refine lv_bipush (v := 12) hx hb dX1_init_30 (by decide) ?_
  refine va_newa (a0 := (12, .inl (fun _ => 0))) (atype := .int) (ty := .int) hx hb (hts (.arrayClass .int) (by decide +kernel)) rfl hK hP hD hS hA (fun _ => rfl) (by decide) (by decide) (by decide) (Nat.le_of_ble_eq_true rfl) (Nat.le_of_ble_eq_true rfl) dX1_init_32 (fun a4 cA H hK1 hP hD hS => ?_)
  obtain rfl := ra_eqI hK1 0 3 rfl rfl
  have hP : va_P D vwCl [(h0, .inr (1, [.int 0, .int 0, .ref a1, .ref a2, .ref a3, .int 0, .null, .null, .null, .null, .int 0, .null, .int 0])), (a1, .inl (ci, 6, .inl (fun _ => 0))), (a2, .inl (ci, 6, .inl (fun _ => 0))), (a3, .inl (ci, 288, .inl (fun _ => 0))), (a4, .inl (ci, 12, .inl (fun _ => 0)))] H := hP
  have hD : va_D (fun a => a = h0 ∨ sz ≤ a) [(h0, .inr (1, [.int 0, .int 0, .ref a1, .ref a2, .ref a3, .int 0, .null, .null, .null, .null, .int 0, .null, .int 0])), (a1, .inl (ci, 6, .inl (fun _ => 0))), (a2, .inl (ci, 6, .inl (fun _ => 0))), (a3, .inl (ci, 288, .inl (fun _ => 0))), (a4, .inl (ci, 12, .inl (fun _ => 0)))] := hD
  refine va_putF (D := D) (ci := 1) (v := .ref a4) (ty := (.array .int)) (C := RX1) (T := TX1) (N := 13) hx hb hts hin tyX1 tyX1_ok nmX1 hown hK hP hD hS 0 rfl rfl 6 (by decide) (hts (.fieldLink RX1 19 "FerryRightsModel" "coins" "[I") (by decide +kernel)) (fun _ h9 => h9) rfl hin2 rfl (by decide +kernel) rfl rfl (Nat.le_of_ble_eq_true rfl) dX1_init_34 (fun H locs hP hD hS => ?_)
  have hP : va_P D vwCl [(h0, .inr (1, [.int 0, .int 0, .ref a1, .ref a2, .ref a3, .int 0, .ref a4, .null, .null, .null, .int 0, .null, .int 0])), (a1, .inl (ci, 6, .inl (fun _ => 0))), (a2, .inl (ci, 6, .inl (fun _ => 0))), (a3, .inl (ci, 288, .inl (fun _ => 0))), (a4, .inl (ci, 12, .inl (fun _ => 0)))] H := hP
  have hD : va_D (fun a => a = h0 ∨ sz ≤ a) [(h0, .inr (1, [.int 0, .int 0, .ref a1, .ref a2, .ref a3, .int 0, .ref a4, .null, .null, .null, .int 0, .null, .int 0])), (a1, .inl (ci, 6, .inl (fun _ => 0))), (a2, .inl (ci, 6, .inl (fun _ => 0))), (a3, .inl (ci, 288, .inl (fun _ => 0))), (a4, .inl (ci, 12, .inl (fun _ => 0)))] := hD
  refine lv_aload_n hx hb dX1_init_37 rfl (lv_at hl 0 rfl) ?_
  refine lv_bipush (v := 12) hx hb dX1_init_38 (by decide) ?_
  refine va_newa (a0 := (12, .inl (fun _ => 0))) (atype := .int) (ty := .int) hx hb (hts (.arrayClass .int) (by decide +kernel)) rfl hK hP hD hS hA (fun _ => rfl) (by decide) (by decide) (by decide) (Nat.le_of_ble_eq_true rfl) (Nat.le_of_ble_eq_true rfl) dX1_init_40 (fun a5 cA H hK1 hP hD hS => ?_)
  obtain rfl := ra_eqI hK1 0 3 rfl rfl
  have hP : va_P D vwCl [(h0, .inr (1, [.int 0, .int 0, .ref a1, .ref a2, .ref a3, .int 0, .ref a4, .null, .null, .null, .int 0, .null, .int 0])), (a1, .inl (ci, 6, .inl (fun _ => 0))), (a2, .inl (ci, 6, .inl (fun _ => 0))), (a3, .inl (ci, 288, .inl (fun _ => 0))), (a4, .inl (ci, 12, .inl (fun _ => 0))), (a5, .inl (ci, 12, .inl (fun _ => 0)))] H := hP
  have hD : va_D (fun a => a = h0 ∨ sz ≤ a) [(h0, .inr (1, [.int 0, .int 0, .ref a1, .ref a2, .ref a3, .int 0, .ref a4, .null, .null, .null, .int 0, .null, .int 0])), (a1, .inl (ci, 6, .inl (fun _ => 0))), (a2, .inl (ci, 6, .inl (fun _ => 0))), (a3, .inl (ci, 288, .inl (fun _ => 0))), (a4, .inl (ci, 12, .inl (fun _ => 0))), (a5, .inl (ci, 12, .inl (fun _ => 0)))] := hD
  refine va_putF (D := D) (ci := 1) (v := .ref a5) (ty := (.array .int)) (C := RX1) (T := TX1) (N := 13) hx hb hts hin tyX1 tyX1_ok nmX1 hown hK hP hD hS 0 rfl rfl 7 (by decide) (hts (.fieldLink RX1 22 "FerryRightsModel" "earned" "[I") (by decide +kernel)) (fun _ h9 => h9) rfl hin2 rfl (by decide +kernel) rfl rfl (Nat.le_of_ble_eq_true rfl) dX1_init_42 (fun H locs hP hD hS => ?_)
  have hP : va_P D vwCl [(h0, .inr (1, [.int 0, .int 0, .ref a1, .ref a2, .ref a3, .int 0, .ref a4, .ref a5, .null, .null, .int 0, .null, .int 0])), (a1, .inl (ci, 6, .inl (fun _ => 0))), (a2, .inl (ci, 6, .inl (fun _ => 0))), (a3, .inl (ci, 288, .inl (fun _ => 0))), (a4, .inl (ci, 12, .inl (fun _ => 0))), (a5, .inl (ci, 12, .inl (fun _ => 0)))] H := hP
  have hD : va_D (fun a => a = h0 ∨ sz ≤ a) [(h0, .inr (1, [.int 0, .int 0, .ref a1, .ref a2, .ref a3, .int 0, .ref a4, .ref a5, .null, .null, .int 0, .null, .int 0])), (a1, .inl (ci, 6, .inl (fun _ => 0))), (a2, .inl (ci, 6, .inl (fun _ => 0))), (a3, .inl (ci, 288, .inl (fun _ => 0))), (a4, .inl (ci, 12, .inl (fun _ => 0))), (a5, .inl (ci, 12, .inl (fun _ => 0)))] := hD
  refine lv_aload_n hx hb dX1_init_45 rfl (lv_at hl 0 rfl) ?_
  refine lv_bipush (v := 12) hx hb dX1_init_46 (by decide) ?_
  refine va_newa (a0 := (12, .inl (fun _ => 0))) (atype := .int) (ty := .int) hx hb (hts (.arrayClass .int) (by decide +kernel)) rfl hK hP hD hS hA (fun _ => rfl) (by decide) (by decide) (by decide) (Nat.le_of_ble_eq_true rfl) (Nat.le_of_ble_eq_true rfl) dX1_init_48 (fun a6 cA H hK1 hP hD hS => ?_)
  obtain rfl := ra_eqI hK1 0 3 rfl rfl
  have hP : va_P D vwCl [(h0, .inr (1, [.int 0, .int 0, .ref a1, .ref a2, .ref a3, .int 0, .ref a4, .ref a5, .null, .null, .int 0, .null, .int 0])), (a1, .inl (ci, 6, .inl (fun _ => 0))), (a2, .inl (ci, 6, .inl (fun _ => 0))), (a3, .inl (ci, 288, .inl (fun _ => 0))), (a4, .inl (ci, 12, .inl (fun _ => 0))), (a5, .inl (ci, 12, .inl (fun _ => 0))), (a6, .inl (ci, 12, .inl (fun _ => 0)))] H := hP
  have hD : va_D (fun a => a = h0 ∨ sz ≤ a) [(h0, .inr (1, [.int 0, .int 0, .ref a1, .ref a2, .ref a3, .int 0, .ref a4, .ref a5, .null, .null, .int 0, .null, .int 0])), (a1, .inl (ci, 6, .inl (fun _ => 0))), (a2, .inl (ci, 6, .inl (fun _ => 0))), (a3, .inl (ci, 288, .inl (fun _ => 0))), (a4, .inl (ci, 12, .inl (fun _ => 0))), (a5, .inl (ci, 12, .inl (fun _ => 0))), (a6, .inl (ci, 12, .inl (fun _ => 0)))] := hD
  refine va_putF (D := D) (ci := 1) (v := .ref a6) (ty := (.array .int)) (C := RX1) (T := TX1) (N := 13) hx hb hts hin tyX1 tyX1_ok nmX1 hown hK hP hD hS 0 rfl rfl 8 (by decide) (hts (.fieldLink RX1 25 "FerryRightsModel" "parent" "[I") (by decide +kernel)) (fun _ h9 => h9) rfl hin2 rfl (by decide +kernel) rfl rfl (Nat.le_of_ble_eq_true rfl) dX1_init_50 (fun H locs hP hD hS => ?_)
  have hP : va_P D vwCl [(h0, .inr (1, [.int 0, .int 0, .ref a1, .ref a2, .ref a3, .int 0, .ref a4, .ref a5, .ref a6, .null, .int 0, .null, .int 0])), (a1, .inl (ci, 6, .inl (fun _ => 0))), (a2, .inl (ci, 6, .inl (fun _ => 0))), (a3, .inl (ci, 288, .inl (fun _ => 0))), (a4, .inl (ci, 12, .inl (fun _ => 0))), (a5, .inl (ci, 12, .inl (fun _ => 0))), (a6, .inl (ci, 12, .inl (fun _ => 0)))] H := hP
  have hD : va_D (fun a => a = h0 ∨ sz ≤ a) [(h0, .inr (1, [.int 0, .int 0, .ref a1, .ref a2, .ref a3, .int 0, .ref a4, .ref a5, .ref a6, .null, .int 0, .null, .int 0])), (a1, .inl (ci, 6, .inl (fun _ => 0))), (a2, .inl (ci, 6, .inl (fun _ => 0))), (a3, .inl (ci, 288, .inl (fun _ => 0))), (a4, .inl (ci, 12, .inl (fun _ => 0))), (a5, .inl (ci, 12, .inl (fun _ => 0))), (a6, .inl (ci, 12, .inl (fun _ => 0)))] := hD
  refine lv_aload_n hx hb dX1_init_53 rfl (lv_at hl 0 rfl) ?_
  refine lv_bipush (v := 12) hx hb dX1_init_54 (by decide) ?_
  refine va_newa (a0 := (12, .inl (fun _ => 0))) (atype := .boolean) (ty := .boolean) hx hb (hts (.arrayClass .boolean) (by decide +kernel)) rfl hK hP hD hS hA (fun _ => rfl) (by decide) (by decide) (by decide) (Nat.le_of_ble_eq_true rfl) (Nat.le_of_ble_eq_true rfl) dX1_init_56 (fun a7 cA H hK1 hP hD hS => ?_)
  obtain rfl := ra_eqZ hK1 1 3 rfl rfl
  have hP : va_P D vwCl [(h0, .inr (1, [.int 0, .int 0, .ref a1, .ref a2, .ref a3, .int 0, .ref a4, .ref a5, .ref a6, .null, .int 0, .null, .int 0])), (a1, .inl (ci, 6, .inl (fun _ => 0))), (a2, .inl (ci, 6, .inl (fun _ => 0))), (a3, .inl (ci, 288, .inl (fun _ => 0))), (a4, .inl (ci, 12, .inl (fun _ => 0))), (a5, .inl (ci, 12, .inl (fun _ => 0))), (a6, .inl (ci, 12, .inl (fun _ => 0))), (a7, .inl (cz, 12, .inl (fun _ => 0)))] H := hP
  have hD : va_D (fun a => a = h0 ∨ sz ≤ a) [(h0, .inr (1, [.int 0, .int 0, .ref a1, .ref a2, .ref a3, .int 0, .ref a4, .ref a5, .ref a6, .null, .int 0, .null, .int 0])), (a1, .inl (ci, 6, .inl (fun _ => 0))), (a2, .inl (ci, 6, .inl (fun _ => 0))), (a3, .inl (ci, 288, .inl (fun _ => 0))), (a4, .inl (ci, 12, .inl (fun _ => 0))), (a5, .inl (ci, 12, .inl (fun _ => 0))), (a6, .inl (ci, 12, .inl (fun _ => 0))), (a7, .inl (cz, 12, .inl (fun _ => 0)))] := hD
  refine va_putF (D := D) (ci := 1) (v := .ref a7) (ty := (.array .boolean)) (C := RX1) (T := TX1) (N := 13) hx hb hts hin tyX1 tyX1_ok nmX1 hown hK hP hD hS 0 rfl rfl 9 (by decide) (hts (.fieldLink RX1 28 "FerryRightsModel" "isDead" "[Z") (by decide +kernel)) (fun _ h9 => h9) rfl hin2 rfl (by decide +kernel) rfl rfl (Nat.le_of_ble_eq_true rfl) dX1_init_58 (fun H locs hP hD hS => ?_)
  have hP : va_P D vwCl [(h0, .inr (1, [.int 0, .int 0, .ref a1, .ref a2, .ref a3, .int 0, .ref a4, .ref a5, .ref a6, .ref a7, .int 0, .null, .int 0])), (a1, .inl (ci, 6, .inl (fun _ => 0))), (a2, .inl (ci, 6, .inl (fun _ => 0))), (a3, .inl (ci, 288, .inl (fun _ => 0))), (a4, .inl (ci, 12, .inl (fun _ => 0))), (a5, .inl (ci, 12, .inl (fun _ => 0))), (a6, .inl (ci, 12, .inl (fun _ => 0))), (a7, .inl (cz, 12, .inl (fun _ => 0)))] H := hP
  have hD : va_D (fun a => a = h0 ∨ sz ≤ a) [(h0, .inr (1, [.int 0, .int 0, .ref a1, .ref a2, .ref a3, .int 0, .ref a4, .ref a5, .ref a6, .ref a7, .int 0, .null, .int 0])), (a1, .inl (ci, 6, .inl (fun _ => 0))), (a2, .inl (ci, 6, .inl (fun _ => 0))), (a3, .inl (ci, 288, .inl (fun _ => 0))), (a4, .inl (ci, 12, .inl (fun _ => 0))), (a5, .inl (ci, 12, .inl (fun _ => 0))), (a6, .inl (ci, 12, .inl (fun _ => 0))), (a7, .inl (cz, 12, .inl (fun _ => 0)))] := hD
  refine lv_aload_n hx hb dX1_init_61 rfl (lv_at hl 0 rfl) ?_
  refine lv_bipush (v := 12) hx hb dX1_init_62 (by decide) ?_
  refine va_newa (a0 := (12, .inl (fun _ => 0))) (atype := .int) (ty := .int) hx hb (hts (.arrayClass .int) (by decide +kernel)) rfl hK hP hD hS hA (fun _ => rfl) (by decide) (by decide) (by decide) (Nat.le_of_ble_eq_true rfl) (Nat.le_of_ble_eq_true rfl) dX1_init_64 (fun a8 cA H hK1 hP hD hS => ?_)
  obtain rfl := ra_eqI hK1 0 3 rfl rfl
  have hP : va_P D vwCl [(h0, .inr (1, [.int 0, .int 0, .ref a1, .ref a2, .ref a3, .int 0, .ref a4, .ref a5, .ref a6, .ref a7, .int 0, .null, .int 0])), (a1, .inl (ci, 6, .inl (fun _ => 0))), (a2, .inl (ci, 6, .inl (fun _ => 0))), (a3, .inl (ci, 288, .inl (fun _ => 0))), (a4, .inl (ci, 12, .inl (fun _ => 0))), (a5, .inl (ci, 12, .inl (fun _ => 0))), (a6, .inl (ci, 12, .inl (fun _ => 0))), (a7, .inl (cz, 12, .inl (fun _ => 0))), (a8, .inl (ci, 12, .inl (fun _ => 0)))] H := hP
  have hD : va_D (fun a => a = h0 ∨ sz ≤ a) [(h0, .inr (1, [.int 0, .int 0, .ref a1, .ref a2, .ref a3, .int 0, .ref a4, .ref a5, .ref a6, .ref a7, .int 0, .null, .int 0])), (a1, .inl (ci, 6, .inl (fun _ => 0))), (a2, .inl (ci, 6, .inl (fun _ => 0))), (a3, .inl (ci, 288, .inl (fun _ => 0))), (a4, .inl (ci, 12, .inl (fun _ => 0))), (a5, .inl (ci, 12, .inl (fun _ => 0))), (a6, .inl (ci, 12, .inl (fun _ => 0))), (a7, .inl (cz, 12, .inl (fun _ => 0))), (a8, .inl (ci, 12, .inl (fun _ => 0)))] := hD
  refine va_putF (D := D) (ci := 1) (v := .ref a8) (ty := (.array .int)) (C := RX1) (T := TX1) (N := 13) hx hb hts hin tyX1 tyX1_ok nmX1 hown hK hP hD hS 0 rfl rfl 11 (by decide) (hts (.fieldLink RX1 32 "FerryRightsModel" "heir" "[I") (by decide +kernel)) (fun _ h9 => h9) rfl hin2 rfl (by decide +kernel) rfl rfl (Nat.le_of_ble_eq_true rfl) dX1_init_66 (fun H locs hP hD hS => ?_)
  have hP : va_P D vwCl [(h0, .inr (1, [.int 0, .int 0, .ref a1, .ref a2, .ref a3, .int 0, .ref a4, .ref a5, .ref a6, .ref a7, .int 0, .ref a8, .int 0])), (a1, .inl (ci, 6, .inl (fun _ => 0))), (a2, .inl (ci, 6, .inl (fun _ => 0))), (a3, .inl (ci, 288, .inl (fun _ => 0))), (a4, .inl (ci, 12, .inl (fun _ => 0))), (a5, .inl (ci, 12, .inl (fun _ => 0))), (a6, .inl (ci, 12, .inl (fun _ => 0))), (a7, .inl (cz, 12, .inl (fun _ => 0))), (a8, .inl (ci, 12, .inl (fun _ => 0)))] H := hP
  have hD : va_D (fun a => a = h0 ∨ sz ≤ a) [(h0, .inr (1, [.int 0, .int 0, .ref a1, .ref a2, .ref a3, .int 0, .ref a4, .ref a5, .ref a6, .ref a7, .int 0, .ref a8, .int 0])), (a1, .inl (ci, 6, .inl (fun _ => 0))), (a2, .inl (ci, 6, .inl (fun _ => 0))), (a3, .inl (ci, 288, .inl (fun _ => 0))), (a4, .inl (ci, 12, .inl (fun _ => 0))), (a5, .inl (ci, 12, .inl (fun _ => 0))), (a6, .inl (ci, 12, .inl (fun _ => 0))), (a7, .inl (cz, 12, .inl (fun _ => 0))), (a8, .inl (ci, 12, .inl (fun _ => 0)))] := hD
  refine W.widen (k := 8) (n := 360) (Nat.le_of_ble_eq_true rfl) (Nat.le_of_ble_eq_true rfl) ?_
  obtain ⟨q, hqe⟩ : ∃ q : Nat → Nat, q = (fun k => match k with | 0 => h0 | 1 => a1 | 2 => a2 | 3 => a3 | 4 => a7 | 5 => a4 | 6 => a5 | 7 => a6 | _ => a8) := ⟨_, rfl⟩
  have hq0 : q 0 = h0 := by subst hqe; rfl
  have hP9 : va_P D vwCl (w1 ci cz q 0 0 0 (fun _ _ => 0) (fun _ => 0) 0) H := hP.sub [0, 1, 2, 3, 7, 4, 5, 6, 8] (by subst hqe; rfl)
  have hD9 : va_D (fun a => a = h0 ∨ sz ≤ a) (w1 ci cz q 0 0 0 (fun _ _ => 0) (fun _ => 0) 0) := hD.sub [0, 1, 2, 3, 7, 4, 5, 6, 8] (by decide) (by subst hqe; rfl)
  exact W.vret hx hb hr (fun t ht _ => ⟨⟨q, rfl, ⟨hq0, dq_of hD9 (fun _ h => w1_at h), new_of hD9 (fun _ h => w1_at h) hq0⟩, (by show va_P D vwCl _ t.heap; rw [ht]; exact hP9)⟩, hS.F ht⟩) hS.2.2 dX1_init_69 hlocks
