/-! PART 46: what the start gives of the surroundings. -/
section START
variable {s : State} {b : Nat}
theorem start_ev (hts : ∀ w ∈ lw_tbl, w.before #[Value.ref b] s = true) (hgv : (Jvm.Cond.and given_1 narrow_1).before #[Value.ref b] s = true) : EV (bg s.heap.size) s s.heap ∧ NC s := by
  have hs := flat_of_before _ hgv
  have hA : ∀ a : Nat, a < s.heap.size → ¬ bg s.heap.size a := fun a h => Nat.not_le.mpr h
  have m1 : ∀ x ∈ exs3, Cond.castable x x ∈ lw_tbl := by decide +kernel
  have m2 : ∀ x ∈ dnm, Cond.declares (Bundle.initS x) ∈ lw_tbl := by decide +kernel
  have m3 : ∀ x ∈ strs, Cond.stringRef RX0 x.1 x.2 ∈ lw_tbl := by decide +kernel
  have m4 : ∀ x ∈ strs, Cond.exactly (.string RX0 x.1) "java/lang/String" ∈ flatC (Jvm.Cond.and given_1 narrow_1) := by decide +kernel
  refine ⟨⟨⟨?_, ?_⟩, ⟨fun x hx => va_Nw.of rfl (hts _ (m1 x hx)), fun x hx => va_Nw.of rfl (hts _ (m2 x hx))⟩, fun x hx => ?_, ?_, hts (.arrayOver (.array .int)) (by decide +kernel), hts (.arrayOver (.array (.array .int))) (by decide +kernel)⟩, trivial⟩
  · exact vx_Zqof (hts (.laysStatic Bundle.tN "UNASSIGNED_STACK" Bundle.steD) (by decide +kernel)) (hts (.initialized Bundle.tN) (by decide +kernel)) (hs (.isRef (.static Bundle.tN "UNASSIGNED_STACK" Bundle.steD)) (by decide +kernel)) hA
  · exact vx_Zqof (hts (.laysStatic Bundle.tN "SUPPRESSED_SENTINEL" Bundle.listD) (by decide +kernel)) (hts (.initialized Bundle.tN) (by decide +kernel)) (hs (.isRef (.static Bundle.tN "SUPPRESSED_SENTINEL" Bundle.listD)) (by decide +kernel)) hA
  · obtain ⟨a, _, _, _, h, -⟩ := Cond.exactly_spec (hs _ (m4 x hx))
    exact ⟨a, vk_R.of (hts _ (m3 x hx)) h⟩
  · obtain ⟨t, h1, h2⟩ := va_Tof (tm := .static RX0 "TRAFFIC" "[I") (ty := .int) (N := 4) (f := fun j => .int (trf j)) (by decide) (hs (.arrayOf (.static RX0 "TRAFFIC" "[I") .int) (by decide +kernel)) (Cond.eq_int (n := 4) (hs (.eq (.length (.static RX0 "TRAFFIC" "[I")) (.int 4)) (by decide +kernel)) rfl)
      (fun j hj => by
        rcases (show j = 0 ∨ j = 1 ∨ j = 2 ∨ j = 3 by omega) with rfl | rfl | rfl | rfl
        · exact Cond.eq_int (n := 2) (hs (.eq (.elem (.static RX0 "TRAFFIC" "[I") (.int 0)) (.int 2)) (by decide +kernel)) rfl
        · exact Cond.eq_int (n := 4) (hs (.eq (.elem (.static RX0 "TRAFFIC" "[I") (.int 1)) (.int 4)) (by decide +kernel)) rfl
        · exact Cond.eq_int (n := 3) (hs (.eq (.elem (.static RX0 "TRAFFIC" "[I") (.int 2)) (.int 3)) (by decide +kernel)) rfl
        · exact Cond.eq_int (n := 1) (hs (.eq (.elem (.static RX0 "TRAFFIC" "[I") (.int 3)) (.int 1)) (by decide +kernel)) rfl) hA
    exact ⟨t, va_Zof (hts (.laysStatic RX0 "TRAFFIC" "[I") (by decide +kernel)) (hts (.initialized RX0) (by decide +kernel)) h1 hA, h2⟩
/-- the classes of arrays -/
theorem start_arr {ty : FieldType} (h : (Cond.arrayClass ty).before #[Value.ref b] s = true) : ∃ cA : ClassId, ArrOfT s cA ty ∧ s.vm.findClass ("[" ++ ty.toString) = some cA := by
  obtain ⟨cA, kA, comp, h1, h2, h3⟩ := Cond.arrayClass_spec h
  exact ⟨cA, fun n z => ⟨fun k h => (by cases h), kA, h2, comp, h3⟩, h1⟩
theorem start_ao {t : FieldType} (h : (Cond.arrayOver (.array t)).before #[] s = true) : ∃ cA : ClassId, ArrOfT s cA (.array t) ∧ s.vm.findClass ("[" ++ (FieldType.array t).toString) = some cA := by
  obtain ⟨comp, cA, kA, k1, -, k2, k3, k4⟩ := arrayOverA_spec h
  exact ⟨cA, fun n z => ⟨fun k h => (by cases h), kA, k2, comp, k3⟩, k4⟩
theorem start_k (hts : ∀ w ∈ lw_tbl, w.before #[Value.ref b] s = true) (hO : AOs s) : ∃ (D : va_G) (ci cz : ClassId) (cj : ClassId × ClassId), va_K D vwCl (tyL ci cz cj) s := by
  obtain ⟨c0, i0, k0⟩ := u_known hts inX0 (hts (.instantiable RX0 10) (by decide +kernel))
  obtain ⟨c1, i1, k1⟩ := u_known hts inX1 (hts (.instantiable RX1 5) (by decide +kernel))
  obtain ⟨ci, hi, hi'⟩ := start_arr (hts (.arrayClass .int) (by decide +kernel))
  obtain ⟨cz, hz, hz'⟩ := start_arr (hts (.arrayClass .boolean) (by decide +kernel))
  obtain ⟨cj, hj, hj'⟩ := start_ao hO.1
  obtain ⟨ck, hk, hk'⟩ := start_ao hO.2
  refine ⟨(fun c => if c = 0 then c0 else c1, fun c => if c = 0 then i0 else i1), ci, cz, (cj, ck), fun c q hq => ?_, fun k q hk9 => ?_⟩
  · have hc : c < 2 := (List.getElem?_eq_some_iff.mp hq).1
    rcases (show c = 0 ∨ c = 1 by omega) with rfl | rfl
    · cases Option.some.inj hq
      exact k0
    · cases Option.some.inj hq
      exact k1
  · have hc : k < 4 := (List.getElem?_eq_some_iff.mp hk9).1
    rcases (show k = 0 ∨ k = 1 ∨ k = 2 ∨ k = 3 by omega) with rfl | rfl | rfl | rfl
    · cases Option.some.inj hk9
      exact ⟨hi, hi'⟩
    · cases Option.some.inj hk9
      exact ⟨hz, hz'⟩
    · cases Option.some.inj hk9
      exact ⟨hj, hj'⟩
    · cases Option.some.inj hk9
      exact ⟨hk, hk'⟩
end START
