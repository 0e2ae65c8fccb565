/-! PART 27: small facts for the reference's walk. -/
section SPEC6
theorem inh_yes {g : Nat → Nat → Int32} {P p h f w i : Nat} {he : Nat → Int32} (hP : P ≤ 12) (H : HeOk g P p he) (hi : i < sCHe g P p) (hh : h < P) (e : he i = nI h) : sPar (own g f w p) (sCHe g P p) i = sInh g P p h f w := by
  obtain ⟨k, h1, h2, h3, h4⟩ := H.get hi
  have e1 : k = h := (nI_eq (by omega) (by omega)).mp (h4.symm.trans e)
  subst e1
  unfold sInh
  rw [if_pos h2, h3]
theorem inh_no {g : Nat → Nat → Int32} {P p h f w : Nat} {he : Nat → Int32} (H : HeOk g P p he) (hh : h < P) (hn : ∀ z, z < sCHe g P p → ¬ he z = nI h) : nI 0 = sInh g P p h f w := by
  unfold sInh
  rw [if_neg]
  intro hb
  exact hn (sCHB g P h p) (cn_lt (b := fun o => sIsH g P o p) hh hb) (H h hh hb)
theorem ri_n1 {b : Nat → Bool} {f : Nat → Int32} {n : Nat} (hn : n < 2 ^ 31) (h : (ri b f n).1 = -1) : (ri b f n).2 = -1 := by
  rcases ri_pos b f n with h1 | ⟨j, h1, h2, h3⟩
  · exact h1.2
  · rw [h2] at h
    have := congrArg Int32.toInt h
    rw [nI_toInt (by omega)] at this
    have h8 : (-1 : Int32).toInt = -1 := by decide
    omega
theorem ri_y {b : Nat → Bool} {f : Nat → Int32} {i : Nat} (h : b i = true) (h2 : (ri b f i).2 < f i) : ri b f (i + 1) = (nI i, f i) := by
  rw [ri, h, decide_eq_true h2]; rfl
theorem ri_z {b : Nat → Bool} {f : Nat → Int32} {i : Nat} (h2 : ¬ (ri b f i).2 < f i) : ri b f (i + 1) = ri b f i := by
  rw [ri, decide_eq_false h2, Bool.and_false]; rfl
theorem iv_c1 {F P : Nat} {g : Nat → Nat → Int32} (h : Iv F P g) (i : Nat) : (-1 : Int32) < g 4 i := by
  have h1 := (h.2.2.2.2.1 i).1
  rw [Int32.lt_iff_toInt_lt]
  have h8 : (-1 : Int32).toInt = -1 := by decide
  omega
theorem iv_dead {F P : Nat} {g : Nat → Nat → Int32} (h : Iv F P g) : ∀ z, z < P → lv g z = false → g 4 z = 0 := by
  intro z _ hz
  refine h.2.2.2.2.2.2.1 z (fun e => ?_)
  simp [lv, e] at hz
theorem he_ix {g : Nat → Nat → Int32} {P p h : Nat} {he : Nat → Int32} (hP : P ≤ 12) (H : HeOk g P p he) (hh : h < sCHe g P p) : ix (he h) < 12 ∧ he h = nI (ix (he h)) := by
  obtain ⟨k, h1, h2, h3, h4⟩ := H.get hh
  rw [h4, ix_nI (by omega)]
  exact ⟨by omega, rfl⟩
theorem n1l : (nI 1).toInt64 = 1 := by decide
theorem n0l : (nI 0).toInt64 = 0 := by decide
end SPEC6
