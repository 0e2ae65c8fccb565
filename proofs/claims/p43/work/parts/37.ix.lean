/-! PART 37: what holds of every state here, and after each change. -/
section IXX
/-- nn: how often was carried at most -/
def Ix (nn F P : Nat) (g : Nat → Nat → Int32) : Prop := Iw F P g ∧ (∀ z, F ≤ z → g 1 z = 0) ∧ (∀ p, P ≤ p → g 4 p = 0 ∧ g 5 p = 0) ∧ (∀ p, g 3 p = 0 ∨ g 3 p = 1) ∧ (∀ p, p < P → g 6 p = -1 ∨ ∃ r, r < p ∧ g 6 p = nI r) ∧ ∀ p, 0 ≤ (g 5 p).toInt ∧ (g 5 p).toInt ≤ 4000 * nn
variable {nn F P : Nat} {g g' : Nat → Nat → Int32}
theorem Ix.iw (h : Ix nn F P g) : Iw F P g := h.1
theorem Ix.iv (h : Ix nn F P g) : Iv F P g := h.1.1
theorem Ix.b (h : Ix nn F P g) : F ≤ 6 ∧ P ≤ 12 := h.1.1.1
theorem Ix.c1 (h : Ix nn F P g) : ∀ z, F ≤ z → g 1 z = 0 := h.2.1
theorem Ix.c45 (h : Ix nn F P g) : ∀ p, P ≤ p → g 4 p = 0 ∧ g 5 p = 0 := h.2.2.1
theorem Ix.c3 (h : Ix nn F P g) : ∀ p, g 3 p = 0 ∨ g 3 p = 1 := h.2.2.2.1
theorem Ix.c6 (h : Ix nn F P g) : ∀ p, p < P → g 6 p = -1 ∨ ∃ r, r < p ∧ g 6 p = nI r := h.2.2.2.2.1
theorem Ix.c5 (h : Ix nn F P g) : ∀ p, 0 ≤ (g 5 p).toInt ∧ (g 5 p).toInt ≤ 4000 * nn := h.2.2.2.2.2
theorem Ix.p3 (h : Ix nn F P g) : ∀ z, P ≤ z → g 3 z = 0 := h.1.1.2.2.2.2.2.1
theorem Ix.mono {nm : Nat} (h : Ix nn F P g) (hm : nn ≤ nm) : Ix nm F P g := ⟨h.1, h.c1, h.c45, h.c3, h.c6, fun p => ⟨(h.c5 p).1, by have := (h.c5 p).2; omega⟩⟩
theorem ix_0 : Ix 0 0 0 (fun _ _ => 0) := ⟨iw_0, fun _ _ => rfl, fun _ _ => ⟨rfl, rfl⟩, fun _ => Or.inl rfl, fun p hp => absurd hp (Nat.not_lt_zero _), fun p => ⟨by show 0 ≤ (0 : Int32).toInt; decide, by show (0 : Int32).toInt ≤ _; rw [Int32.toInt_zero]; omega⟩⟩
/-- the same but for the shares and the tolls -/
theorem Ix.sm (h : Ix nn F P g) (hw : Iw F P g') (e1 : g' 1 = g 1) (e3 : g' 3 = g 3) (e4 : ∀ p, P ≤ p → g' 4 p = g 4 p) (e5 : g' 5 = g 5) (e6 : g' 6 = g 6) : Ix nn F P g' := by
  refine ⟨hw, ?_, fun p hp => ?_, ?_, ?_, ?_⟩
  · rw [e1]; exact h.c1
  · rw [e4 p hp, e5]; exact h.c45 p hp
  · rw [e3]; exact h.c3
  · rw [e6]; exact h.c6
  · rw [e5]; exact h.c5
theorem ix_toll (h : Ix nn F P g) {f : Nat} {x : Int32} (hf : f < F) (h1 : 0 ≤ x.toInt) (h2 : x.toInt ≤ 20) : Ix nn F P (gTol g f x) :=
  h.sm (iw_tol h.1 (Nat.le_refl _) h.b.1 (fun z h1 h2 => by omega) h1 h2) rfl rfl (fun _ _ => rfl) rfl rfl
theorem ix_ferry (h : Ix nn F P g) {x : Int32} (hF : F < 6) (h1 : 0 ≤ x.toInt) (h2 : x.toInt ≤ 20) : Ix nn (F + 1) P (gTol g F x) :=
  ⟨iw_tol h.1 (Nat.le_succ _) hF (fun z h1 h2 => by omega) h1 h2, fun z hz => h.c1 z (by omega), h.c45, h.c3, h.c6, h.c5⟩
theorem ix_person (h : Ix nn F P g) {x : Int32} (hP : P < 12) (hx : x = -1 ∨ ∃ r, r < P ∧ x = nI r) : Ix nn F (P + 1) (gPar g P x) := by
  have hne : x ≠ nI P := by
    rcases hx with rfl | ⟨r, hr, rfl⟩
    · exact neg1_nI (by omega)
    · intro e
      have := (nI_eq (by omega) (by omega)).mp e
      omega
  refine ⟨iw_par h.1 hP hne, h.c1, fun p hp => h.c45 p (by omega), h.c3, fun p hp => ?_, h.c5⟩
  show upd (g 6) P x p = -1 ∨ ∃ r, r < p ∧ upd (g 6) P x p = nI r
  unfold upd
  by_cases e : p = P
  · rw [if_pos e, e]
    exact hx
  · rw [if_neg e]
    exact h.c6 p (by omega)
theorem ix_get (h : Ix nn F P g) {k : Nat} {x : Int32} (hk : k < P) (h1 : 0 ≤ x.toInt) (h2 : x.toInt ≤ 1000000) (h3 : lv g k = true) : Ix nn F P (gGet g k x) := by
  refine h.sm (iw_get h.1 h1 h2 (Or.inl h3)) rfl rfl (fun p hp => ?_) rfl rfl
  show upd (g 4) k _ p = g 4 p
  exact if_neg (by omega)
theorem ix_grant (h : Ix nn F P g) {f w k : Nat} {x : Int32} (hf : f < F) (hw : w < 4) (hk : k < P) (h1 : 1 ≤ x.toInt) (h2 : x.toInt ≤ 64) (h3 : x ≤ sCro g P f w) (h4 : lv g k = true) : Ix nn F P (gAdd g f w k x) := by
  have hF := h.b.1
  have ho := iv_own h.iv (f := f) (w := w) (p := k) (by omega) hw (by have := h.b.2; omega)
  have hc := cro_toInt h.iv (f := f) (w := w) (by omega) hw
  rw [Int32.le_iff_toInt_le] at h3
  exact h.sm (iw_add h.1 hf hw hk (by omega) h2 (by omega) (by omega) (Or.inl h4)) rfl rfl (fun _ _ => rfl) rfl rfl
theorem ix_give (h : Ix nn F P g) {f w a b : Nat} {x : Int32} (hf : f < F) (hw : w < 4) (ha : a < P) (hb : b < P) (hab : a ≠ b) (h1 : 1 ≤ x.toInt) (h2 : x ≤ own g f w a) (h3 : lv g b = true) : Ix nn F P (gGiv g a b f w x) := by
  rw [Int32.le_iff_toInt_le] at h2
  exact h.sm (iw_mv h.1 hf hw ha hb hab h1 h2 h3) rfl rfl (fun _ _ => rfl) rfl rfl
theorem ix_buy (h : Ix nn F P g) {b s f w : Nat} (hf : f < F) (hw : w < 4) (hb : b < P) (hs : s < P) (hm : sMay g P b s f w = true) : Ix nn F P (gBuy g b s f w) := by
  have hP := h.b.2
  unfold sMay at hm
  simp only [Bool.and_eq_true, decide_eq_true_eq] at hm
  obtain ⟨hl, hbs, hc, ho, -⟩ := hm
  have hpr := iv_prib h.iv (f := f) (w := w) (k := s) hf hw (by omega)
  rw [Int32.lt_iff_toInt_lt] at hc
  have os := iv_own h.iv (f := f) (w := w) (p := s) (by have := h.b.1; omega) hw (by omega)
  have ho1 : 1 ≤ (own g f w s).toInt := by
    by_cases e : (own g f w s).toInt = 0
    · exact absurd (i32_0 e) ho
    · omega
  have hls : lv g s = true := by
    by_cases hd : g 3 s = 0
    · exact decide_eq_true hd
    · have := h.1.2 f w s (by have := h.b.1; omega) hw (by omega) hd
      exact absurd this ho
  have i1 : Iw F P (gPay g b (sPri g f w s)) := iw_pay h.1 hpr.1 (by omega) hl
  have i2 : Iw F P (gGet (gPay g b (sPri g f w s)) s (sPri g f w s)) := iw_get i1 hpr.1 (by omega) (Or.inl hls)
  have i3 := iw_mv i2 (f := f) (w := w) (a := s) (b := b) (n := own g f w s) hf hw hs hb (Ne.symm hbs) ho1 (Int.le_refl _) hl
  refine h.sm i3 rfl rfl (fun p hp => ?_) rfl rfl
  show upd (upd (g 4) b _) s _ p = g 4 p
  unfold upd
  rw [if_neg (by omega), if_neg (by omega)]
theorem ix_die (h : Ix nn F P g) {k : Nat} (hk : k < P) : Ix nn F P (gDie g F P k) := by
  have hw := iw_die h.1 hk
  have hP := h.b.2
  rw [die_0 g hP (by omega)] at hw ⊢
  refine ⟨hw, h.c1, fun p hp => ⟨?_, (h.c45 p hp).2⟩, fun p => ?_, h.c6, h.c5⟩
  · show (if p = k then nI 0 else if p < P ∧ sIsH g P p k = true then _ else g 4 p) = 0
    rw [if_neg (by omega), if_neg (by omega)]
    exact (h.c45 p hp).1
  · show (if p = k then nI 1 else g 3 p) = 0 ∨ (if p = k then nI 1 else g 3 p) = 1
    by_cases e : p = k
    · rw [if_pos e]; exact Or.inr rfl
    · rw [if_neg e]; exact h.c3 p
/-- fares: never more than all of it -/
theorem far_b (h : Iv F P g) {f w k : Nat} {n : Int32} (hf : f < F) (hw : w < 4) (hk : k < 12) (h1 : 0 ≤ n.toInt) (h2 : n.toInt ≤ 200) : 0 ≤ (sFar g f w k n).toInt ∧ (sFar g f w k n).toInt ≤ 4000 := by
  obtain ⟨t1, t2⟩ := h.2.1 f hf
  obtain ⟨o1, o2⟩ := iv_own h (f := f) (w := w) (p := k) (by have := h.1; omega) hw hk
  obtain ⟨a, ha, ea⟩ := nI_of (x := g 0 f) (by rw [Int32.lt_iff_toInt_lt, Int32.toInt_zero]; omega)
  obtain ⟨b, hb, eb⟩ := nI_of (x := n) (by rw [Int32.lt_iff_toInt_lt, Int32.toInt_zero]; omega)
  obtain ⟨c, hc, ec⟩ := nI_of (x := own g f w k) (by rw [Int32.lt_iff_toInt_lt, Int32.toInt_zero]; omega)
  rw [ea, nI_toInt ha] at t2
  rw [eb, nI_toInt hb] at h2
  rw [ec, nI_toInt hc] at o2
  have h3 : a * b ≤ 20 * 200 := Nat.mul_le_mul (by omega) (by omega)
  have h4 : a * b * c ≤ 4000 * 64 := Nat.mul_le_mul h3 (by omega)
  have h5 : a * b * c / 64 ≤ 4000 := by omega
  unfold sFar
  rw [ea, eb, ec, pk_mul, pk_mul, pk_div (by omega) (by decide) (by decide), nI_toInt (by omega)]
  omega
theorem car_4 {f w : Nat} {n : Int32} : ∀ i p, i ≤ p → gCar g f w n i 4 p = g 4 p ∧ gCar g f w n i 5 p = g 5 p
  | 0, _, _ => ⟨rfl, rfl⟩
  | i + 1, p, hp => by
    have ih := car_4 (f := f) (w := w) (n := n) i p (by omega)
    refine ⟨?_, ?_⟩
    · show upd (gCar g f w n i 4) i _ p = g 4 p
      unfold upd
      rw [if_neg (by omega)]
      exact ih.1
    · show upd (gCar g f w n i 5) i _ p = g 5 p
      unfold upd
      rw [if_neg (by omega)]
      exact ih.2
theorem ix_car5 (h : Ix nn F P g) {f w : Nat} {n : Int32} (hf : f < F) (hw : w < 4) (h1 : 0 ≤ n.toInt) (h2 : n.toInt ≤ 200) (hnn : nn ≤ 1000) : ∀ i, i ≤ 12 → ∀ p, 0 ≤ (gCar g f w n i 5 p).toInt ∧ (gCar g f w n i 5 p).toInt ≤ 4000 * nn + (if p < i then 4000 else 0)
  | 0, _, p => by
    have := h.c5 p
    show 0 ≤ (g 5 p).toInt ∧ (g 5 p).toInt ≤ 4000 * nn + (if p < 0 then 4000 else 0)
    rw [if_neg (Nat.not_lt_zero _)]
    omega
  | i + 1, hi, p => by
    have ih := ix_car5 h hf hw h1 h2 hnn i (by omega) p
    have hiw := iw_car h.1 hf hw h1 h2 i (by omega)
    have hb := far_b hiw.1 (k := i) hf hw (by omega) h1 h2
    show 0 ≤ (upd (gCar g f w n i 5) i (gCar g f w n i 5 i + sFar (gCar g f w n i) f w i n) p).toInt ∧ (upd (gCar g f w n i 5) i (gCar g f w n i 5 i + sFar (gCar g f w n i) f w i n) p).toInt ≤ _
    unfold upd
    by_cases e : p = i
    · subst e
      rw [if_neg (Nat.lt_irrefl _)] at ih
      rw [if_pos rfl, if_pos (by omega), toInt_add_of (by omega) (by omega) (by omega) (by omega)]
      omega
    · rw [if_neg e]
      by_cases h3 : p < i
      · rw [if_pos h3] at ih
        rw [if_pos (by omega)]
        exact ih
      · rw [if_neg h3] at ih
        rw [if_neg (by omega)]
        exact ih
theorem ix_cry (h : Ix nn F P g) {f w : Nat} {n : Int32} (hf : f < F) (hw : w < 4) (h1 : 0 ≤ n.toInt) (h2 : n.toInt ≤ 200) (hnn : nn ≤ 1000) : Ix (nn + 1) F P (gCry g P f w n) := by
  have hP := h.b.2
  have e3 : gCry g P f w n 3 = g 3 := car_o 3 (by decide) (by decide) P
  have e6 : gCry g P f w n 6 = g 6 := car_o 6 (by decide) (by decide) P
  refine ⟨iw_cry h.1 hf hw h1 h2, fun z hz => ?_, fun p hp => ?_, fun p => by rw [e3]; exact h.c3 p, fun p hp => by rw [e6]; exact h.c6 p hp, fun p => ?_⟩
  · show upd (gCar g f w n P 1) f _ z = 0
    unfold upd
    rw [if_neg (by omega), car_o 1 (by decide) (by decide)]
    exact h.c1 z hz
  · obtain ⟨a, b⟩ := car_4 (g := g) (f := f) (w := w) (n := n) P p hp
    obtain ⟨a', b'⟩ := h.c45 p hp
    exact ⟨a.trans a', b.trans b'⟩
  · have h9 := ix_car5 h hf hw h1 h2 hnn P hP p
    have e : gCry g P f w n 5 p = gCar g f w n P 5 p := rfl
    rw [e]
    split at h9 <;> omega
theorem mas_in {f : Nat} (h : 0 ≤ sMas g P f) (hP : P ≤ 12) : inR (sMas g P f) P := by
  by_cases hb : ∃ k, k < P ∧ decide (nI 128 < sFer g f k) = true
  · obtain ⟨k, hk, hb⟩ := hb
    have key : ∀ n i, i + n = P → (∃ k, i ≤ k ∧ k < i + n ∧ decide (nI 128 < sFer g f k) = true) → inR (ff (fun p => decide (nI 128 < sFer g f p)) n i) P := by
      intro n
      induction n with
      | zero => rintro i _ ⟨k, h1, h2, -⟩; omega
      | succ n ih =>
        rintro i hi ⟨k, h1, h2, h3⟩
        unfold ff
        split
        · exact inR_nI (by omega) (by omega)
        · next hn =>
          refine ih (i + 1) (by omega) ⟨k, ?_, by omega, h3⟩
          by_cases e : i = k
          · subst e; exact absurd h3 hn
          · omega
    exact key P 0 (by omega) ⟨k, Nat.zero_le _, by omega, hb⟩
  · have e : sMas g P f = -1 := ff_none (fun z hz => by
      cases h9 : decide (nI 128 < sFer g f z) with
      | false => rfl
      | true => exact absurd ⟨z, hz, h9⟩ hb)
    rw [e] at h
    exact absurd h (by decide)
theorem may_and {b s f w : Nat} (h : sMay g P b s f w = true) : b ≠ s ∧ lv g b = true := by
  unfold sMay at h
  simp only [Bool.and_eq_true, decide_eq_true_eq] at h
  exact ⟨h.2.1, h.1⟩
end IXX
