/-! PART 34: what holds of every state holds at first and after each change. -/
section SPEC8
/-- .. and the dead own nothing -/
def Iw (F P : Nat) (g : Nat → Nat → Int32) : Prop := Iv F P g ∧ ∀ f w p, f < 6 → w < 4 → p < 12 → ¬ g 3 p = 0 → own g f w p = 0
theorem si_congr {f f' : Nat → Int} {n : Nat} (h : ∀ p, p < n → f p = f' p) : si f n = si f' n := by
  induction n with
  | zero => rfl
  | succ n ih =>
    show si f n + f n = si f' n + f' n
    rw [ih (fun p hp => h p (by omega)), h n (by omega)]
theorem si_at {f f' : Nat → Int} {n k : Nat} {x : Int} (hk : k < n) (h : ∀ p, p < n → f' p = if p = k then f p + x else f p) : si f' n = si f n + x := by
  induction n with
  | zero => omega
  | succ n ih =>
    show si f' n + f' n = si f n + f n + x
    by_cases hkn : k = n
    · subst hkn
      rw [si_congr (f := f') (f' := f) (fun p hp => by rw [h p (by omega), if_neg (by omega)]), h k (by omega), if_pos rfl]
      omega
    · rw [ih (by omega) (fun p hp => h p (by omega)), h n (by omega), if_neg (fun e => hkn e.symm)]
      omega
theorem si_0 {f : Nat → Int} {n : Nat} (h : ∀ p, p < n → f p = 0) : si f n = 0 := by
  induction n with
  | zero => rfl
  | succ n ih =>
    show si f n + f n = 0
    rw [ih (fun p hp => h p (by omega)), h n (by omega)]
    rfl
theorem sl_inj {f w p f' w' p' : Nat} (hw : w < 4) (hw' : w' < 4) (hp : p < 12) (hp' : p' < 12) (h : sl f w p = sl f' w' p') : f = f' ∧ w = w' ∧ p = p' := by
  unfold sl at h
  omega
theorem own_add {g : Nat → Nat → Int32} {f w k : Nat} {x : Int32} (hw : w < 4) (hk : k < 12) {f' w' p : Nat} (hw' : w' < 4) (hp : p < 12) : own (gAdd g f w k x) f' w' p = if f' = f ∧ w' = w ∧ p = k then own g f w k + x else own g f' w' p := by
  unfold own gAdd va_up upd
  rw [if_pos rfl]
  by_cases h : f' = f ∧ w' = w ∧ p = k
  · obtain ⟨rfl, rfl, rfl⟩ := h
    rw [if_pos rfl, if_pos ⟨rfl, rfl, rfl⟩]
  · rw [if_neg h, if_neg (fun e => h (sl_inj hw' hw hp hk e))]
theorem i32_0 {x : Int32} (h : x.toInt = 0) : x = 0 := Int32.toInt_inj.mp (h.trans Int32.toInt_zero.symm)
theorem lv_3 {g : Nat → Nat → Int32} {k : Nat} (h : lv g k = true) : g 3 k = 0 := of_decide_eq_true h
variable {F P : Nat} {g : Nat → Nat → Int32}
theorem Iw.iv (h : Iw F P g) : Iv F P g := h.1
/-- the sum of the shares of a watch after a change of one -/
theorem si_add (h : Iv F P g) {f w k : Nat} {x : Int32} (hf : f < 6) (hw : w < 4) (hk : k < 12) (h1 : -64 ≤ x.toInt) (h2 : x.toInt ≤ 64) : si (fun p => (own (gAdd g f w k x) f w p).toInt) 12 = si (fun p => (own g f w p).toInt) 12 + x.toInt := by
  refine si_at hk (fun p hp => ?_)
  have hb := iv_own h hf hw hk
  rw [own_add hw hk hw hp]
  by_cases hpk : p = k
  · subst hpk
    rw [if_pos ⟨rfl, rfl, rfl⟩, if_pos rfl, toInt_add_of (by omega) (by omega) (by omega) (by omega)]
  · rw [if_neg (fun e => hpk e.2.2), if_neg hpk]
theorem iw_add (h : Iw F P g) {f w k : Nat} {x : Int32} (hf : f < F) (hw : w < 4) (hk : k < P) (h1 : -64 ≤ x.toInt) (h2 : x.toInt ≤ 64) (h3 : 0 ≤ (own g f w k).toInt + x.toInt) (h4 : si (fun p => (own g f w p).toInt) 12 + x.toInt ≤ 64) (h5 : lv g k = true ∨ own g f w k + x = 0) : Iw F P (gAdd g f w k x) := by
  obtain ⟨hI, hd⟩ := h
  obtain ⟨⟨hF, hP⟩, c0, c2, c3, c4, c5, c6, c7⟩ := hI
  have hI : Iv F P g := ⟨⟨hF, hP⟩, c0, c2, c3, c4, c5, c6, c7⟩
  have hk12 : k < 12 := by omega
  have hb := iv_own hI (f := f) (w := w) (p := k) (by omega) hw hk12
  have e1 : (own g f w k + x).toInt = (own g f w k).toInt + x.toInt := toInt_add_of (by omega) (by omega) (by omega) (by omega)
  refine ⟨⟨⟨hF, hP⟩, c0, fun f' w' hf' hw' => ⟨fun p hp => ?_, ?_⟩, fun f' w' p hf' hw' hp hz => ?_, c4, c5, c6, c7⟩, fun f' w' p hf' hw' hp hz => ?_⟩
  · rw [own_add hw hk12 hw' hp]
    split
    · rw [e1]; exact h3
    · exact (c2 f' w' hf' hw').1 p hp
  · by_cases hfw : f' = f ∧ w' = w
    · obtain ⟨rfl, rfl⟩ := hfw
      rw [si_add hI hf' hw hk12 h1 h2]
      exact h4
    · rw [si_congr (f' := fun p => (own g f' w' p).toInt) (fun p hp => by rw [own_add hw hk12 hw' hp, if_neg (fun e => hfw ⟨e.1, e.2.1⟩)])]
      exact (c2 f' w' hf' hw').2
  · rw [own_add hw hk12 hw' hp, if_neg (fun e => by omega)]
    exact c3 f' w' p hf' hw' hp hz
  · rw [own_add hw hk12 hw' hp]
    split
    · next e =>
      obtain ⟨rfl, rfl, rfl⟩ := e
      rcases h5 with h5 | h5
      · exact absurd (lv_3 h5) hz
      · exact h5
    · exact hd f' w' p hf' hw' hp hz
/-- what speaks of coins alone -/
theorem iw_c {g' : Nat → Nat → Int32} (h : Iw F P g) (e0 : g' 0 = g 0) (e2 : g' 2 = g 2) (e3 : g' 3 = g 3) (e6 : g' 6 = g 6) (h4 : ∀ p, 0 ≤ (g' 4 p).toInt ∧ (g' 4 p).toInt ≤ 9999) (h5 : ∀ p, ¬ g 3 p = 0 → g' 4 p = 0) : Iw F P g' := by
  obtain ⟨⟨hFP, c0, c2, c3, c4, c5, c6, c7⟩, hd⟩ := h
  have eo : own g' = own g := by unfold own; rw [e2]
  exact ⟨⟨hFP, by rw [e0]; exact c0, by rw [eo]; exact c2, by rw [eo]; exact c3, h4, by rw [e3]; exact c5, by rw [e3]; exact h5, by rw [e6]; exact c7⟩, by rw [e3, eo]; exact hd⟩
theorem mn_b {x : Int32} (h : 0 ≤ x.toInt) : 0 ≤ (mn x).toInt ∧ (mn x).toInt ≤ 9999 := by
  have e : (nI 9999).toInt = 9999 := by decide
  unfold mn
  split
  · next h1 =>
    rw [Int32.lt_iff_toInt_lt] at h1
    omega
  · omega
theorem iw_get (h : Iw F P g) {k : Nat} {x : Int32} (h1 : 0 ≤ x.toInt) (h2 : x.toInt ≤ 1000000) (h3 : lv g k = true ∨ x = 0) : Iw F P (gGet g k x) := by
  have c4 := h.1.2.2.2.2.1
  have c6 := h.1.2.2.2.2.2.2.1
  refine iw_c h rfl rfl rfl rfl (fun p => ?_) (fun p hp => ?_)
  · show 0 ≤ (upd (g 4) k (mn (g 4 k + x)) p).toInt ∧ (upd (g 4) k (mn (g 4 k + x)) p).toInt ≤ 9999
    unfold upd
    split
    · refine mn_b ?_
      have := c4 k
      rw [toInt_add_of (by omega) (by omega) (by omega) (by omega)]
      omega
    · exact c4 p
  · show upd (g 4) k (mn (g 4 k + x)) p = 0
    unfold upd
    split
    · next e =>
      subst e
      rcases h3 with h3 | h3
      · exact absurd (lv_3 h3) hp
      · rw [c6 p hp, h3]; decide
    · exact c6 p hp
theorem iw_pay (h : Iw F P g) {k : Nat} {x : Int32} (h1 : 0 ≤ x.toInt) (h2 : x.toInt ≤ (g 4 k).toInt) (h3 : lv g k = true) : Iw F P (gPay g k x) := by
  have c4 := h.1.2.2.2.2.1
  have c6 := h.1.2.2.2.2.2.2.1
  refine iw_c h rfl rfl rfl rfl (fun p => ?_) (fun p hp => ?_)
  · show 0 ≤ (upd (g 4) k (g 4 k - x) p).toInt ∧ (upd (g 4) k (g 4 k - x) p).toInt ≤ 9999
    unfold upd
    split
    · have := c4 k
      rw [toInt_sub_of (by omega) (by omega) (by omega) (by omega)]
      omega
    · exact c4 p
  · show upd (g 4) k (g 4 k - x) p = 0
    unfold upd
    split
    · next e =>
      subst e
      exact absurd (lv_3 h3) hp
    · exact c6 p hp
theorem iw_o (h : Iw F P g) {g' : Nat → Nat → Int32} (e0 : g' 0 = g 0) (e2 : g' 2 = g 2) (e3 : g' 3 = g 3) (e4 : g' 4 = g 4) (e6 : g' 6 = g 6) : Iw F P g' :=
  iw_c h e0 e2 e3 e6 (by rw [e4]; exact h.1.2.2.2.2.1) (by rw [e4]; exact h.1.2.2.2.2.2.2.1)
theorem iw_tol (h : Iw F P g) {F' f : Nat} {x : Int32} (h1 : F ≤ F') (h2 : F' ≤ 6) (h3 : ∀ z, z < F' → F ≤ z → z = f) (h4 : 0 ≤ x.toInt) (h5 : x.toInt ≤ 20) : Iw F' P (gTol g f x) := by
  obtain ⟨⟨⟨hF, hP⟩, c0, c2, c3, c4, c5, c6, c7⟩, hd⟩ := h
  refine ⟨⟨⟨h2, hP⟩, fun z hz => ?_, c2, fun f' w p hf hw hp hz => c3 f' w p hf hw hp (by omega), c4, c5, c6, c7⟩, hd⟩
  show 0 ≤ (upd (g 0) f x z).toInt ∧ (upd (g 0) f x z).toInt ≤ 20
  unfold upd
  split
  · exact ⟨h4, h5⟩
  · next e =>
    refine c0 z ?_
    by_cases hz2 : z < F
    · exact hz2
    · exact absurd (h3 z hz (by omega)) e
theorem iw_par (h : Iw F P g) {x : Int32} (h1 : P < 12) (h2 : x ≠ nI P) : Iw F (P + 1) (gPar g P x) := by
  obtain ⟨⟨⟨hF, hP⟩, c0, c2, c3, c4, c5, c6, c7⟩, hd⟩ := h
  refine ⟨⟨⟨hF, by omega⟩, c0, c2, fun f' w p hf hw hp hz => c3 f' w p hf hw hp (by omega), c4, fun p hp => c5 p (by omega), c6, fun p hp => ?_⟩, hd⟩
  show upd (g 6) P x p ≠ nI p
  unfold upd
  split
  · next e => subst e; exact h2
  · exact c7 p (by omega)
theorem iw_0 : Iw 0 0 (fun _ _ => 0) := by
  refine ⟨⟨⟨by decide, by decide⟩, fun f hf => by omega, fun f w hf hw => ⟨fun p hp => by show 0 ≤ (0 : Int32).toInt; decide, ?_⟩, fun f w p _ _ _ _ => rfl, fun p => by show 0 ≤ (0 : Int32).toInt ∧ (0 : Int32).toInt ≤ 9999; decide, fun p _ => rfl, fun p h => absurd rfl h, fun p hp => by omega⟩, fun f w p _ _ _ _ => rfl⟩
  rw [si_0 (fun p _ => (show (own (fun _ _ => 0) f w p).toInt = 0 from by show (0 : Int32).toInt = 0; decide))]
  decide
/-- the crown's shares -/
theorem sd_toInt (f : Nat → Int32) (n : Nat) (h : ∀ p, p < n → 0 ≤ (f p).toInt ∧ (f p).toInt ≤ 64) (hn : n ≤ 12) : (sd (nI 64) f n).toInt = 64 - si (fun p => (f p).toInt) n ∧ 0 ≤ si (fun p => (f p).toInt) n ∧ si (fun p => (f p).toInt) n ≤ 64 * n := by
  induction n with
  | zero => exact ⟨(show (nI 64).toInt = 64 - 0 by decide), Int.le_refl _, Int.le_refl _⟩
  | succ n ih =>
    obtain ⟨h1, h2, h3⟩ := ih (fun p hp => h p (by omega)) (by omega)
    have h4 := h n (by omega)
    refine ⟨?_, ?_, ?_⟩
    · show (sd (nI 64) f n - f n).toInt = 64 - (si (fun p => (f p).toInt) n + (f n).toInt)
      rw [toInt_sub_of (by omega) (by omega) (by omega) (by omega), h1]
      omega
    · show 0 ≤ si (fun p => (f p).toInt) n + (f n).toInt
      omega
    · show si (fun p => (f p).toInt) n + (f n).toInt ≤ 64 * ((n + 1 : Nat) : Int)
      omega
theorem si_P {a : Nat → Int} {P n : Nat} (h1 : P ≤ n) (h : ∀ p, P ≤ p → p < n → a p = 0) : si a n = si a P := by
  induction n with
  | zero => rw [show P = 0 by omega]
  | succ n ih =>
    by_cases hp : P = n + 1
    · rw [hp]
    · show si a n + a n = _
      rw [ih (by omega) (fun p h2 h3 => h p h2 (by omega)), h n (by omega) (by omega)]
      omega
theorem cro_toInt (h : Iv F P g) {f w : Nat} (hf : f < 6) (hw : w < 4) : (sCro g P f w).toInt = 64 - si (fun p => (own g f w p).toInt) 12 := by
  have hP := h.1.2
  rw [si_P hP (fun p h1 h2 => by rw [h.2.2.2.1 f w p hf hw h2 (Or.inr h1)]; exact Int32.toInt_zero)]
  exact (sd_toInt (fun p => own g f w p) P (fun p hp => iv_own h hf hw (by omega)) hP).1
/-- carrying -/
theorem iv_far (h : Iv F P g) {f w k : Nat} {n : Int32} (hf : f < F) (hw : w < 4) (hk : k < 12) (h1 : 0 ≤ n.toInt) (h2 : n.toInt ≤ 200) : 0 ≤ (sFar g f w k n).toInt ∧ (sFar g f w k n).toInt ≤ 1000000 := by
  obtain ⟨t1, t2⟩ := h.2.1 f hf
  obtain ⟨o1, o2⟩ := iv_own h (f := f) (w := w) (p := k) (by have := h.1; omega) hw hk
  obtain ⟨a, ha, ea⟩ := nI_of (x := g 0 f) (by rw [Int32.lt_iff_toInt_lt, Int32.toInt_zero]; omega)
  obtain ⟨b, hb, eb⟩ := nI_of (x := n) (by rw [Int32.lt_iff_toInt_lt, Int32.toInt_zero]; omega)
  obtain ⟨c, hc, ec⟩ := nI_of (x := own g f w k) (by rw [Int32.lt_iff_toInt_lt, Int32.toInt_zero]; omega)
  rw [ea, nI_toInt ha] at t2
  rw [eb, nI_toInt hb] at h2
  rw [ec, nI_toInt hc] at o2
  have h3 : a * b ≤ 20 * 200 := Nat.mul_le_mul (by omega) (by omega)
  have h4 : a * b * c ≤ 4000 * 64 := Nat.mul_le_mul h3 (by omega)
  have h5 : a * b * c / 64 ≤ a * b * c := Nat.div_le_self _ _
  unfold sFar
  rw [ea, eb, ec, pk_mul, pk_mul, pk_div (by omega) (by decide) (by decide), nI_toInt (by omega)]
  omega
theorem far_0 {f w k : Nat} {n : Int32} (h : own g f w k = 0) : sFar g f w k n = 0 := by
  unfold sFar
  rw [h, Int32.mul_zero]
  decide
theorem iw_car (h : Iw F P g) {f w : Nat} {n : Int32} (hf : f < F) (hw : w < 4) (h1 : 0 ≤ n.toInt) (h2 : n.toInt ≤ 200) : ∀ i, i ≤ 12 → Iw F P (gCar g f w n i)
  | 0, _ => h
  | i + 1, hi => by
    have ih := iw_car h hf hw h1 h2 i (by omega)
    have hb := iv_far ih.1 (k := i) hf hw (by omega) h1 h2
    refine iw_get (iw_o (g' := gEar (gCar g f w n i) i (sFar (gCar g f w n i) f w i n)) ih rfl rfl rfl rfl rfl) hb.1 hb.2 ?_
    by_cases hd : gCar g f w n i 3 i = 0
    · exact Or.inl (decide_eq_true hd)
    · exact Or.inr (far_0 (ih.2 f w i (by have := ih.1.1; omega) hw (by omega) hd))
theorem iw_cry (h : Iw F P g) {f w : Nat} {n : Int32} (hf : f < F) (hw : w < 4) (h1 : 0 ≤ n.toInt) (h2 : n.toInt ≤ 200) : Iw F P (gCry g P f w n) :=
  iw_o (iw_car h hf hw h1 h2 P h.1.1.2) rfl rfl rfl rfl rfl
/-- giving, buying -/
theorem own_self {f w k : Nat} {x : Int32} : own (gAdd g f w k x) f w k = own g f w k + x := by
  unfold own gAdd va_up upd
  rw [if_pos rfl, if_pos rfl]
theorem iw_mv (h : Iw F P g) {f w a b : Nat} {n : Int32} (hf : f < F) (hw : w < 4) (ha : a < P) (hb : b < P) (hab : a ≠ b) (h1 : 1 ≤ n.toInt) (h2 : n.toInt ≤ (own g f w a).toInt) (h3 : lv g b = true) : Iw F P (gAdd (gAdd g f w a (-n)) f w b n) := by
  have hP := h.1.1.2
  have hF := h.1.1.1
  have ho := iv_own h.1 (f := f) (w := w) (p := a) (by omega) hw (by omega)
  have en : (-n).toInt = - n.toInt := by
    have e0 : -n = 0 - n := (Int32.zero_sub n).symm
    rw [e0, toInt_sub_of (by decide) (by decide) (by omega) (by omega), Int32.toInt_zero]
    omega
  have hs := (h.1.2.2.1 f w (by omega) hw).2
  have hla : lv g a = true := by
    by_cases hd : g 3 a = 0
    · exact decide_eq_true hd
    · have := h.2 f w a (by omega) hw (by omega) hd
      rw [this, Int32.toInt_zero] at h2
      omega
  have s1 := si_add h.1 (f := f) (w := w) (k := a) (x := -n) (by omega) hw (by omega) (by omega) (by omega)
  have i1 : Iw F P (gAdd g f w a (-n)) := iw_add h hf hw ha (by omega) (by omega) (by omega) (by omega) (Or.inl hla)
  have ob := iv_own i1.1 (f := f) (w := w) (p := b) (by omega) hw (by omega)
  refine iw_add i1 hf hw hb (by omega) (by omega) (by omega) (by omega) (Or.inl h3)
/-- parts -/
theorem par_sum : ∀ e, e < 65 → ∀ c, c < 13 → 0 < c → si (fun h => (sPar (nI e) c h).toInt) c = e ∧ ∀ h, h < c → 0 ≤ (sPar (nI e) c h).toInt ∧ (sPar (nI e) c h).toInt ≤ 64 := by decide +kernel
theorem par_b {x : Int32} (h1 : 0 ≤ x.toInt) (h2 : x.toInt ≤ 9999) {c : Nat} (hc : c ≤ 12) (k : Nat) : 0 ≤ (sPar x c k).toInt ∧ (sPar x c k).toInt ≤ 10000 := by
  obtain ⟨n, hn, rfl⟩ := nI_of (x := x) (by rw [Int32.lt_iff_toInt_lt, Int32.toInt_zero]; omega)
  rw [nI_toInt hn] at h2
  unfold sPar
  split
  · rw [nI_toInt hn]; omega
  · next hc1 =>
    have a1 : n / 2 ≤ n := Nat.div_le_self _ _
    have a2 : n / 2 / (c - 1) ≤ n / 2 := Nat.div_le_self _ _
    rw [pk_div hn (by decide) (by decide)]
    split
    · rw [pk_sub a1, nI_toInt (by omega)]; omega
    · rw [pk_div (by omega) (by omega) (by omega)]
      generalize n / 2 / (c - 1) = m at a2 ⊢
      split
      · rw [nI_add, nI_toInt (by omega)]; omega
      · rw [nI_toInt (by omega)]; omega
theorem own_die {k c f w p : Nat} (hw : w < 4) (hp : p < 12) : own (dC g F P k c) f w p = if f < F then (if p = k then nI 0 else if p < P ∧ sIsH g P p k = true then own g f w p + sPar (own g f w k) c (sCHB g P p k) else own g f w p) else own g f w p := by
  obtain ⟨e1, e2⟩ := sl_dm (f := f) (w := w) hp
  unfold own dC
  rw [if_pos rfl, e1, e2]
  by_cases hf : f < F
  · rw [if_pos hf, if_pos (by omega)]
    rfl
  · rw [if_neg hf, if_neg (by omega)]
theorem die_si {isH : Nat → Bool} {a b S : Nat → Int} {k : Nat} (hk : isH k = false) (n : Nat) (h : ∀ p, p < n → b p = if p = k then 0 else if isH p = true then a p + S (cn isH p) else a p) : si b n = si a n - (if k < n then a k else 0) + si S (cn isH n) := by
  induction n with
  | zero => rfl
  | succ n ih =>
    have ih := ih (fun p hp => h p (by omega))
    have hn := h n (by omega)
    have e1 : si b (n + 1) = si b n + b n := rfl
    have e2 : si a (n + 1) = si a n + a n := rfl
    have e3 : cn isH (n + 1) = if isH n then cn isH n + 1 else cn isH n := rfl
    by_cases hnk : n = k
    · subst hnk
      rw [if_pos rfl] at hn
      rw [if_neg (by omega)] at ih
      rw [e1, e2, e3, hk, hn, ih, if_pos (by omega)]
      simp
    · rw [if_neg hnk] at hn
      have e4 : (if k < n + 1 then a k else 0) = (if k < n then a k else 0) := by
        by_cases h1 : k < n
        · rw [if_pos h1, if_pos (by omega)]
        · rw [if_neg h1, if_neg (by omega)]
      cases hh : isH n with
      | true =>
        rw [hh, if_pos rfl] at hn
        rw [hh, if_pos rfl] at e3
        have e5 : si S (cn isH n + 1) = si S (cn isH n) + S (cn isH n) := rfl
        rw [e1, e2, e3, e4, e5, hn, ih]
        omega
      | false =>
        rw [hh, if_neg (by decide)] at hn
        rw [hh, if_neg (by decide)] at e3
        rw [e1, e2, e3, e4, hn, ih]
        omega
theorem iw_die (h : Iw F P g) {k : Nat} (hk : k < P) : Iw F P (gDie g F P k) := by
  obtain ⟨hI, hd⟩ := h
  obtain ⟨⟨hF, hP⟩, c0, c2, c3, c4, c5, c6, c7⟩ := hI
  have hI : Iv F P g := ⟨⟨hF, hP⟩, c0, c2, c3, c4, c5, c6, c7⟩
  rw [die_0 g hP (by omega)]
  obtain ⟨c, hc⟩ : ∃ c, c = sCHe g P k := ⟨_, rfl⟩
  rw [← hc]
  have hc12 : c ≤ 12 := by rw [hc]; exact Nat.le_trans (cn_le _ _) hP
  have hlt : ∀ p, p < P → sIsH g P p k = true → sCHB g P p k < c := fun p h1 h2 => by rw [hc]; exact cn_lt (b := fun o => sIsH g P o k) h1 h2
  have hlv : ∀ p, sIsH g P p k = true → g 3 p = 0 := fun p h => by
    unfold sIsH at h
    rw [Bool.and_eq_true] at h
    exact lv_3 h.1
  -- a part of shares
  have hpar : ∀ f w p, f < 6 → w < 4 → p < P → sIsH g P p k = true → 0 ≤ (sPar (own g f w k) c (sCHB g P p k)).toInt ∧ (sPar (own g f w k) c (sCHB g P p k)).toInt ≤ 64 := by
    intro f w p hf hw hp hh
    have ho := iv_own hI hf hw (p := k) (by omega)
    obtain ⟨e, he, ee⟩ := nI_of (x := own g f w k) (by rw [Int32.lt_iff_toInt_lt, Int32.toInt_zero]; omega)
    rw [ee, nI_toInt he] at ho
    rw [ee]
    have h1 := hlt p hp hh
    exact (par_sum e (by omega) c (by omega) (by omega)).2 _ h1
  have hadd : ∀ f w p, f < 6 → w < 4 → p < P → sIsH g P p k = true → (own g f w p + sPar (own g f w k) c (sCHB g P p k)).toInt = (own g f w p).toInt + (sPar (own g f w k) c (sCHB g P p k)).toInt := by
    intro f w p hf hw hp hh
    have h1 := hpar f w p hf hw hp hh
    have h2 := iv_own hI hf hw (p := p) (by omega)
    exact toInt_add_of (by omega) (by omega) (by omega) (by omega)
  refine ⟨⟨⟨hF, hP⟩, c0, fun f w hf hw => ⟨fun p hp => ?_, ?_⟩, fun f w p hf hw hp hz => ?_, fun p => ?_, fun p hp => ?_, fun p hp => ?_, c7⟩, fun f w p hf hw hp hz => ?_⟩
  · rw [own_die hw hp]
    split
    · split
      · decide
      · split
        · next h3 =>
          rw [hadd f w p hf hw h3.1 h3.2]
          have := hpar f w p hf hw h3.1 h3.2
          have := (c2 f w hf hw).1 p hp
          omega
        · exact (c2 f w hf hw).1 p hp
    · exact (c2 f w hf hw).1 p hp
  · by_cases hfF : f < F
    · have e1 : si (fun p => (own (dC g F P k c) f w p).toInt) 12 = si (fun p => (own (dC g F P k c) f w p).toInt) P := si_P hP (fun p h1 h2 => by
        show (own (dC g F P k c) f w p).toInt = 0
        rw [own_die hw h2, if_pos hfF, if_neg (by omega), if_neg (by omega), c3 f w p hf hw h2 (Or.inr h1)]
        exact Int32.toInt_zero)
      have e2 : si (fun p => (own g f w p).toInt) 12 = si (fun p => (own g f w p).toInt) P := si_P hP (fun p h1 h2 => by
        show (own g f w p).toInt = 0
        rw [c3 f w p hf hw h2 (Or.inr h1)]
        exact Int32.toInt_zero)
      have e3 := die_si (isH := fun o => sIsH g P o k) (a := fun p => (own g f w p).toInt) (b := fun p => (own (dC g F P k c) f w p).toInt) (S := fun h => (sPar (own g f w k) c h).toInt) (k := k)
        (by cases hh : sIsH g P k k with
            | false => rfl
            | true => exact absurd rfl (isH_ne hh)) P (fun p hp => by
          show (own (dC g F P k c) f w p).toInt = _
          rw [own_die hw (by omega), if_pos hfF]
          by_cases hpk : p = k
          · rw [if_pos hpk, if_pos hpk]; decide
          · rw [if_neg hpk, if_neg hpk]
            by_cases hh : sIsH g P p k = true
            · rw [if_pos ⟨hp, hh⟩, if_pos hh]
              exact hadd f w p hf hw hp hh
            · rw [if_neg (fun e => hh e.2), if_neg hh])
      rw [if_pos hk] at e3
      have e4 : cn (fun o => sIsH g P o k) P = c := hc.symm
      rw [e4] at e3
      have hs := (c2 f w hf hw).2
      have ho := iv_own hI hf hw (p := k) (by omega)
      have e5 : si (fun h => (sPar (own g f w k) c h).toInt) c ≤ (own g f w k).toInt := by
        by_cases h0 : c = 0
        · rw [h0]; exact ho.1
        · obtain ⟨e, he, ee⟩ := nI_of (x := own g f w k) (by rw [Int32.lt_iff_toInt_lt, Int32.toInt_zero]; omega)
          rw [ee, nI_toInt he] at ho ⊢
          exact Int.le_of_eq (par_sum e (by omega) c (by omega) (by omega)).1
      omega
    · rw [si_congr (f' := fun p => (own g f w p).toInt) (fun p hp => by rw [own_die hw hp, if_neg hfF])]
      exact (c2 f w hf hw).2
  · rw [own_die hw hp]
    rcases hz with hz | hz
    · rw [if_neg (by omega)]
      exact c3 f w p hf hw hp (Or.inl hz)
    · rw [if_neg (show ¬ p = k by omega), if_neg (show ¬ (p < P ∧ sIsH g P p k = true) by omega), ite_self]
      exact c3 f w p hf hw hp (Or.inr hz)
  · show 0 ≤ (if p = k then nI 0 else if p < P ∧ sIsH g P p k = true then mn (g 4 p + sPar (g 4 k) c (sCHB g P p k)) else g 4 p).toInt ∧ (if p = k then nI 0 else if p < P ∧ sIsH g P p k = true then mn (g 4 p + sPar (g 4 k) c (sCHB g P p k)) else g 4 p).toInt ≤ 9999
    split
    · decide
    · split
      · refine mn_b ?_
        have h1 := c4 p
        have h2 := c4 k
        have h3 := par_b h2.1 h2.2 hc12 (sCHB g P p k)
        rw [toInt_add_of (by omega) (by omega) (by omega) (by omega)]
        omega
      · exact c4 p
  · show (if p = k then nI 1 else g 3 p) = 0
    rw [if_neg (by omega)]
    exact c5 p hp
  · have hp : ¬ (if p = k then nI 1 else g 3 p) = 0 := hp
    show (if p = k then nI 0 else if p < P ∧ sIsH g P p k = true then mn (g 4 p + sPar (g 4 k) c (sCHB g P p k)) else g 4 p) = 0
    by_cases hpk : p = k
    · rw [if_pos hpk]; rfl
    · rw [if_neg hpk] at hp ⊢
      rw [if_neg (fun e => hp (hlv p e.2))]
      exact c6 p hp
  · have hz : ¬ (if p = k then nI 1 else g 3 p) = 0 := hz
    rw [own_die hw hp]
    by_cases hpk : p = k
    · by_cases hfF : f < F
      · rw [if_pos hfF, if_pos hpk]; rfl
      · rw [if_neg hfF]
        exact c3 f w p hf hw hp (Or.inl (by omega))
    · rw [if_neg hpk] at hz ⊢
      rw [if_neg (show ¬ (p < P ∧ sIsH g P p k = true) from fun e => hz (hlv p e.2)), ite_self]
      exact hd f w p hf hw hp hz
end SPEC8
