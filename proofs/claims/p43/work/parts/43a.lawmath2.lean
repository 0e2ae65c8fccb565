/-! PART 43: what a round's checks come to. -/
section ROUND
variable {p : Program} {l : Launch} {e : Env} {R : Room} {s : State} {m : MethodId} {args : Array Value} {below : List Frame} {meth : Method} {c : Code} {H : Heap} {locs : List Loc} {cells slots : Nat} {Q : State → Prop}
variable {cc : ByteArray} {nL pc : Nat} {rest : List Value} {ls : Array Slot}
theorem r_viaL {pc2 : Nat} (L2 : List (Nat × Value)) (kk : (∀ ls' : Array Slot, lv_has ls' nL L2 → W p l e R s m args below meth c H locs cells slots Q (F0 m pc2 ls' rest)) → W p l e R s m args below meth c H locs cells slots Q (F0 m pc ls rest)) (k2 : ∀ ls' : Array Slot, lv_has ls' nL L2 → W p l e R s m args below meth c H locs cells slots Q (F0 m pc2 ls' rest)) : W p l e R s m args below meth c H locs cells slots Q (F0 m pc ls rest) := kk k2
theorem r_lcmp (hx : p.tables.exec = Jvm.exec) (hb : c.code = cc) {x y : Int64} (h : x = y) (hdg : decode cc pc = .ok (.lcmp, 1)) (kk : W p l e R s m args below meth c H locs cells slots Q (F0 m (pc + 1) ls (.int 0 :: rest))) : W p l e R s m args below meth c H locs cells slots Q (F0 m pc ls (.long y :: .long x :: rest)) := by
  subst h
  refine W.lcmp hx hb hdg ?_
  have e : lg_cmp x x = 0 := by
    unfold lg_cmp
    rw [if_neg (by rw [gt_iff_lt, Int64.lt_iff_toInt_lt]; omega), if_pos rfl]
  rw [e]
  exact kk
end ROUND
section ROUNDM
variable {F P nn : Nat} {g : Nat → Nat → Int32}
theorem coin_n (h : Iv F P g) (z : Nat) : ¬ g 4 z < 0 := Int32.not_lt.mpr (coin_0 h z)
theorem coin_9 (h : Iv F P g) (z : Nat) : g 4 z ≤ nI 9999 := by
  have := (h.2.2.2.2.1 z).2
  rw [Int32.le_iff_toInt_le, nI_toInt (by decide)]
  exact this
theorem ear_n (h : Ix nn F P g) (z : Nat) : ¬ g 5 z < 0 := by
  have := (h.c5 z).1
  rw [Int32.lt_iff_toInt_lt, Int32.toInt_zero]
  omega
theorem dead_coin (h : Iv F P g) {z : Nat} (hz : lv g z = false) : g 4 z = 0 := h.2.2.2.2.2.2.1 z (of_decide_eq_false hz)
theorem sm_0 {f : Nat → Int32} {n : Nat} (h : ∀ z, z < n → f z = 0) : sm f n = 0 := by
  induction n with
  | zero => exact nI_0
  | succ n ih =>
    show sm f n + f n = 0
    rw [ih (fun z hz => h z (by omega)), h n (by omega)]
    rfl
theorem dead_all (h : Iw F P g) {z : Nat} (hzP : z < 12) (hz : lv g z = false) : sAll g F z = 0 := by
  have hF := h.1.1.1
  refine sm_0 (fun f hf => sm_0 (fun w hw => ?_))
  exact h.2 f w z (by omega) hw hzP (of_decide_eq_false hz)
theorem par_lt (h : Ix nn F P g) {k : Nat} (hk : k < P) (hn : g 6 k ≠ -1) : g 6 k < nI k := by
  have hP := h.b.2
  rcases h.c6 k hk with h1 | ⟨r, hr, h1⟩
  · exact absurd h1 hn
  · rw [h1]
    exact nI_lt hr (by omega)
/-- the most coins of one alive -/
def rI2 (g : Nat → Nat → Int32) (i : Nat) : Int32 := (ri (fun z => lv g z) (fun z => g 4 z) i).2
theorem rI2_dead {k : Nat} (h : lv g k = false) : rI2 g k = rI2 g (k + 1) := by
  unfold rI2
  conv => rhs; unfold ri
  rw [h]
  rfl
theorem rI2_live {k : Nat} (h : lv g k = true) : (if rI2 g k < g 4 k then g 4 k else rI2 g k) = rI2 g (k + 1) := by
  unfold rI2
  conv => rhs; unfold ri
  rw [h, Bool.true_and]
  by_cases h9 : (ri (fun z => lv g z) (fun z => g 4 z) k).2 < g 4 k
  · rw [if_pos h9, decide_eq_true h9, if_pos rfl]
  · rw [if_neg h9, decide_eq_false h9]
    rfl
theorem ric_at (hI : Iv F P g) (h : 0 < cn (fun z => lv g z) P) : ∃ z, z < P ∧ sRic g P = nI z ∧ lv g z = true ∧ rI2 g P = g 4 z := by
  unfold sRic rI2
  rcases ri_2 (b := fun z => lv g z) (f := fun z => g 4 z) (coin_0 hI) P with ⟨h1, h2⟩ | ⟨j, h0, h1, h2, -⟩
  · obtain ⟨k, hk, h3, -⟩ := cn_surj h
    rw [h2 k hk] at h3
    cases h3
  · exact ⟨j, h0, by rw [h1], h2, by rw [h1]⟩
theorem fh_at (hP : P ≤ 12) {k i : Nat} (hi : i < sCHe g P k) : ∃ z, z < P ∧ sIsH g P z k = true ∧ cn (fun o => sIsH g P o k) z = i ∧ sFH g P k (nI i) = nI z := by
  obtain ⟨z, hz, h1, h2⟩ := cn_surj (b := fun o => sIsH g P o k) hi
  refine ⟨z, hz, h1, h2, ?_⟩
  unfold sFH
  refine ff_some (fun y hy => ?_) ?_ hz
  · cases h3 : sIsH g P y k with
    | false => rfl
    | true =>
      rw [Bool.true_and]
      have h4 : cn (fun o => sIsH g P o k) y < cn (fun o => sIsH g P o k) z := cn_lt hy h3
      have h5 := cn_le (fun o => sIsH g P o k) z
      refine decide_eq_false (fun e => ?_)
      have := (nI_eq (by omega) (by omega)).mp e
      omega
  · rw [show sIsH g P z k = true from h1, Bool.true_and]
    exact decide_eq_true (congrArg nI h2)
theorem isH_1 {z k : Nat} (h : sIsH g P z k = true) : lv g z = true ∧ z ≠ k := by
  unfold sIsH at h
  rw [Bool.and_eq_true, Bool.and_eq_true] at h
  exact ⟨h.1, of_decide_eq_true h.2.1⟩
theorem isH_lt {k x y i : Nat} (hx : cn (fun o => sIsH g P o k) x = i) (hy : cn (fun o => sIsH g P o k) y = i - 1) (hi : 0 < i) : ¬ x ≤ y := by
  intro h
  have := cn_mono (b := fun o => sIsH g P o k) h
  omega
/-- the one that has more than half -/
def mS (g : Nat → Nat → Int32) (f i : Nat) : Int32 := ff (fun p => decide (nI 128 < sFer g f p)) i 0
theorem ff_any {b : Nat → Bool} : ∀ n i, i + n < 2 ^ 31 → (∀ z, i ≤ z → z < i + n → b z = false) ∨ ∃ z, i ≤ z ∧ z < i + n ∧ b z = true ∧ (∀ y, i ≤ y → y < z → b y = false) ∧ ff b n i = nI z := by
  intro n
  induction n with
  | zero => intro i _; exact Or.inl (fun z h1 h2 => by omega)
  | succ n ih =>
    intro i hi
    cases hb : b i with
    | true =>
      refine Or.inr ⟨i, Nat.le_refl _, by omega, hb, fun y h1 h2 => by omega, ?_⟩
      unfold ff
      rw [if_pos hb]
    | false =>
      have e : ff b (n + 1) i = ff b n (i + 1) := by
        conv => lhs; unfold ff
        rw [hb]
        rfl
      rw [e]
      rcases ih (i + 1) (by omega) with h | ⟨z, h1, h2, h3, h4, h5⟩
      · refine Or.inl (fun z h1 h2 => ?_)
        by_cases e : z = i
        · rw [e]; exact hb
        · exact h z (by omega) (by omega)
      · refine Or.inr ⟨z, by omega, by omega, h3, fun y h6 h7 => ?_, h5⟩
        by_cases e : y = i
        · rw [e]; exact hb
        · exact h4 y (by omega) h7
theorem mS_no {f i : Nat} (hi : i < 12) (h : ¬ nI 129 ≤ sFer g f i) : mS g f i = mS g f (i + 1) := by
  have hb : decide (nI 128 < sFer g f i) = false := by
    rw [← fer_129]
    rw [decide_eq_true (Int32.not_le.mp h)]
    rfl
  unfold mS
  rcases ff_any (b := fun p => decide (nI 128 < sFer g f p)) i 0 (by omega) with h1 | ⟨z, h1, h2, h3, h4, h5⟩
  · rw [ff_none (fun z hz => h1 z (Nat.zero_le _) (by omega)), ff_none (fun z hz => by
      by_cases e : z = i
      · rw [e]; exact hb
      · exact h1 z (Nat.zero_le _) (by omega))]
  · rw [h5, ff_some (fun y hy => h4 y (Nat.zero_le _) hy) h3 (by omega)]
theorem mS_none {f i : Nat} (hi : i < 12) (h : mS g f i < 0) : ∀ z, z < i → decide (nI 128 < sFer g f z) = false := by
  unfold mS at h
  rcases ff_any (b := fun p => decide (nI 128 < sFer g f p)) i 0 (by omega) with h1 | ⟨z, h1, h2, h3, h4, h5⟩
  · exact fun z hz => h1 z (Nat.zero_le _) (by omega)
  · rw [h5] at h
    exact absurd h (nI_pos (by omega))
theorem mS_yes {f i : Nat} (hi : i < 12) (h : nI 129 ≤ sFer g f i) (hn : mS g f i < 0) : nI i = mS g f (i + 1) := by
  have hb : decide (nI 128 < sFer g f i) = true := by
    rw [← fer_129, decide_eq_false (Int32.not_lt.mpr h)]
    rfl
  exact (ff_some (mS_none hi hn) hb (by omega)).symm
theorem mS_two (hI : Iv F P g) {f i : Nat} (hf : f < 6) (hi : i < 12) (h : nI 129 ≤ sFer g f i) : mS g f i < 0 := by
  have hb : nI 128 < sFer g f i := by
    have h9 : decide (nI 128 < sFer g f i) = true := by
      rw [← fer_129, decide_eq_false (Int32.not_lt.mpr h)]
      rfl
    exact of_decide_eq_true h9
  unfold mS
  rcases ff_any (b := fun p => decide (nI 128 < sFer g f p)) i 0 (by omega) with h1 | ⟨z, h1, h2, h3, h4, h5⟩
  · rw [ff_none (fun z hz => h1 z (Nat.zero_le _) (by omega))]
    decide
  · have := fer_one hI hf hi (show z < 12 by omega) hb (of_decide_eq_true h3)
    omega
/-- all 64 -/
theorem sd_sm {x : Int32} {f : Nat → Int32} : ∀ n, sd x f n + sm f n = x
  | 0 => by
    show x + nI 0 = x
    exact Int32.add_zero x
  | n + 1 => by
    have ih := sd_sm (x := x) (f := f) n
    show sd x f n - f n + (sm f n + f n) = x
    rw [Int32.add_comm (sm f n), ← Int32.add_assoc, Int32.sub_add_cancel]
    exact ih
theorem cs_64 {f w : Nat} : sCro g P f w + sm (fun p => own g f w p) P = nI 64 := sd_sm P
theorem cs_0 {f w : Nat} : sCro g P f w + sm (fun p => own g f w p) 0 = sCro g P f w := Int32.add_zero _
theorem own_n (h : Iv F P g) {f w k : Nat} (hf : f < 6) (hw : w < 4) (hk : k < 12) : ¬ own g f w k < 0 := by
  have := (iv_own h hf hw hk).1
  rw [Int32.lt_iff_toInt_lt, Int32.toInt_zero]
  omega
theorem may_all {b k f w : Nat} (h : sMay g P b k f w = true) : lv g b = true ∧ b ≠ k ∧ sPri g f w k ≤ g 4 b ∧ own g f w k ≠ 0 := by
  unfold sMay at h
  simp only [Bool.and_eq_true, decide_eq_true_eq] at h
  exact ⟨h.1, h.2.1, Int32.not_lt.mp h.2.2.1, h.2.2.2.1⟩
/-- the shares by number -/
theorem own_nat (h : Iv F P g) {f w k : Nat} (hf : f < 6) (hw : w < 4) (hk : k < 12) : ∃ o, o ≤ 64 ∧ own g f w k = nI o := by
  obtain ⟨h1, h2⟩ := iv_own h hf hw hk
  obtain ⟨o, ho, e⟩ := nI_of (x := own g f w k) (by rw [Int32.lt_iff_toInt_lt, Int32.toInt_zero]; omega)
  rw [e, nI_toInt ho] at h2
  exact ⟨o, by omega, e⟩
theorem toll_nat (h : Iv F P g) {f : Nat} (hf : f < F) : ∃ t, t ≤ 20 ∧ g 0 f = nI t := by
  obtain ⟨h1, h2⟩ := h.2.1 f hf
  obtain ⟨o, ho, e⟩ := nI_of (x := g 0 f) (by rw [Int32.lt_iff_toInt_lt, Int32.toInt_zero]; omega)
  rw [e, nI_toInt ho] at h2
  exact ⟨o, by omega, e⟩
theorem far_nat {f w k t x o : Nat} (ht : t ≤ 20) (hx : x ≤ 200) (ho : o ≤ 64) (e0 : g 0 f = nI t) (e1 : own g f w k = nI o) : sFar g f w k (nI x) = nI (t * x * o / 64) := by
  have h3 : t * x ≤ 20 * 200 := Nat.mul_le_mul ht hx
  have h4 : t * x * o ≤ 4000 * 64 := Nat.mul_le_mul h3 ho
  unfold sFar
  rw [e0, e1, pk_mul, pk_mul, pk_div (by omega) (by decide) (by decide)]
theorem far_mono (h : Iv F P g) {f w j k x : Nat} (hf : f < F) (hw : w < 4) (hj : j < 12) (hk : k < 12) (hx : x ≤ 200) (hle : own g f w k ≤ own g f w j) : sFar g f w k (nI x) ≤ sFar g f w j (nI x) := by
  have hF := h.1.1
  obtain ⟨t, ht, e0⟩ := toll_nat h hf
  obtain ⟨a, ha, ea⟩ := own_nat h (f := f) (w := w) (k := k) (by omega) hw hk
  obtain ⟨b, hb, eb⟩ := own_nat h (f := f) (w := w) (k := j) (by omega) hw hj
  rw [far_nat ht hx ha e0 ea, far_nat ht hx hb e0 eb]
  rw [ea, eb] at hle
  have hab : a ≤ b := (nI_leI (by omega) (by omega)).mp hle
  have h3 : t * x ≤ 20 * 200 := Nat.mul_le_mul ht hx
  have h4 : t * x * b ≤ 4000 * 64 := Nat.mul_le_mul h3 hb
  have h5 : t * x * a ≤ t * x * b := Nat.mul_le_mul_left _ hab
  have h6 : t * x * a / 64 ≤ t * x * b / 64 := Nat.div_le_div_right h5
  exact (nI_leI (by omega) (by omega)).mpr h6
theorem sm_nat {f : Nat → Int32} {c : Nat → Nat} {n : Nat} (h : ∀ p, p < n → f p = nI (c p)) : sm f n = nI (sN c n) := by
  induction n with
  | zero => rfl
  | succ n ih =>
    show sm f n + f n = nI (sN c n + c n)
    rw [ih (fun p hp => h p (by omega)), h n (by omega), nI_add]
theorem sN_div {c : Nat} {o : Nat → Nat} : ∀ n, sN (fun p => c * o p / 64) n ≤ c * sN o n / 64
  | 0 => Nat.zero_le _
  | n + 1 => by
    have ih := sN_div (c := c) (o := o) n
    show sN (fun p => c * o p / 64) n + c * o n / 64 ≤ c * (sN o n + o n) / 64
    rw [Nat.mul_add]
    omega
theorem sN_si {o : Nat → Nat} {f : Nat → Int} : ∀ n, (∀ p, p < n → f p = (o p : Int)) → ((sN o n : Nat) : Int) = si f n
  | 0, _ => rfl
  | n + 1, h => by
    have ih := sN_si (o := o) (f := f) n (fun p hp => h p (by omega))
    show ((sN o n + o n : Nat) : Int) = si f n + f n
    rw [h n (by omega), ← ih]
    omega
theorem own_sum (h : Iv F P g) {f w : Nat} (hf : f < 6) (hw : w < 4) {o : Nat → Nat} (ho : ∀ p, p < P → own g f w p = nI (o p) ∧ o p ≤ 64) : sN o P ≤ 64 := by
  have hP := h.1.2
  have h2 := (h.2.2.1 f w hf hw).2
  have e := sN_si (o := o) (f := fun p => (own g f w p).toInt) P (fun p hp => by
    show (own g f w p).toInt = _
    rw [(ho p hp).1, nI_toInt (by have := (ho p hp).2; omega)])
  rw [si_P hP (fun p h1 h2 => by rw [h.2.2.2.1 f w p hf hw h2 (Or.inr h1)]; exact Int32.toInt_zero)] at h2
  omega
theorem fares_le (h : Iv F P g) {f w x : Nat} (hf : f < F) (hw : w < 4) (hx : x ≤ 200) : sm (fun p => sFar g f w p (nI x)) P ≤ nI x * g 0 f := by
  have hF := h.1.1
  have hP := h.1.2
  obtain ⟨t, ht, e0⟩ := toll_nat h hf
  have ho : ∀ p, p < P → own g f w p = nI ((own g f w p).toInt.toNat) ∧ (own g f w p).toInt.toNat ≤ 64 := fun p hp => by
    obtain ⟨o, h1, e⟩ := own_nat h (f := f) (w := w) (k := p) (by omega) hw (by omega)
    rw [e, nI_toInt (by omega)]
    exact ⟨rfl, h1⟩
  have hs := own_sum h (f := f) (w := w) (by omega) hw (o := fun p => (own g f w p).toInt.toNat) ho
  rw [sm_nat (c := fun p => t * x * (own g f w p).toInt.toNat / 64) (fun p hp => far_nat ht hx (ho p hp).2 e0 (ho p hp).1), e0, pk_mul]
  have h3 : t * x ≤ 20 * 200 := Nat.mul_le_mul ht hx
  have h4 := sN_div (c := t * x) (o := fun p => (own g f w p).toInt.toNat) P
  have h5 : t * x * sN (fun p => (own g f w p).toInt.toNat) P ≤ t * x * 64 := Nat.mul_le_mul_left _ hs
  have h6 : t * x = x * t := Nat.mul_comm _ _
  refine (nI_leI (by omega) (by omega)).mpr ?_
  show sN (fun p => t * x * (own g f w p).toInt.toNat / 64) P ≤ x * t
  omega
/-- what the heirs get is all of it -/
theorem sm_cn {b : Nat → Bool} {c : Nat → Nat} : ∀ n, sm (fun j => if b j then nI (c (cn b j)) else nI 0) n = nI (sN c (cn b n))
  | 0 => rfl
  | n + 1 => by
    have ih := sm_cn (b := b) (c := c) n
    show sm (fun j => if b j then nI (c (cn b j)) else nI 0) n + (if b n then nI (c (cn b n)) else nI 0) = _
    rw [ih]
    cases hb : b n with
    | true =>
      rw [cn_y hb, if_pos rfl, nI_add]
      rfl
    | false =>
      rw [cn_n hb, if_neg (by decide), nI_add]
      rfl
theorem sm_congr {f f' : Nat → Int32} {n : Nat} (h : ∀ z, z < n → f z = f' z) : sm f n = sm f' n := by
  induction n with
  | zero => rfl
  | succ n ih =>
    show sm f n + f n = sm f' n + f' n
    rw [ih (fun z hz => h z (by omega)), h n (by omega)]
theorem inh_sum (h : Iv F P g) {f w k : Nat} (hf : f < 6) (hw : w < 4) (hk : k < 12) (hc : 0 < sCHe g P k) : sm (fun j => sInh g P k j f w) P = own g f w k := by
  have hP := h.1.2
  have hcP : sCHe g P k ≤ P := cn_le _ _
  obtain ⟨o, ho, e⟩ := own_nat h hf hw hk
  obtain ⟨h1, h2⟩ := par_N o (by omega) (sCHe g P k) (by omega) hc
  rw [sm_congr (f' := fun j => if sIsH g P j k then nI (pN o (sCHe g P k) (cn (fun o => sIsH g P o k) j)) else nI 0) (fun j hj => ?_), sm_cn (b := fun o => sIsH g P o k) (c := fun h => pN o (sCHe g P k) h), e]
  · exact congrArg nI h1
  · show (if sIsH g P j k = true then _ else _) = _
    cases hb : sIsH g P j k with
    | false => rfl
    | true =>
      rw [if_pos rfl, if_pos rfl, e]
      exact (h2 _ (cn_lt (b := fun o => sIsH g P o k) hj hb)).1
theorem inh_0 {f w k : Nat} (hc : sCHe g P k = 0) : sm (fun j => sInh g P k j f w) P = nI 0 := by
  refine (sm_0 (fun j hj => ?_)).trans nI_0.symm
  unfold sInh
  cases hb : sIsH g P j k with
  | false => exact nI_0
  | true =>
    have : cn (fun o => sIsH g P o k) j < cn (fun o => sIsH g P o k) P := cn_lt hj hb
    have h9 : cn (fun o => sIsH g P o k) P = 0 := hc
    omega
/-- carrying -/
theorem far_car2 {f w p i : Nat} {n : Int32} : sFar (gCar g f w n i) f w p n = sFar g f w p n := by
  unfold sFar own
  rw [car_o 0 (by decide) (by decide), car_o 2 (by decide) (by decide)]
theorem car_rest {f w : Nat} {n : Int32} : ∀ i, lCar g f w n i = n * g 0 f - sm (fun p => sFar g f w p n) i
  | 0 => by
    show g 0 f * n = n * g 0 f - nI 0
    rw [Int32.mul_comm]
    exact (Int32.sub_zero _).symm
  | i + 1 => by
    have ih := car_rest (f := f) (w := w) (n := n) i
    show lCar g f w n i - sFar (gCar g f w n i) f w i n = n * g 0 f - (sm (fun p => sFar g f w p n) i + sFar g f w i n)
    rw [far_car2, ih]
    rw [Int32.sub_eq_add_neg, Int32.sub_eq_add_neg, Int32.sub_eq_add_neg, Int32.neg_add, Int32.add_assoc, Int32.sub_eq_add_neg (-(sm (fun p => sFar g f w p n) i))]
theorem car_4i {f w : Nat} {n : Int32} : ∀ i p, gCar g f w n i 4 p = if p < i then mn (g 4 p + sFar g f w p n) else g 4 p
  | 0, p => (if_neg (Nat.not_lt_zero _)).symm
  | i + 1, p => by
    have ih := car_4i (f := f) (w := w) (n := n) i
    show upd (gCar g f w n i 4) i (mn (gCar g f w n i 4 i + sFar (gCar g f w n i) f w i n)) p = _
    unfold upd
    by_cases e : p = i
    · subst e
      rw [if_pos rfl, if_pos (by omega), far_car2, ih, if_neg (by omega)]
    · rw [if_neg e, ih]
      by_cases h : p < i
      · rw [if_pos h, if_pos (by omega)]
      · rw [if_neg h, if_neg (by omega)]
theorem cry_0 {f w : Nat} {n : Int32} : gCry g P f w n 0 = g 0 := car_o 0 (by decide) (by decide) P
theorem cry_7 {f w : Nat} {n : Int32} : gCry g P f w n 7 0 = g 7 0 + lCar g f w n P := by
  show gCar g f w n P 7 0 + lCar g f w n P = _
  rw [car_o 7 (by decide) (by decide)]
theorem cry_4 {f w p : Nat} {n : Int32} (hp : p < P) : gCry g P f w n 4 p = mn (g 4 p + sFar g f w p n) := by
  show gCar g f w n P 4 p = _
  rw [car_4i, if_pos hp]
end ROUNDM
