/-! PART 21: what the reference's own words come to; what holds of every state (Iv). -/
section SPEC4
theorem isI_R {a : Int32} {N : Nat} (hN : N < 2 ^ 31) : decide (nI 0 ≤ a ∧ a ≤ nI N - nI 1) = decide (inR a N) := by
  apply decide_eq_decide.mpr
  constructor
  · rintro ⟨h1, h2⟩
    refine ⟨h1, ?_⟩
    cases N with
    | zero => 
      exfalso
      have h3 := Int32.le_trans h1 h2
      exact absurd h3 (by decide)
    | succ n =>
      rw [show nI 1 = 1 from rfl, nI_pred] at h2
      rw [Int32.lt_iff_toInt_lt, nI_toInt hN]
      rw [Int32.le_iff_toInt_le, nI_toInt (by omega)] at h2
      omega
  · rintro ⟨h1, h2⟩
    refine ⟨h1, ?_⟩
    obtain ⟨j, hj, rfl⟩ := inR_of ⟨h1, h2⟩ hN
    cases N with
    | zero => omega
    | succ n =>
      rw [show nI 1 = 1 from rfl, nI_pred]
      exact nI_le (by omega) (by omega)
theorem isI_3 {a : Int32} : decide (nI 0 ≤ a ∧ a ≤ nI 3) = decide (inR a 4) := isI_R (N := 4) (by decide)
theorem isI_23 {a : Int32} : decide (nI 0 ≤ a ∧ a ≤ nI 23) = decide (inR a 24) := isI_R (N := 24) (by decide)
def rz (k : Nat) (v : Int32) : Int32 := if k = 0 then v else nI 0
def rb (k : Nat) (b : Bool) : Bool := decide (k = 0) && b
def sF {α : Type} (k : Nat) (x y : α) : α := if k = 0 then x else y
theorem rz_0 {k : Nat} {x v : Int32} (h : k = 0) (hv : x = v) : x = rz k v := by rw [hv, h]; rfl
theorem rz_n {k : Nat} {v : Int32} (j : Nat) (h : k = j + 1) : nI 0 = rz k v := by rw [h]; rfl
theorem rb_0 {k : Nat} {x : Int32} {b : Bool} (h : k = 0) (hv : x = bI b) : x = bI (rb k b) := by rw [hv, h]; rfl
theorem rb_n {k : Nat} {b : Bool} (j : Nat) (h : k = j + 1) : bI false = bI (rb k b) := by rw [h]; rfl
variable {D : va_G} {ci cz : ClassId} {q : Nat → Nat} {F F' P P' : Nat} {g g' : Nat → Nat → Int32} {he : Nat → Int32} {hn k : Nat} {H : Heap}
/-- sums of whole numbers -/
def si (f : Nat → Int) : Nat → Int | 0 => 0 | n + 1 => si f n + f n
/-- what holds of every state that calls lead to -/
def Iv (F P : Nat) (g : Nat → Nat → Int32) : Prop :=
  (F ≤ 6 ∧ P ≤ 12) ∧ (∀ f, f < F → 0 ≤ (g 0 f).toInt ∧ (g 0 f).toInt ≤ 20) ∧
  (∀ f w, f < 6 → w < 4 → (∀ p, p < 12 → 0 ≤ (own g f w p).toInt) ∧ si (fun p => (own g f w p).toInt) 12 ≤ 64) ∧
  (∀ f w p, f < 6 → w < 4 → p < 12 → F ≤ f ∨ P ≤ p → own g f w p = 0) ∧
  (∀ p, 0 ≤ (g 4 p).toInt ∧ (g 4 p).toInt ≤ 9999) ∧
  (∀ p, P ≤ p → g 3 p = 0) ∧ (∀ p, ¬ g 3 p = 0 → g 4 p = 0) ∧
  (∀ p, p < P → g 6 p ≠ nI p)
theorem si_le {f : Nat → Int} {n k : Nat} (h : ∀ p, p < n → 0 ≤ f p) (hk : k < n) : f k ≤ si f n := by
  induction n with
  | zero => omega
  | succ n ih =>
    have h0 : ∀ m, m ≤ n → 0 ≤ si f m := by
      intro m
      induction m with
      | zero => intro _; exact Int.le_refl _
      | succ m ihm =>
        intro hm
        have h1 := ihm (by omega)
        have h2 := h m (by omega)
        show 0 ≤ si f m + f m
        omega
    show f k ≤ si f n + f n
    by_cases hkn : k = n
    · subst hkn
      have := h0 k (Nat.le_refl _)
      omega
    · have h1 := ih (fun p hp => h p (by omega)) (by omega)
      have h2 := h n (by omega)
      omega
theorem iv_own {F P : Nat} {g : Nat → Nat → Int32} (h : Iv F P g) {f w p : Nat} (hf : f < 6) (hw : w < 4) (hp : p < 12) : 0 ≤ (own g f w p).toInt ∧ (own g f w p).toInt ≤ 64 := by
  obtain ⟨h1, h2⟩ := h.2.2.1 f w hf hw
  exact ⟨h1 p hp, Int.le_trans (si_le (f := fun p => (own g f w p).toInt) h1 hp) h2⟩
theorem toInt_add_of {a b : Int32} (h1 : -1000000000 ≤ a.toInt) (h2 : a.toInt ≤ 1000000000) (h3 : -1000000000 ≤ b.toInt) (h4 : b.toInt ≤ 1000000000) : (a + b).toInt = a.toInt + b.toInt := by
  rw [Int32.toInt_add]
  exact Int.bmod_eq_of_le (by omega) (by omega)
theorem toInt_sub_of {a b : Int32} (h1 : -1000000000 ≤ a.toInt) (h2 : a.toInt ≤ 1000000000) (h3 : -1000000000 ≤ b.toInt) (h4 : b.toInt ≤ 1000000000) : (a - b).toInt = a.toInt - b.toInt := by
  rw [Int32.toInt_sub]
  exact Int.bmod_eq_of_le (by omega) (by omega)
theorem toInt_mul_of {a b : Int32} {M N : Int} (h1 : 0 ≤ a.toInt) (h2 : a.toInt ≤ M) (h3 : 0 ≤ b.toInt) (h4 : b.toInt ≤ N) (hMN : M * N ≤ 2147483647) : (a * b).toInt = a.toInt * b.toInt := by
  rw [Int32.toInt_mul]
  have h5 : 0 ≤ a.toInt * b.toInt := Int.mul_nonneg h1 h3
  have h6 : a.toInt * b.toInt ≤ M * N := Int.mul_le_mul h2 h4 h3 (by omega)
  exact Int.bmod_eq_of_le (by omega) (by omega)
theorem trf_b (w : Nat) : 1 ≤ (trf w).toInt ∧ (trf w).toInt ≤ 4 := by
  unfold trf
  split <;> exact ⟨by decide, by decide⟩
theorem iv_wor {F P : Nat} {g : Nat → Nat → Int32} (h : Iv F P g) {f w : Nat} (hf : f < F) : 1 ≤ (sWor g f w).toInt ∧ (sWor g f w).toInt ≤ 81 := by
  obtain ⟨h1, h2⟩ := h.2.1 f hf
  obtain ⟨h3, h4⟩ := trf_b w
  have e := toInt_mul_of (a := g 0 f) (b := trf w) h1 h2 (by omega) h4 (by omega)
  have h5 : 0 ≤ (g 0 f).toInt * (trf w).toInt := Int.mul_nonneg h1 (by omega)
  have h6 : (g 0 f).toInt * (trf w).toInt ≤ 20 * 4 := Int.mul_le_mul h2 h4 (by omega) (by omega)
  unfold sWor
  have e1 : (nI 1).toInt = 1 := by decide
  rw [toInt_add_of (by rw [e]; omega) (by rw [e]; omega) (by rw [e1]; omega) (by rw [e1]; omega), e, e1]
  omega
theorem iv_pri {F P : Nat} {g : Nat → Nat → Int32} (h : Iv F P g) {f w k : Nat} (hF : f < F) (hw : w < 4) (hk : k < 12) : (sPri g f w k).toInt = (own g f w k).toInt * (sWor g f w).toInt := by
  have h1 := iv_own h (f := f) (w := w) (p := k) (by have := h.1; omega) hw hk
  have h2 := iv_wor h (w := w) hF
  exact toInt_mul_of h1.1 h1.2 (by omega) h2.2 (by decide)
theorem iv_prib {F P : Nat} {g : Nat → Nat → Int32} (h : Iv F P g) {f w k : Nat} (hF : f < F) (hw : w < 4) (hk : k < 12) : 0 ≤ (sPri g f w k).toInt ∧ (sPri g f w k).toInt ≤ 5184 := by
  have h1 := iv_own h (f := f) (w := w) (p := k) (by have := h.1; omega) hw hk
  have h2 := iv_wor h (w := w) hF
  rw [iv_pri h hF hw hk]
  have h3 : 0 ≤ (own g f w k).toInt * (sWor g f w).toInt := Int.mul_nonneg h1.1 (by omega)
  have h4 : (own g f w k).toInt * (sWor g f w).toInt ≤ 64 * 81 := Int.mul_le_mul h1.2 h2.2 (by omega) (by omega)
  omega
theorem iv_pri0 {F P : Nat} {g : Nat → Nat → Int32} (h : Iv F P g) {f w k : Nat} (hF : f < F) (hw : w < 4) (hk : k < 12) : sPri g f w k = 0 ↔ own g f w k = 0 := by
  have h2 := iv_wor h (w := w) hF
  have e := iv_pri h hF hw hk
  constructor
  · intro h0
    rw [h0, Int32.toInt_zero] at e
    rcases Int.mul_eq_zero.mp e.symm with h3 | h3
    · exact Int32.toInt_inj.mp (h3.trans Int32.toInt_zero.symm)
    · omega
  · intro h0
    rw [h0, Int32.toInt_zero, Int.zero_mul] at e
    exact Int32.toInt_inj.mp (e.trans Int32.toInt_zero.symm)
theorem iv_fer {F P : Nat} {g : Nat → Nat → Int32} (h : Iv F P g) {f k : Nat} (hf : f < 6) (hk : k < 12) : 0 ≤ (sFer g f k).toInt ∧ (sFer g f k).toInt ≤ 256 := by
  have hb : ∀ w, w < 4 → 0 ≤ (own g f w k).toInt ∧ (own g f w k).toInt ≤ 64 := fun w hw => iv_own h hf hw hk
  have key : ∀ n, n ≤ 4 → 0 ≤ (sm (fun w => own g f w k) n).toInt ∧ (sm (fun w => own g f w k) n).toInt ≤ 64 * n := by
    intro n
    induction n with
    | zero =>
      intro _
      have e0 : (sm (fun w => own g f w k) 0).toInt = 0 := (show (nI 0).toInt = 0 by decide)
      omega
    | succ n ih =>
      intro hn
      have h1 := ih (by omega)
      have h2 := hb n (by omega)
      show 0 ≤ (sm (fun w => own g f w k) n + own g f n k).toInt ∧ (sm (fun w => own g f w k) n + own g f n k).toInt ≤ _
      rw [toInt_add_of (by omega) (by omega) (by omega) (by omega)]
      omega
  exact key 4 (Nat.le_refl _)
theorem iv_mas {F P : Nat} {g : Nat → Nat → Int32} (h : Iv F P g) {f k : Nat} (hf : f < 6) (hk : k < 12) : nI 256 < nI 2 * sFer g f k ↔ nI 128 < sFer g f k := by
  have h1 := iv_fer h hf hk
  have e2 : (nI 2).toInt = 2 := by decide
  have e : (nI 2 * sFer g f k).toInt = 2 * (sFer g f k).toInt := by
    rw [toInt_mul_of (M := 2) (N := 256) (by rw [e2]; omega) (by rw [e2]; omega) h1.1 h1.2 (by decide), e2]
  rw [Int32.lt_iff_toInt_lt, Int32.lt_iff_toInt_lt, e, show (nI 256).toInt = 256 by decide, show (nI 128).toInt = 128 by decide]
  omega
/-- counting and searching -/
theorem cn_congr {b b' : Nat → Bool} {n : Nat} (h : ∀ z, z < n → b z = b' z) : cn b n = cn b' n := by
  induction n with
  | zero => rfl
  | succ n ih =>
    unfold cn
    rw [h n (by omega), ih (fun z hz => h z (by omega))]
theorem cn_mono {b : Nat → Bool} {i j : Nat} (h : i ≤ j) : cn b i ≤ cn b j := by
  induction j with
  | zero => have : i = 0 := by omega
            subst this; exact Nat.le_refl _
  | succ j ih =>
    by_cases hij : i = j + 1
    · subst hij; exact Nat.le_refl _
    · have h1 := ih (by omega)
      have h2 : cn b j ≤ cn b (j + 1) := by
        show _ ≤ (if b j then cn b j + 1 else cn b j)
        split <;> omega
      omega
theorem cn_lt {b : Nat → Bool} {i j : Nat} (h : i < j) (hb : b i = true) : cn b i < cn b j := by
  have h1 : cn b (i + 1) = cn b i + 1 := by
    show (if b i then cn b i + 1 else cn b i) = _
    rw [hb]; rfl
  have h2 := cn_mono (b := b) (show i + 1 ≤ j from h)
  omega
theorem cn_surj {b : Nat → Bool} {n c : Nat} (h : c < cn b n) : ∃ k, k < n ∧ b k = true ∧ cn b k = c := by
  induction n with
  | zero => exact absurd h (Nat.not_lt_zero _)
  | succ n ih =>
    by_cases hc : c < cn b n
    · obtain ⟨k, h1, h2, h3⟩ := ih hc
      exact ⟨k, by omega, h2, h3⟩
    · by_cases hb : b n = true
      · have h1 : cn b (n + 1) = cn b n + 1 := by
          show (if b n then cn b n + 1 else cn b n) = _
          rw [hb]; rfl
        exact ⟨n, by omega, hb, by omega⟩
      · have h1 : cn b (n + 1) = cn b n := by
          show (if b n then cn b n + 1 else cn b n) = _
          rw [if_neg hb]
        omega
theorem an_cn {b : Nat → Bool} {n : Nat} : an b n 0 = decide (0 < cn b n) := by
  by_cases h : 0 < cn b n
  · obtain ⟨k, h1, h2, -⟩ := cn_surj h
    rw [an_some h2 h1, decide_eq_true h]
  · rw [decide_eq_false h]
    refine an_none (fun z hz => ?_)
    cases hb : b z with
    | false => rfl
    | true =>
      have := cn_lt hz hb
      omega
/-- a list written in order -/
def heF (b : Nat → Bool) (h0 : Nat → Int32) : Nat → Nat → Int32 | 0 => h0 | n + 1 => if b n then upd (heF b h0 n) (cn b n) (nI n) else heF b h0 n
theorem heF_at {b : Nat → Bool} {h0 : Nat → Int32} {n k : Nat} (hk : k < n) (hb : b k = true) : heF b h0 n (cn b k) = nI k := by
  induction n with
  | zero => omega
  | succ n ih =>
    by_cases hkn : k = n
    · subst hkn
      show (if b k then upd (heF b h0 k) (cn b k) (nI k) else heF b h0 k) _ = _
      rw [hb, if_pos rfl]
      simp [upd]
    · have h1 := ih (by omega)
      have h2 := cn_lt (show k < n by omega) hb
      show (if b n then upd (heF b h0 n) (cn b n) (nI n) else heF b h0 n) _ = _
      split
      · simp only [upd]
        rw [if_neg (by omega)]
        exact h1
      · exact h1
/-- the heirs that the reference has written down -/
def HeOk (g : Nat → Nat → Int32) (P p : Nat) (he : Nat → Int32) : Prop := ∀ k, k < P → sIsH g P k p = true → he (sCHB g P k p) = nI k
theorem HeOk.get {g : Nat → Nat → Int32} {P p h : Nat} {he : Nat → Int32} (H : HeOk g P p he) (hh : h < sCHe g P p) : ∃ k, k < P ∧ sIsH g P k p = true ∧ sCHB g P k p = h ∧ he h = nI k := by
  obtain ⟨k, h1, h2, h3⟩ := cn_surj hh
  exact ⟨k, h1, h2, h3, by rw [← h3]; exact H k h1 h2⟩
/-- first the living children; without any, the other living children of the parent -/
def b1f (g : Nat → Nat → Int32) (p : Nat) : Nat → Bool := fun z => decide (g 6 z = nI p) && lv g z
def b2f (g : Nat → Nat → Int32) (p : Nat) : Nat → Bool := fun z => decide (z ≠ p) && (decide (g 6 z = g 6 p) && lv g z)
theorem heirs_1 {g : Nat → Nat → Int32} {P p : Nat} {he : Nat → Int32} (hp : p < P) (hpar : ∀ z, z < P → g 6 z ≠ nI z) (h : 0 < cn (b1f g p) P) : cn (b1f g p) P = sCHe g P p ∧ HeOk g P p (heF (b1f g p) he P) := by
  have hl : sHlc g P p = true := by
    have e : (fun k => lv g k && decide (g 6 k = nI p)) = b1f g p := by funext z; exact Bool.and_comm _ _
    unfold sHlc
    rw [e, an_cn, decide_eq_true h]
  have hb : ∀ z, z < P → b1f g p z = sIsH g P z p := by
    intro z hz
    unfold b1f sIsH
    rw [hl, if_pos rfl]
    by_cases hzp : z = p
    · subst hzp
      simp [hpar z hz]
    · simp [hzp, Bool.and_comm]
  have hc : ∀ k, k ≤ P → cn (b1f g p) k = sCHB g P k p := fun k hk => cn_congr (fun z hz => hb z (by omega))
  refine ⟨hc P (Nat.le_refl _), fun k hk hh => ?_⟩
  rw [← hc k (by omega)]
  exact heF_at hk (by rw [hb k hk]; exact hh)
theorem heirs_0 {g : Nat → Nat → Int32} {P p : Nat} {he : Nat → Int32} (hp : p < P) (h : cn (b1f g p) P = 0) (h6 : g 6 p = -1) : 0 = sCHe g P p ∧ HeOk g P p he := by
  have hl : sHlc g P p = false := by
    have e : (fun k => lv g k && decide (g 6 k = nI p)) = b1f g p := by funext z; exact Bool.and_comm _ _
    unfold sHlc
    rw [e, an_cn, decide_eq_false (by omega)]
  have hb : ∀ z, sIsH g P z p = false := by
    intro z
    unfold sIsH
    rw [hl, if_neg (by decide)]
    simp [h6]
  refine ⟨?_, fun k hk hh => ?_⟩
  · have h0 : ∀ n, cn (fun o => sIsH g P o p) n = 0 := by
      intro n
      induction n with
      | zero => rfl
      | succ n ih =>
        unfold cn
        rw [hb n, if_neg (by decide)]
        exact ih
    exact (h0 P).symm
  · rw [hb k] at hh
    cases hh
theorem heirs_2 {g : Nat → Nat → Int32} {P p : Nat} {he : Nat → Int32} (h : cn (b1f g p) P = 0) (h6 : ¬ g 6 p = -1) : cn (b2f g p) P = sCHe g P p ∧ HeOk g P p (heF (b2f g p) he P) := by
  have hl : sHlc g P p = false := by
    have e : (fun k => lv g k && decide (g 6 k = nI p)) = b1f g p := by funext z; exact Bool.and_comm _ _
    unfold sHlc
    rw [e, an_cn, decide_eq_false (by omega)]
  have hb : ∀ z, b2f g p z = sIsH g P z p := by
    intro z
    unfold b2f sIsH
    rw [hl, if_neg (by decide)]
    simp [h6]
    cases lv g z <;> simp
  have hc : ∀ k, cn (b2f g p) k = sCHB g P k p := fun k => cn_congr (fun z hz => hb z)
  refine ⟨hc P, fun k hk hh => ?_⟩
  rw [← hc k]
  exact heF_at hk (by rw [hb k]; exact hh)
/-- the heir at a place -/
theorem fh_in {g : Nat → Nat → Int32} {P p h : Nat} {he : Nat → Int32} (hP : P ≤ 12) (H : HeOk g P p he) (hh : h < sCHe g P p) : he h = sFH g P p (nI h) ∧ ¬ sFH g P p (nI h) = -1 := by
  obtain ⟨k, h1, h2, h3, h4⟩ := H.get hh
  have e : sFH g P p (nI h) = nI k := by
    refine ff_some (k := k) (fun z hz => ?_) ?_ h1
    · by_cases hb : sIsH g P z p = true
      · have h5 := cn_lt (b := fun o => sIsH g P o p) hz hb
        have h6 : cn (fun o => sIsH g P o p) k = h := h3
        have h7 : ¬ nI (cn (fun o => sIsH g P o p) z) = nI h := fun e9 => by
          have h8 := cn_le (fun o => sIsH g P o p) k
          have := (nI_eq (by omega) (by omega)).mp e9
          omega
        simp [h7]
      · simp [hb]
    · have h6 : cn (fun o => sIsH g P o p) k = h := h3
      simp [h2, h6]
  refine ⟨h4.trans e.symm, ?_⟩
  rw [e]
  intro e9
  have := congrArg Int32.toInt e9
  rw [nI_toInt (by omega)] at this
  have h8 : (-1 : Int32).toInt = -1 := by decide
  omega
theorem fh_out {g : Nat → Nat → Int32} {P p : Nat} {x : Int32} (hP : P ≤ 12) (h : ¬ inR x (sCHe g P p)) : sFH g P p x = -1 := by
  refine ff_none (fun z hz => ?_)
  by_cases hb : sIsH g P z p = true
  · have h5 := cn_lt (b := fun o => sIsH g P o p) hz hb
    have h6 : ¬ nI (cn (fun o => sIsH g P o p) z) = x := fun e9 => h (by
      rw [← e9]
      exact inR_nI h5 (by have := cn_le (fun o => sIsH g P o p) P; unfold sCHe sCHB; omega))
    simp [h6]
  · simp [hb]
end SPEC4
