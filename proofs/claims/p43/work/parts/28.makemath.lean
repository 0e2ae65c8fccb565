/-! PART 28: rows copied, the living of a parent, an estate's parts. -/
section MMATH
theorem cp_s {f : Nat → Int32} {i : Nat} : ∀ j, upd (fun j => if j < i then f j else 0) i (f i) j = if j < i + 1 then f j else 0 := by
  intro j
  unfold upd
  by_cases e : j = i
  · subst e
    rw [if_pos rfl, if_pos (by omega)]
  · rw [if_neg e]
    show (if j < i then f j else 0) = _
    by_cases h : j < i
    · rw [if_pos h, if_pos (by omega)]
    · rw [if_neg h, if_neg (by omega)]
theorem cp_e {f : Nat → Int32} {n : Nat} {x : Int32} : ∀ j, j < n + 1 → upd (fun j => if j < n then f j else 0) n x j = upd f n x j := by
  intro j hj
  unfold upd
  by_cases e : j = n
  · rw [if_pos e, if_pos e]
  · rw [if_neg e, if_neg e]
    exact if_pos (by omega)
/-- the living ones of a parent, but one -/
def lB (g : Nat → Nat → Int32) (pa bu : Int32) : Nat → Bool := fun z => decide (nI z ≠ bu) && (decide (g 6 z = pa) && lv g z)
theorem heF_congr {b b' : Nat → Bool} {h0 : Nat → Int32} {n : Nat} (h : ∀ z, z < n → b z = b' z) : heF b h0 n = heF b' h0 n := by
  induction n with
  | zero => rfl
  | succ n ih =>
    show (if b n then upd (heF b h0 n) (cn b n) (nI n) else heF b h0 n) = (if b' n then upd (heF b' h0 n) (cn b' n) (nI n) else heF b' h0 n)
    rw [ih (fun z hz => h z (by omega)), h n (by omega), cn_congr (fun z hz => h z (by omega))]
theorem heF_y {b : Nat → Bool} {h0 : Nat → Int32} {n : Nat} (h : b n = true) : heF b h0 (n + 1) = upd (heF b h0 n) (cn b n) (nI n) := by
  show (if b n then _ else _) = _
  rw [if_pos h]
theorem heF_n {b : Nat → Bool} {h0 : Nat → Int32} {n : Nat} (h : b n = false) : heF b h0 (n + 1) = heF b h0 n := by
  show (if b n then _ else _) = _
  rw [if_neg (by rw [h]; decide)]
theorem lB_y {g : Nat → Nat → Int32} {pa bu : Int32} {z : Nat} (h1 : ¬ nI z = bu) (h2 : g 6 z = pa) (h3 : g 3 z = 0) : lB g pa bu z = true := by simp [lB, h1, h2, lv, h3]
theorem lB_n1 {g : Nat → Nat → Int32} {pa bu : Int32} {z : Nat} (h : nI z = bu) : lB g pa bu z = false := by simp [lB, h]
theorem lB_n2 {g : Nat → Nat → Int32} {pa bu : Int32} {z : Nat} (h : ¬ g 6 z = pa) : lB g pa bu z = false := by simp [lB, h]
theorem lB_n3 {g : Nat → Nat → Int32} {pa bu : Int32} {z : Nat} (h : ¬ g 3 z = 0) : lB g pa bu z = false := by simp [lB, lv, h]
theorem lB_1 {g : Nat → Nat → Int32} {P k : Nat} (hP : P ≤ 12) : ∀ z, z < P → lB g (nI k) (-1) z = b1f g k z := by
  intro z hz
  have : ¬ nI z = -1 := Ne.symm (neg1_nI (by omega))
  simp [lB, b1f, this]
theorem lB_2 {g : Nat → Nat → Int32} {P k : Nat} (hP : P ≤ 12) (hk : k < P) : ∀ z, z < P → lB g (g 6 k) (nI k) z = b2f g k z := by
  intro z hz
  have : (nI z = nI k) = (z = k) := propext (nI_eq (by omega) (by omega))
  simp [lB, b2f, this]
theorem isI.cn1 {D : va_G} {ci : ClassId} {H : Heap} {a : Nat} {h0 : Nat → Int32} {b b' : Nat → Bool} {P : Nat} (h : isI D ci H a (cn b P) (heF b h0 P)) (he : ∀ z, z < P → b z = b' z) : isI D ci H a (cn b' P) (heF b' h0 P) := by
  rw [← heF_congr he, ← cn_congr he]
  exact h
/-- what is odd, and half, to the first; the rest one by one -/
def pA (X c i : Nat) : Nat → Int32 := fun j => if j = 0 then nI X else nI ((i + (c - 1) - j) / (c - 1))
theorem c12 {c : Nat} (h1 : 2 ≤ c) (h2 : c ≤ 12) : c = 2 ∨ c = 3 ∨ c = 4 ∨ c = 5 ∨ c = 6 ∨ c = 7 ∨ c = 8 ∨ c = 9 ∨ c = 10 ∨ c = 11 ∨ c = 12 := by omega
theorem pA_s {X c i : Nat} (h1 : 2 ≤ c) (h2 : c ≤ 12) : ∀ j, j < c → upd (pA X c i) (1 + i % (c - 1)) (pA X c i (1 + i % (c - 1)) + nI 1) j = pA X c (i + 1) j := by
  intro j hj
  unfold upd
  have e : pA X c i (1 + i % (c - 1)) = nI ((i + (c - 1) - (1 + i % (c - 1))) / (c - 1)) := if_neg (by omega)
  rw [e, nI_add]
  by_cases hjn : j = 1 + i % (c - 1)
  · rw [if_pos hjn, hjn]
    show _ = (if 1 + i % (c - 1) = 0 then _ else nI ((i + 1 + (c - 1) - (1 + i % (c - 1))) / (c - 1)))
    rw [if_neg (by omega)]
    congr 1
    rcases c12 h1 h2 with rfl | rfl | rfl | rfl | rfl | rfl | rfl | rfl | rfl | rfl | rfl <;> omega
  · rw [if_neg hjn]
    unfold pA
    by_cases h0 : j = 0
    · rw [if_pos h0, if_pos h0]
    · rw [if_neg h0, if_neg h0]
      congr 1
      rcases c12 h1 h2 with rfl | rfl | rfl | rfl | rfl | rfl | rfl | rfl | rfl | rfl | rfl <;> omega
theorem pA_nx {c i : Nat} (h1 : 2 ≤ c) (h2 : c ≤ 12) : 1 + i % (c - 1) < c ∧ (1 + i % (c - 1) + 1 = c → 1 + (i + 1) % (c - 1) = 1) ∧ (1 + i % (c - 1) + 1 ≠ c → 1 + (i + 1) % (c - 1) = 1 + i % (c - 1) + 1) := by
  rcases c12 h1 h2 with rfl | rfl | rfl | rfl | rfl | rfl | rfl | rfl | rfl | rfl | rfl <;> omega
theorem pA_0 {X c : Nat} (h1 : 2 ≤ c) (h2 : c ≤ 12) : ∀ j, j < c → upd (fun _ => 0) 0 (nI X) j = pA X c 0 j := by
  intro j hj
  unfold upd pA
  by_cases h0 : j = 0
  · rw [if_pos h0, if_pos h0]
  · rw [if_neg h0, if_neg h0]
    have : (0 + (c - 1) - j) / (c - 1) = 0 := by
      rcases c12 h1 h2 with rfl | rfl | rfl | rfl | rfl | rfl | rfl | rfl | rfl | rfl | rfl <;> omega
    rw [this]
    rfl
theorem par_n {e c : Nat} (he : e ≤ 10000) (h1 : 2 ≤ c) (h2 : c ≤ 12) : ∀ j, j < c → pA ((e + 1) / 2) c (e - (e + 1) / 2) j = sPar (nI e) c j := by
  intro j hj
  unfold pA sPar
  rw [if_neg (show ¬ c ≤ 1 by omega), show e - (e + 1) / 2 = e / 2 by omega, pk_div (by omega) (by decide) (by decide)]
  by_cases h0 : j = 0
  · rw [if_pos h0, if_pos h0, pk_sub (by omega)]
    congr 1
    omega
  · rw [if_neg h0, if_neg h0, pk_div (by omega) (by omega) (by omega), pk_mul, pk_sub (Nat.div_mul_le_self _ _)]
    have e1 : (nI (j - 1) < nI (e / 2 - e / 2 / (c - 1) * (c - 1))) = (j - 1 < e / 2 - e / 2 / (c - 1) * (c - 1)) := propext (nI_ltI (by omega) (by omega))
    rw [nI_add]
    simp only [e1]
    split
    · congr 1
      rcases c12 h1 h2 with rfl | rfl | rfl | rfl | rfl | rfl | rfl | rfl | rfl | rfl | rfl <;> omega
    · congr 1
      rcases c12 h1 h2 with rfl | rfl | rfl | rfl | rfl | rfl | rfl | rfl | rfl | rfl | rfl <;> omega
theorem par_1 {e c : Nat} (h : c ≤ 1) {f : Nat → Int32} (hf : ∀ j, j < c → f j = nI e) : ∀ j, j < c → f j = sPar (nI e) c j := by
  intro j hj
  rw [hf j hj]
  unfold sPar
  rw [if_pos h]
end MMATH
