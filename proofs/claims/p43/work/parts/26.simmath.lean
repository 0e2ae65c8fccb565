/-! PART 26: what handing on, getting, carrying does to the picture; the master; who may buy. -/
section SMATH
theorem cn_pos {b : Nat → Bool} {n k : Nat} (hk : k < n) (h : b k = true) : 0 < cn b n := by
  have := cn_lt hk h
  omega
variable {F P : Nat} {g g' : Nat → Nat → Int32} {T : Nat → Nat → Int32} {f w : Nat}
theorem rt_hand (hR9 : RT F P g T) (hP : P ≤ 12) {m : Nat} {a b : Int32} (hf : f < F) (hw : w < 4) (hab : a ≠ b) (hb : b = -1 ∨ ∃ p, p < P ∧ b = nI p)
    (h1 : ∀ p, p < P → own g' f w p = nI (if nI p = a then cT (T (f * 4 + w)) (nI p) - min m (cT (T (f * 4 + w)) a) else if nI p = b then cT (T (f * 4 + w)) (nI p) + min m (cT (T (f * 4 + w)) a) else cT (T (f * 4 + w)) (nI p)))
    (h2 : ∀ f' w' p, f' < F → w' < 4 → p < P → ¬ (f' = f ∧ w' = w) → own g' f' w' p = own g f' w' p) : RT F P g' (fun z => if z = f * 4 + w then hR (T (f * 4 + w)) a b m 64 else T z) := by
  intro f' w' hf' hw'
  by_cases e : f' = f ∧ w' = w
  · obtain ⟨rfl, rfl⟩ := e
    simp only [if_pos]
    refine ⟨hR_in (hR9 f' w' hf' hw').1 hb, fun p hp => ?_⟩
    rw [h1 p hp]
    congr 1
    by_cases e1 : nI p = a
    · rw [if_pos e1, e1, hR_a hab]
    · rw [if_neg e1]
      by_cases e2 : nI p = b
      · rw [if_pos e2, e2, hR_b hab]
      · rw [if_neg e2, hR_x hab m e1 e2]
  · simp only [if_neg (show ¬ f' * 4 + w' = f * 4 + w by omega)]
    exact ⟨(hR9 f' w' hf' hw').1, fun p hp => by rw [h2 f' w' p hf' hw' hp e]; exact (hR9 f' w' hf' hw').2 p hp⟩
theorem T_id {T : Nat → Nat → Int32} {n : Nat} : (fun z => if z = n then T n else T z) = T := by
  funext z
  by_cases h : z = n
  · rw [h, if_pos rfl]
  · rw [if_neg h]
theorem nI_sub' {a b : Nat} (h : b ≤ a) : nI a + -(nI b) = nI (a - b) := by
  rw [← Int32.sub_eq_add_neg, pk_sub h]
/-- the crown gives o some shares -/
theorem rt_grant (hR9 : RT F P g T) (hP : P ≤ 12) {n o : Nat} (hf : f < F) (hw : w < 4) (ho : o < P) (hn : n ≤ cT (T (f * 4 + w)) (-1)) : RT F P (gAdd g f w o (nI n)) (fun z => if z = f * 4 + w then hR (T (f * 4 + w)) (-1) (nI o) n 64 else T z) := by
  refine rt_hand hR9 hP hf hw (neg1_nI (by omega)) (Or.inr ⟨o, ho, rfl⟩) (fun p hp => ?_) (fun f' w' p hf' hw' hp hne => ?_)
  · rw [if_neg (Ne.symm (neg1_nI (by omega))), own_add hw (by omega) hw (by omega)]
    by_cases e : p = o
    · subst e
      rw [if_pos ⟨rfl, rfl, rfl⟩, if_pos rfl, (hR9 f w hf hw).2 p hp, nI_add, Nat.min_eq_left hn]
    · rw [if_neg (fun z => e z.2.2), if_neg (fun z => e ((nI_eq (by omega) (by omega)).mp z)), (hR9 f w hf hw).2 p hp]
  · rw [own_add hw (by omega) hw' (by omega), if_neg (fun z => hne ⟨z.1, z.2.1⟩)]
/-- k gives o some shares -/
theorem rt_give (hR9 : RT F P g T) (hP : P ≤ 12) {n k o : Nat} (hf : f < F) (hw : w < 4) (hk : k < P) (ho : o < P) (hko : k ≠ o) (hn : n ≤ cT (T (f * 4 + w)) (nI k)) : RT F P (gAdd (gAdd g f w k (-(nI n))) f w o (nI n)) (fun z => if z = f * 4 + w then hR (T (f * 4 + w)) (nI k) (nI o) n 64 else T z) := by
  have hne : nI k ≠ nI o := fun z => hko ((nI_eq (by omega) (by omega)).mp z)
  refine rt_hand hR9 hP hf hw hne (Or.inr ⟨o, ho, rfl⟩) (fun p hp => ?_) (fun f' w' p hf' hw' hp hne => ?_)
  · rw [own_add hw (by omega) hw (by omega)]
    by_cases e : p = o
    · subst e
      rw [if_pos ⟨rfl, rfl, rfl⟩, if_neg (Ne.symm hne), if_pos rfl, own_add hw (by omega) hw (by omega), if_neg (fun z => hko z.2.2.symm), (hR9 f w hf hw).2 p hp, nI_add, Nat.min_eq_left hn]
    · rw [if_neg (fun z => e z.2.2), own_add hw (by omega) hw (by omega)]
      by_cases e2 : p = k
      · subst e2
        rw [if_pos ⟨rfl, rfl, rfl⟩, if_pos rfl, (hR9 f w hf hw).2 p hp, nI_sub' hn, Nat.min_eq_left hn]
      · rw [if_neg (fun z => e2 z.2.2), if_neg (fun z => e2 ((nI_eq (by omega) (by omega)).mp z)), if_neg (fun z => e ((nI_eq (by omega) (by omega)).mp z)), (hR9 f w hf hw).2 p hp]
  · rw [own_add hw (by omega) hw' (by omega), if_neg (fun z => hne ⟨z.1, z.2.1⟩), own_add hw (by omega) hw' (by omega), if_neg (fun z => hne ⟨z.1, z.2.1⟩)]
/-- all of k's shares become o's -/
theorem rt_buy (hR9 : RT F P g T) (hP : P ≤ 12) {k o : Nat} (hf : f < F) (hw : w < 4) (hk : k < P) (ho : o < P) (hko : k ≠ o) : RT F P (gAdd (gAdd g f w k (-(own g f w k))) f w o (own g f w k)) (fun z => if z = f * 4 + w then hR (T (f * 4 + w)) (nI k) (nI o) 64 64 else T z) := by
  have h := rt_give hR9 hP hf hw hk ho hko (n := cT (T (f * 4 + w)) (nI k)) (Nat.le_refl _)
  rw [← (hR9 f w hf hw).2 k hk] at h
  have e : hR (T (f * 4 + w)) (nI k) (nI o) 64 64 = hR (T (f * 4 + w)) (nI k) (nI o) (cT (T (f * 4 + w)) (nI k)) 64 := by
    funext j
    unfold hR
    by_cases h1 : j < 64 ∧ T (f * 4 + w) j = nI k ∧ cn (fun z => decide (T (f * 4 + w) z = nI k)) j < cT (T (f * 4 + w)) (nI k)
    · rw [if_pos h1, if_pos ⟨h1.1, h1.2.1, by have := cn_le (fun z => decide (T (f * 4 + w) z = nI k)) j; omega⟩]
    · rw [if_neg h1, if_neg (fun z => h1 ⟨z.1, z.2.1, cn_lt (b := fun z => decide (T (f * 4 + w) z = nI k)) z.1 (decide_eq_true z.2.1)⟩)]
  rw [e]
  exact h
/-- what k has left becomes the crown's -/
theorem rt_bury (hR9 : RT F P g T) (hP : P ≤ 12) {k : Nat} (hf : f < F) (hw : w < 4) (hk : k < P) : RT F P (va_up g 2 (upd (g 2) (sl f w k) (nI 0))) (fun z => if z = f * 4 + w then hR (T (f * 4 + w)) (nI k) (-1) 64 64 else T z) := by
  have ho : ∀ f' w' p, w' < 4 → p < 12 → own (va_up g 2 (upd (g 2) (sl f w k) (nI 0))) f' w' p = if f' = f ∧ w' = w ∧ p = k then nI 0 else own g f' w' p := fun f' w' p hw' hp => by
    unfold own va_up upd
    rw [if_pos rfl]
    by_cases h : f' = f ∧ w' = w ∧ p = k
    · obtain ⟨rfl, rfl, rfl⟩ := h
      rw [if_pos rfl, if_pos ⟨rfl, rfl, rfl⟩]
    · rw [if_neg h, if_neg (fun e => h (sl_inj hw' hw hp (by omega) e))]
  refine rt_hand hR9 hP hf hw (Ne.symm (neg1_nI (by omega))) (Or.inl rfl) (fun p hp => ?_) (fun f' w' p hf' hw' hp hne => ?_)
  · rw [ho f w p hw (by omega), if_neg (show ¬ nI p = -1 from Ne.symm (neg1_nI (by omega)))]
    by_cases e : p = k
    · subst e
      rw [if_pos ⟨rfl, rfl, rfl⟩, if_pos rfl, Nat.min_eq_right (cT_le _ _), Nat.sub_self]
    · rw [if_neg (fun z => e z.2.2), if_neg (fun z => e ((nI_eq (by omega) (by omega)).mp z)), (hR9 f w hf hw).2 p hp]
  · rw [ho f' w' p hw' (by omega), if_neg (fun z => hne ⟨z.1, z.2.1⟩)]
/-- a person's row -/
theorem rI_get {k : Nat} {x : Int32} : rI (gGet g k x) k = upd (rI g k) 0 (mn (g 4 k + x)) := by
  funext j
  unfold upd
  by_cases h : j = 0
  · subst h; simp [rI, gGet, va_up, upd]
  · simp [rI, gGet, va_up, h]
theorem rI_get_ne {k p : Nat} {x : Int32} (h : p ≠ k) : rI (gGet g k x) p = rI g p := by
  funext j
  simp [rI, gGet, va_up, upd, h]
theorem rI_ear {k : Nat} {x : Int32} : rI (gEar g k x) k = upd (rI g k) 1 (g 5 k + x) := by
  funext j
  unfold upd
  by_cases h : j = 1
  · subst h; simp [rI, gEar, va_up, upd]
  · simp [rI, gEar, va_up, h]
theorem rI_ear_ne {k p : Nat} {x : Int32} (h : p ≠ k) : rI (gEar g k x) p = rI g p := by
  funext j
  simp [rI, gEar, va_up, upd, h]
theorem rI_pay {k : Nat} {x : Int32} : rI (gPay g k x) k = upd (rI g k) 0 (g 4 k - x) := by
  funext j
  unfold upd
  by_cases h : j = 0
  · subst h; simp [rI, gPay, va_up, upd]
  · simp [rI, gPay, va_up, h]
theorem rI_pay_ne {k p : Nat} {x : Int32} (h : p ≠ k) : rI (gPay g k x) p = rI g p := by
  funext j
  simp [rI, gPay, va_up, upd, h]
theorem rI_4 {k : Nat} {x : Int32} : rI (va_up g 4 (upd (g 4) k x)) k = upd (rI g k) 0 x := by
  funext j
  unfold upd
  by_cases h : j = 0
  · subst h; simp [rI, va_up, upd]
  · simp [rI, va_up, h]
theorem rI_4n {k p : Nat} {x : Int32} (h : p ≠ k) : rI (va_up g 4 (upd (g 4) k x)) p = rI g p := by
  funext j
  simp [rI, va_up, upd, h]
theorem rI_3 {k : Nat} {x : Int32} : ∀ j, j < 4 → rI (va_up g 3 (upd (g 3) k x)) k j = upd (rI g k) 3 x j := by
  intro j hj
  rcases (show j = 0 ∨ j = 1 ∨ j = 2 ∨ j = 3 by omega) with rfl | rfl | rfl | rfl <;> simp [rI, va_up, upd]
theorem rI_3n {k p : Nat} {x : Int32} (h : p ≠ k) : rI (va_up g 3 (upd (g 3) k x)) p = rI g p := by
  funext j
  simp [rI, va_up, upd, h]
/-- the last one -/
def lm (b : Nat → Bool) : Nat → Int32 | 0 => -1 | n + 1 => if b n then nI n else lm b n
theorem lm_ff {b b' : Nat → Bool} {n : Nat} (he : ∀ z, z < n → b z = b' z) (h1 : ∀ x z, x < n → z < n → b x = true → b z = true → x = z) : lm b n = ff b' n 0 := by
  have key : ∀ m, m ≤ n → (lm b m = -1 ∧ ∀ z, z < m → b z = false) ∨ ∃ k, k < m ∧ b k = true ∧ lm b m = nI k := by
    intro m
    induction m with
    | zero => intro _; exact Or.inl ⟨rfl, fun z hz => absurd hz (Nat.not_lt_zero _)⟩
    | succ m ih =>
      intro hm
      show ((if b m then nI m else lm b m) = -1 ∧ _) ∨ ∃ k, k < m + 1 ∧ b k = true ∧ (if b m then nI m else lm b m) = nI k
      by_cases hb : b m = true
      · exact Or.inr ⟨m, by omega, hb, by rw [if_pos hb]⟩
      · rw [if_neg hb]
        rw [Bool.not_eq_true] at hb
        rcases ih (by omega) with ⟨h2, h3⟩ | ⟨k, h2, h3, h4⟩
        · refine Or.inl ⟨h2, fun z hz => ?_⟩
          by_cases e : z = m
          · rw [e]; exact hb
          · exact h3 z (by omega)
        · exact Or.inr ⟨k, by omega, h3, h4⟩
  rcases key n (Nat.le_refl _) with ⟨h2, h3⟩ | ⟨k, h2, h3, h4⟩
  · rw [h2, ff_none (fun z hz => by rw [← he z hz]; exact h3 z hz)]
  · rw [h4, ff_some (k := k) (fun z hz => ?_) (by rw [← he k h2]; exact h3) h2]
    rw [← he z (by omega)]
    cases hb : b z with
    | false => rfl
    | true => have := h1 z k (by omega) h2 hb h3; omega
theorem si_2 {a : Nat → Int} {n x z : Nat} (h : ∀ p, p < n → 0 ≤ a p) (hx : x < n) (hz : z < n) (hxz : x ≠ z) : a x + a z ≤ si a n := by
  have e := si_at (f := fun p => if p = x then 0 else a p) (f' := a) (n := n) (k := x) (x := a x) hx (fun p _ => by
    by_cases hp : p = x
    · subst hp; simp
    · simp [hp])
  have h2 := si_le (f := fun p => if p = x then 0 else a p) (n := n) (k := z) (fun p hp => by
    show 0 ≤ (if p = x then 0 else a p)
    split
    · exact Int.le_refl _
    · exact h p hp) hz
  simp only [if_neg (Ne.symm hxz)] at h2
  omega
/-- of two together -/
theorem iv_own2 (h : Iv F P g) {x z : Nat} (hf : f < 6) (hw : w < 4) (hx : x < 12) (hz : z < 12) (hxz : x ≠ z) : (own g f w x).toInt + (own g f w z).toInt ≤ 64 := by
  have h1 := h.2.2.1 f w hf hw
  have := si_2 (a := fun p => (own g f w p).toInt) (n := 12) h1.1 hx hz hxz
  omega
theorem fer_toInt (h : Iv F P g) {k : Nat} (hf : f < 6) (hk : k < 12) : (sFer g f k).toInt = (own g f 0 k).toInt + (own g f 1 k).toInt + (own g f 2 k).toInt + (own g f 3 k).toInt := by
  have b0 := iv_own h (f := f) (w := 0) (p := k) hf (by decide) hk
  have b1 := iv_own h (f := f) (w := 1) (p := k) hf (by decide) hk
  have b2 := iv_own h (f := f) (w := 2) (p := k) hf (by decide) hk
  have b3 := iv_own h (f := f) (w := 3) (p := k) hf (by decide) hk
  have e0 : (nI 0).toInt = 0 := by decide
  show (nI 0 + own g f 0 k + own g f 1 k + own g f 2 k + own g f 3 k).toInt = _
  have s0 : (nI 0 + own g f 0 k).toInt = (own g f 0 k).toInt := by rw [toInt_add_of (by omega) (by omega) (by omega) (by omega)]; omega
  have s1 : (nI 0 + own g f 0 k + own g f 1 k).toInt = (own g f 0 k).toInt + (own g f 1 k).toInt := by rw [toInt_add_of (by omega) (by omega) (by omega) (by omega)]; omega
  have s2 : (nI 0 + own g f 0 k + own g f 1 k + own g f 2 k).toInt = (own g f 0 k).toInt + (own g f 1 k).toInt + (own g f 2 k).toInt := by rw [toInt_add_of (by omega) (by omega) (by omega) (by omega)]; omega
  rw [toInt_add_of (by omega) (by omega) (by omega) (by omega)]
  omega
theorem fer_129 {x : Int32} : (!decide (x < nI 129)) = decide (nI 128 < x) := by
  by_cases h : nI 128 < x
  · have h2 : ¬ x < nI 129 := by
      rw [Int32.lt_iff_toInt_lt] at h ⊢
      rw [show (nI 128).toInt = 128 by decide] at h
      rw [show (nI 129).toInt = 129 by decide]
      omega
    simp [h, h2]
  · have h2 : x < nI 129 := by
      rw [Int32.lt_iff_toInt_lt] at h ⊢
      rw [show (nI 128).toInt = 128 by decide] at h
      rw [show (nI 129).toInt = 129 by decide]
      omega
    simp [h, h2]
theorem fer_one (h : Iv F P g) {x z : Nat} (hf : f < 6) (hx : x < 12) (hz : z < 12) (h1 : nI 128 < sFer g f x) (h2 : nI 128 < sFer g f z) : x = z := by
  by_cases e : x = z
  · exact e
  · exfalso
    rw [Int32.lt_iff_toInt_lt, show (nI 128).toInt = 128 by decide, fer_toInt h hf hx] at h1
    rw [Int32.lt_iff_toInt_lt, show (nI 128).toInt = 128 by decide, fer_toInt h hf hz] at h2
    have b0 := iv_own2 h (f := f) (w := 0) hf (by decide) hx hz e
    have b1 := iv_own2 h (f := f) (w := 1) hf (by decide) hx hz e
    have b2 := iv_own2 h (f := f) (w := 2) hf (by decide) hx hz e
    have b3 := iv_own2 h (f := f) (w := 3) hf (by decide) hx hz e
    omega
theorem mas_lm (h : Iv F P g) (hf : f < 6) : lm (fun z => !decide (sFer g f z < nI 129)) P = sMas g P f := by
  have hP := h.1.2
  refine lm_ff (fun z _ => fer_129) (fun x z hx hz h1 h2 => ?_)
  have h1 := of_decide_eq_true (fer_129.symm.trans h1)
  have h2 := of_decide_eq_true (fer_129.symm.trans h2)
  exact fer_one h hf (by omega) (by omega) h1 h2
/-- who may buy -/
theorem bI_f {b : Bool} (h : b = false) : nI 0 = bI b := by rw [h]; rfl
theorem bI_t {b : Bool} (h : b = true) : nI 1 = bI b := by rw [h]; rfl
variable {b s : Nat}
theorem may_1 (h : b = s) : sMay g P b s f w = false := by simp [sMay, h]
theorem may_2 (hI : Iv F P g) (hf : f < F) (hw : w < 4) (hs : s < 12) (h : sPri g f w s < nI 1) : sMay g P b s f w = false := by
  have h1 := iv_prib hI hf hw hs
  rw [Int32.lt_iff_toInt_lt, show (nI 1).toInt = 1 by decide] at h
  have h2 : sPri g f w s = 0 := i32_0 (by omega)
  have h3 := (iv_pri0 hI hf hw hs).mp h2
  simp [sMay, h3]
theorem may_3 (h : g 3 b = nI 1) : sMay g P b s f w = false := by
  have : lv g b = false := by unfold lv; rw [h]; rfl
  simp [sMay, this]
theorem may_4 (h : g 4 b < sPri g f w s) : sMay g P b s f w = false := by simp [sMay, h]
theorem lv_01 {k : Nat} (h : g 3 k = 0 ∨ g 3 k = 1) (h1 : ¬ g 3 k = nI 1) : lv g k = true := by
  rcases h with h | h
  · exact decide_eq_true h
  · exact absurd h h1
theorem own_ne (hI : Iv F P g) (hf : f < F) (hw : w < 4) (hs : s < 12) (h : ¬ sPri g f w s < nI 1) : own g f w s ≠ 0 := fun e => by
  rw [(iv_pri0 hI hf hw hs).mpr e] at h
  exact h (by decide)
theorem may_y (h1 : b ≠ s) (h2 : own g f w s ≠ 0) (h3 : lv g b = true) (h4 : ¬ g 4 b < sPri g f w s) (h5 : 0 < own g f w b) : sMay g P b s f w = true := by simp [sMay, h1, h2, h3, h4, h5]
theorem may_o (h1 : b ≠ s) (h2 : own g f w s ≠ 0) (h3 : lv g b = true) (h4 : ¬ g 4 b < sPri g f w s) (h5 : ¬ 0 < own g f w b) : sMay g P b s f w = !(sOth g P s f w (sPri g f w s)) := by
  simp [sMay, h1, h2, h3, h4, h5]
theorem oth_y (hR9 : RT F P g T) (hP : P ≤ 12) (hf : f < F) (hw : w < 4) {i k : Nat} {x : Int32} (hi : i < 64) (hk : k < P) (e : T (f * 4 + w) i = nI k) (h1 : k ≠ s) (h2 : ¬ g 4 k < x) : sOth g P s f w x = true := by
  have h3 : 0 < cT (T (f * 4 + w)) (nI k) := cn_pos hi (decide_eq_true e)
  have h4 : 0 < own g f w k := by
    rw [(hR9 f w hf hw).2 k hk]
    have := cT_le (T (f * 4 + w)) (nI k)
    exact nI_lt (a := 0) h3 (by omega)
  exact an_some (k := k) (by simp [h1, h4, Int32.not_lt.mp h2]) hk
theorem oth_n (hR9 : RT F P g T) (hf : f < F) (hw : w < 4) {x : Int32} (h : ∀ i, i < 64 → ∀ k, k < P → T (f * 4 + w) i = nI k → k = s ∨ g 4 k < x) : sOth g P s f w x = false := by
  refine an_none (fun k hk => ?_)
  by_cases h1 : k = s
  · simp [h1]
  · by_cases h2 : 0 < own g f w k
    · rw [(hR9 f w hf hw).2 k hk] at h2
      have h3 : 0 < cT (T (f * 4 + w)) (nI k) := by
        rcases Nat.eq_zero_or_pos (cT (T (f * 4 + w)) (nI k)) with e | e
        · rw [e] at h2
          exact absurd h2 (by decide)
        · exact e
      obtain ⟨i, hi, hb, -⟩ := cn_surj h3
      rcases h i hi k hk (of_decide_eq_true hb) with h4 | h4
      · exact absurd h4 h1
      · simp [Int32.not_le.mpr h4]
    · simp [h2]
theorem rt_ix (hR9 : RT F P g T) (hf : f < F) (hw : w < 4) {i : Nat} (hi : i < 64) (h : ¬ T (f * 4 + w) i < 0) : ∃ k, k < P ∧ T (f * 4 + w) i = nI k := by
  rcases (hR9 f w hf hw).1 i hi with e | e
  · rw [e] at h
    exact absurd (by decide) h
  · exact e
end SMATH
