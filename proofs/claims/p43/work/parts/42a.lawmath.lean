/-! PART 42: rows for choices, joins and loops downwards; what the law's checks come to. -/
section ROWS2
variable {p : Program} {l : Launch} {e : Env} {R : Room} {s : State} {m : MethodId} {args : Array Value} {below : List Frame} {meth : Method} {c : Code} {H : Heap} {locs : List Loc} {cells slots : Nat} {Q : State → Prop}
variable {cc : ByteArray} {nL pc : Nat} {rest : List Value} {ls : Array Slot}
theorem r_via {pc2 : Nat} (kk : W p l e R s m args below meth c H locs cells slots Q (F0 m pc2 ls rest) → W p l e R s m args below meth c H locs cells slots Q (F0 m pc ls rest)) (k2 : W p l e R s m args below meth c H locs cells slots Q (F0 m pc2 ls rest)) : W p l e R s m args below meth c H locs cells slots Q (F0 m pc ls rest) := kk k2
/-- x == y ? 1 : 0 -/
theorem r_selE (hexec : p.tables.exec = Jvm.exec) (hb : c.code = cc) {x y : Int32} (h1 : decode cc pc = .ok (.if_icmp .ne 7, 3)) (h2 : decode cc (pc + 3) = .ok (.iconst 1, 1)) (h3 : decode cc (pc + 3 + 1) = .ok (.goto 4, 3)) (h4 : decode cc (pc + 7) = .ok (.iconst 0, 1))
    (kk : W p l e R s m args below meth c H locs cells slots Q (F0 m (pc + 8) ls (.int (bI (decide (x = y))) :: rest))) : W p l e R s m args below meth c H locs cells slots Q (F0 m pc ls (.int y :: .int x :: rest)) := by
  refine lv_icmp_ne (tgt := pc + 7) hexec hb h1 (by omega) (fun h => ?_) (fun h => ?_)
  · refine lv_iconst (v := nI 0) hexec hb h4 (by decide) ?_
    rw [decide_eq_false h] at kk
    exact kk
  · refine lv_iconst (v := nI 1) hexec hb h2 (by decide) ?_
    refine lv_goto (tgt := pc + 8) hexec hb h3 (by omega) ?_
    rw [decide_eq_true h] at kk
    exact kk
/-- x > 0 ? 1 : 0 -/
theorem r_selP (hexec : p.tables.exec = Jvm.exec) (hb : c.code = cc) {x : Int32} (h1 : decode cc pc = .ok (.ifCond .le 7, 3)) (h2 : decode cc (pc + 3) = .ok (.iconst 1, 1)) (h3 : decode cc (pc + 3 + 1) = .ok (.goto 4, 3)) (h4 : decode cc (pc + 7) = .ok (.iconst 0, 1))
    (kk : W p l e R s m args below meth c H locs cells slots Q (F0 m (pc + 8) ls (.int (bI (decide (0 < x))) :: rest))) : W p l e R s m args below meth c H locs cells slots Q (F0 m pc ls (.int x :: rest)) := by
  refine lv_if_le (tgt := pc + 7) hexec hb h1 (by omega) (fun h => ?_) (fun h => ?_)
  · refine lv_iconst (v := nI 0) hexec hb h4 (by decide) ?_
    rw [decide_eq_false (Int32.not_lt.mpr h)] at kk
    exact kk
  · refine lv_iconst (v := nI 1) hexec hb h2 (by decide) ?_
    refine lv_goto (tgt := pc + 8) hexec hb h3 (by omega) ?_
    rw [decide_eq_true (Int32.not_le.mp h)] at kk
    exact kk
/-- x < 0 ? 0 : 1 -/
theorem r_selN (hexec : p.tables.exec = Jvm.exec) (hb : c.code = cc) {x : Int32} (h1 : decode cc pc = .ok (.ifCond .lt 7, 3)) (h2 : decode cc (pc + 3) = .ok (.iconst 1, 1)) (h3 : decode cc (pc + 3 + 1) = .ok (.goto 4, 3)) (h4 : decode cc (pc + 7) = .ok (.iconst 0, 1))
    (kk : W p l e R s m args below meth c H locs cells slots Q (F0 m (pc + 8) ls (.int (bI (decide (0 ≤ x))) :: rest))) : W p l e R s m args below meth c H locs cells slots Q (F0 m pc ls (.int x :: rest)) := by
  refine lv_if_lt (tgt := pc + 7) hexec hb h1 (by omega) (fun h => ?_) (fun h => ?_)
  · refine lv_iconst (v := nI 0) hexec hb h4 (by decide) ?_
    rw [decide_eq_false (Int32.not_le.mpr h)] at kk
    exact kk
  · refine lv_iconst (v := nI 1) hexec hb h2 (by decide) ?_
    refine lv_goto (tgt := pc + 8) hexec hb h3 (by omega) ?_
    rw [decide_eq_true (Int32.not_lt.mp h)] at kk
    exact kk
/-- b ? 1 : 0 -/
theorem r_selY (hexec : p.tables.exec = Jvm.exec) (hb : c.code = cc) {x : Bool} (h1 : decode cc pc = .ok (.ifCond .eq 7, 3)) (h2 : decode cc (pc + 3) = .ok (.iconst 1, 1)) (h3 : decode cc (pc + 3 + 1) = .ok (.goto 4, 3)) (h4 : decode cc (pc + 7) = .ok (.iconst 0, 1))
    (kk : W p l e R s m args below meth c H locs cells slots Q (F0 m (pc + 8) ls (.int (bI x) :: rest))) : W p l e R s m args below meth c H locs cells slots Q (F0 m pc ls (.int (bI x) :: rest)) := by
  refine b_if_eq (tgt := pc + 7) hexec hb h1 (by omega) (fun h => ?_) (fun h => ?_)
  · refine lv_iconst (v := nI 0) hexec hb h4 (by decide) ?_
    rw [h] at kk
    exact kk
  · refine lv_iconst (v := nI 1) hexec hb h2 (by decide) ?_
    refine lv_goto (tgt := pc + 8) hexec hb h3 (by omega) ?_
    rw [h] at kk
    exact kk
theorem n_bI (a : Nat) (b : Bool) : nI a + bI b = nI (a + if b then 1 else 0) := by
  cases b
  · show nI a + nI 0 = nI a
    rw [nI_add]
    rfl
  · show nI a + nI 1 = nI (a + 1)
    exact nI_add _ _
/-- a counter that runs down to -1: k turns are left -/
def dv : Nat → Int32 | 0 => -1 | k + 1 => nI k
theorem dv_dec (k : Nat) : nI k + Int32.ofInt (-1) = dv k := by
  cases k with
  | zero => decide
  | succ k => exact nI_dec (Nat.succ_pos k)
theorem dv_sub (k : Nat) : nI k - nI 1 = dv k := by
  rw [← dv_dec k]
  show nI k - nI 1 = nI k + -1
  rw [Int32.sub_eq_add_neg]
  rfl
/-- a loop downwards -/
theorem dloop {N : Nat} {A0 : Nat → Prop} {H0 : Heap} (L : Nat → Heap → List (Nat × Value) → Prop) (hS0 : va_S A0 H0 H locs) {lv0 : List (Nat × Value)} (hL0 : L N H lv0) (hl : lv_has ls nL lv0)
    (hx : ∀ (H : Heap) (locs : List Loc) (ls : Array Slot) (lv : List (Nat × Value)), va_S A0 H0 H locs → L 0 H lv → lv_has ls nL lv → W p l e R s m args below meth c H locs cells slots Q (F0 m pc ls rest))
    (hs : ∀ k : Nat, k < N → (∀ (H : Heap) (locs : List Loc) (ls : Array Slot) (lv : List (Nat × Value)), va_S A0 H0 H locs → L k H lv → lv_has ls nL lv → W p l e R s m args below meth c H locs cells slots Q (F0 m pc ls rest)) → ∀ (H : Heap) (locs : List Loc) (ls : Array Slot) (lv : List (Nat × Value)), va_S A0 H0 H locs → L (k + 1) H lv → lv_has ls nL lv → W p l e R s m args below meth c H locs cells slots Q (F0 m pc ls rest)) :
    W p l e R s m args below meth c H locs cells slots Q (F0 m pc ls rest) := by
  have key : ∀ k, k ≤ N → ∀ (H : Heap) (locs : List Loc) (ls : Array Slot) (lv : List (Nat × Value)), va_S A0 H0 H locs → L k H lv → lv_has ls nL lv → W p l e R s m args below meth c H locs cells slots Q (F0 m pc ls rest) := by
    intro k
    induction k with
    | zero => intro _ H locs ls lv hS hL hl; exact hx H locs ls lv hS hL hl
    | succ k ih => intro hk; exact hs k (by omega) (ih (by omega))
  exact key N (Nat.le_refl _) H locs ls lv0 hS0 hL0 hl
end ROWS2
section CHECKS
variable {F P nn : Nat} {g : Nat → Nat → Int32}
theorem ff_or (b : Nat → Bool) : ∀ n i, i + n < 2 ^ 31 → ff b n i = -1 ∨ 0 ≤ ff b n i := by
  intro n
  induction n with
  | zero => intro i _; exact Or.inl rfl
  | succ n ih =>
    intro i hi
    unfold ff
    split
    · exact Or.inr (nI_pos' (by omega))
    · exact ih (i + 1) (by omega)
theorem neg1_lt : ¬ (0 : Int32) ≤ -1 := by decide
theorem ff_ne {b : Nat → Bool} {n : Nat} (hn : n ≤ 12) : decide (ff b n 0 ≠ -1) = decide (0 ≤ ff b n 0) := by
  rcases ff_or b n 0 (by omega) with h | h
  · rw [h]
    decide
  · rw [decide_eq_true h, decide_eq_true]
    intro e
    rw [e] at h
    exact neg1_lt h
theorem mas_ne (hP : P ≤ 12) (f : Nat) : decide (sMas g P f ≠ -1) = decide (0 ≤ sMas g P f) := ff_ne hP
theorem mas_no {f : Nat} (h : ¬ sMas g P f < 0) : sMas g P f ≠ -1 := by
  intro e
  rw [e] at h
  exact h (by decide)
/-- all shares of one of a ferry's first w watches, on top of those of the ferries before -/
def Tq (g : Nat → Nat → Int32) (f w p : Nat) : Int32 := sAll g f p + sm (fun w => own g f w p) w
theorem Tq_0 (f p : Nat) : Tq g f 0 p = sAll g f p := by
  show sAll g f p + nI 0 = _
  exact Int32.add_zero _
theorem Tq_s (f w p : Nat) : Tq g f w p + own g f w p = Tq g f (w + 1) p := Int32.add_assoc _ _ _
theorem Tq_4 (f p : Nat) : Tq g f 4 p = sAll g (f + 1) p := rfl
def tF (g : Nat → Nat → Int32) (f w k : Nat) : Nat → Int32 := fun p => if k ≤ p then Tq g f (w + 1) p else Tq g f w p
theorem tF_P {f w k : Nat} : ∀ j, j < k → Tq g f w j = tF g f w k j := fun j hj => (if_neg (by omega)).symm
theorem tF_0 {f w : Nat} : ∀ j, tF g f w 0 j = Tq g f (w + 1) j := fun j => if_pos (Nat.zero_le _)
theorem tF_s {f w k : Nat} : ∀ j, upd (tF g f w (k + 1)) k (tF g f w (k + 1) k + own g f w k) j = tF g f w k j := by
  intro j
  unfold upd
  by_cases e : j = k
  · subst e
    rw [if_pos rfl]
    unfold tF
    rw [if_neg (by omega), if_pos (Nat.le_refl _), Tq_s]
  · rw [if_neg e]
    unfold tF
    by_cases h : k ≤ j
    · rw [if_pos h, if_pos (by omega)]
    · rw [if_neg h, if_neg (by omega)]
/-- how many of those from k on -/
theorem cd_s {b : Nat → Bool} {k N : Nat} (h : k < N) : cn b N - cn b (k + 1) + (if b k then 1 else 0) = cn b N - cn b k := by
  have h1 := cn_mono (b := b) (show k + 1 ≤ N from h)
  have h2 := cn_s b k
  cases h3 : b k with
  | true => rw [h3] at h2; simp only [if_true] at h2 ⊢; omega
  | false => rw [h3] at h2; simp only [Bool.false_eq_true, if_false] at h2 ⊢; omega
theorem cd_P {b : Nat → Bool} {N : Nat} : cn b N - cn b N = 0 := Nat.sub_self _
theorem cd_0 {b : Nat → Bool} {N : Nat} : cn b N - cn b 0 = cn b N := rfl
/-- the best of those from lo on -/
def BST (f : Nat → Int32) (lo N : Nat) (v : Int32) : Prop := (v = -1 ∧ ∀ z, lo ≤ z → z < N → ¬ 0 < f z) ∨ ∃ b, lo ≤ b ∧ b < N ∧ v = nI b ∧ 0 < f b ∧ ∀ z, lo ≤ z → z < N → f z ≤ f b ∧ (z < b → f z < f b)
theorem bst_P {f : Nat → Int32} {N : Nat} : BST f N N (-1) := Or.inl ⟨rfl, fun z h1 h2 => by omega⟩
theorem i32_lt_le {a b c : Int32} (h1 : a < b) (h2 : b ≤ c) : a < c := by
  rw [Int32.lt_iff_toInt_lt] at h1 ⊢
  rw [Int32.le_iff_toInt_le] at h2
  omega
theorem i32_le_lt {a b c : Int32} (h1 : a ≤ b) (h2 : b < c) : a < c := by
  rw [Int32.lt_iff_toInt_lt] at h2 ⊢
  rw [Int32.le_iff_toInt_le] at h1
  omega
theorem i32_lt_of {a b : Int32} (h1 : a < b) : a ≤ b := by
  rw [Int32.lt_iff_toInt_lt] at h1
  rw [Int32.le_iff_toInt_le]
  omega
theorem i32_le_le {a b c : Int32} (h1 : a ≤ b) (h2 : b ≤ c) : a ≤ c := by
  rw [Int32.le_iff_toInt_le] at h1 h2 ⊢
  omega
theorem bst_no {f : Nat → Int32} {k N : Nat} {v : Int32} (h : BST f (k + 1) N v) (hk : ¬ 0 < f k) : BST f k N v := by
  have hk := Int32.not_lt.mp hk
  rcases h with ⟨h1, h2⟩ | ⟨b, h1, h2, h3, h4, h5⟩
  · refine Or.inl ⟨h1, fun z h3 h4 => ?_⟩
    by_cases e : z = k
    · rw [e]; exact Int32.not_lt.mpr hk
    · exact h2 z (by omega) h4
  · refine Or.inr ⟨b, by omega, h2, h3, h4, fun z h6 h7 => ?_⟩
    by_cases e : z = k
    · rw [e]; exact ⟨i32_lt_of (i32_le_lt hk h4), fun _ => i32_le_lt hk h4⟩
    · exact h5 z (by omega) h7
theorem bst_new {f : Nat → Int32} {k N : Nat} {v : Int32} (h : BST f (k + 1) N v) (hkN : k < N) (hk : 0 < f k) (hv : v < 0) (hN : N ≤ 12) : BST f k N (nI k) := by
  rcases h with ⟨h1, h2⟩ | ⟨b, h1, h2, h3, h4, h5⟩
  · refine Or.inr ⟨k, Nat.le_refl _, hkN, rfl, hk, fun z h6 h7 => ⟨?_, fun h8 => by omega⟩⟩
    by_cases e : z = k
    · rw [e]; exact Int32.not_lt.mp Int32.lt_irrefl
    · exact i32_lt_of (i32_le_lt (Int32.not_lt.mp (h2 z (by omega) h7)) hk)
  · rw [h3] at hv
    exact absurd hv (nI_pos (by omega))
/-- .. one is known -/
theorem bst_at {f : Nat → Int32} {k N : Nat} {v : Int32} (h : BST f k N v) (hv : ¬ v < 0) : ∃ b, k ≤ b ∧ b < N ∧ v = nI b := by
  rcases h with ⟨h1, h2⟩ | ⟨b, h1, h2, h3, h4, h5⟩
  · rw [h1] at hv
    exact absurd (by decide) hv
  · exact ⟨b, h1, h2, h3⟩
theorem bst_ge {f : Nat → Int32} {k N b : Nat} (h : BST f (k + 1) N (nI b)) (hkN : k < N) (hk : 0 < f k) (hb : f b ≤ f k) (hbN : b < N) (hN : N ≤ 12) : BST f k N (nI k) := by
  rcases h with ⟨h1, h2⟩ | ⟨b', h1, h2, h3, h4, h5⟩
  · exact absurd h1.symm (neg1_nI (by omega))
  · obtain rfl : b = b' := (nI_eq (by omega) (by omega)).mp h3
    refine Or.inr ⟨k, Nat.le_refl _, hkN, rfl, hk, fun z h6 h7 => ⟨?_, fun h8 => by omega⟩⟩
    by_cases e : z = k
    · rw [e]; exact Int32.not_lt.mp Int32.lt_irrefl
    · exact i32_le_le (h5 z (by omega) h7).1 hb
theorem bst_lt {f : Nat → Int32} {k N b : Nat} (h : BST f (k + 1) N (nI b)) (hkb : f k < f b) (hbN : b < N) (hN : N ≤ 12) : BST f k N (nI b) := by
  rcases h with ⟨h1, h2⟩ | ⟨b', h1, h2, h3, h4, h5⟩
  · exact absurd h1.symm (neg1_nI (by omega))
  · obtain rfl : b = b' := (nI_eq (by omega) (by omega)).mp h3
    refine Or.inr ⟨b, by omega, h2, rfl, h4, fun z h6 h7 => ?_⟩
    by_cases e : z = k
    · rw [e]; exact ⟨i32_lt_of hkb, fun _ => hkb⟩
    · exact h5 z (by omega) h7
theorem ho_2 {f : Nat → Int32} : ∀ n, ((ho f n).1 = -1 ∧ (ho f n).2 = 0 ∧ ∀ z, z < n → ¬ 0 < f z) ∨ ∃ b, b < n ∧ (ho f n).1 = nI b ∧ (ho f n).2 = f b ∧ 0 < f b ∧ ∀ z, z < n → f z ≤ f b ∧ (z < b → f z < f b)
  | 0 => Or.inl ⟨rfl, rfl, fun z hz => absurd hz (Nat.not_lt_zero _)⟩
  | n + 1 => by
    have ih := ho_2 (f := f) n
    unfold ho
    by_cases h : (ho f n).2 < f n
    · rw [if_pos h]
      refine Or.inr ⟨n, by omega, rfl, rfl, ?_⟩
      rcases ih with ⟨h1, h2, h3⟩ | ⟨b, h1, h2, h3, h4, h5⟩
      · rw [h2] at h
        refine ⟨h, fun z hz => ?_⟩
        by_cases e : z = n
        · rw [e]; exact ⟨Int32.not_lt.mp Int32.lt_irrefl, fun h9 => by omega⟩
        · have := i32_le_lt (Int32.not_lt.mp (h3 z (by omega))) h
          exact ⟨i32_lt_of this, fun _ => this⟩
      · rw [h3] at h
        refine ⟨i32_lt_le h4 (i32_lt_of h), fun z hz => ?_⟩
        by_cases e : z = n
        · rw [e]; exact ⟨Int32.not_lt.mp Int32.lt_irrefl, fun h9 => by omega⟩
        · have := i32_le_lt (h5 z (by omega)).1 h
          exact ⟨i32_lt_of this, fun _ => this⟩
    · rw [if_neg h]
      have h := Int32.not_lt.mp h
      rcases ih with ⟨h1, h2, h3⟩ | ⟨b, h1, h2, h3, h4, h5⟩
      · refine Or.inl ⟨h1, h2, fun z hz => ?_⟩
        rw [h2] at h
        by_cases e : z = n
        · rw [e]; exact Int32.not_lt.mpr h
        · exact h3 z (by omega)
      · refine Or.inr ⟨b, by omega, h2, h3, h4, fun z hz => ?_⟩
        rw [h3] at h
        by_cases e : z = n
        · rw [e]; exact ⟨h, fun h9 => by omega⟩
        · exact h5 z (by omega)
/-- the holder is the best -/
theorem bst_hol {f : Nat → Int32} {N : Nat} {v : Int32} (h : BST f 0 N v) (hc : 0 < cn (fun z => decide (0 < f z)) N) : (ho f N).1 = v ∧ (ho f N).1 ≠ -1 ∨ 12 < N := by
  by_cases hN : 12 < N
  · exact Or.inr hN
  refine Or.inl ?_
  obtain ⟨k, hk, h1, -⟩ := cn_surj hc
  have h1 := of_decide_eq_true h1
  rcases h with ⟨-, h2⟩ | ⟨b, -, h2, h3, h4, h5⟩
  · exact absurd h1 (h2 k (Nat.zero_le _) hk)
  · rcases ho_2 (f := f) N with ⟨-, -, h6⟩ | ⟨b', h6, h7, h8, h9, h10⟩
    · exact absurd h1 (h6 k hk)
    · have e : b = b' := by
        rcases Nat.lt_trichotomy b b' with h | h | h
        · exact absurd ((h10 b h2).2 h) (Int32.not_lt.mpr (h5 b' (Nat.zero_le _) h6).1)
        · exact h
        · exact absurd ((h5 b' (Nat.zero_le _) h6).2 h) (Int32.not_lt.mpr (h10 b h2).1)
      rw [h7, h3, e]
      exact ⟨rfl, fun e => neg1_nI (p := b') (by omega) e.symm⟩
/-- the richest -/
theorem ri_2 {b : Nat → Bool} {f : Nat → Int32} (hf : ∀ z, 0 ≤ f z) : ∀ n, (ri b f n = (-1, -1) ∧ ∀ z, z < n → b z = false) ∨ ∃ k, k < n ∧ ri b f n = (nI k, f k) ∧ b k = true ∧ ∀ z, z < n → b z = true → f z ≤ f k
  | 0 => Or.inl ⟨rfl, fun z hz => absurd hz (Nat.not_lt_zero _)⟩
  | n + 1 => by
    have ih := ri_2 (b := b) hf n
    unfold ri
    cases hb : b n with
    | false =>
      simp only [Bool.false_and, Bool.false_eq_true, if_false]
      rcases ih with ⟨h1, h2⟩ | ⟨k, h1, h2, h3, h4⟩
      · refine Or.inl ⟨h1, fun z hz => ?_⟩
        by_cases e : z = n
        · rw [e]; exact hb
        · exact h2 z (by omega)
      · refine Or.inr ⟨k, by omega, h2, h3, fun z hz hbz => ?_⟩
        by_cases e : z = n
        · rw [e, hb] at hbz; cases hbz
        · exact h4 z (by omega) hbz
    | true =>
      simp only [Bool.true_and]
      rcases ih with ⟨h1, h2⟩ | ⟨k, h1, h2, h3, h4⟩
      · have h : (-1 : Int32) < f n := i32_lt_le (by decide) (hf n)
        rw [h1, decide_eq_true h, if_pos rfl]
        refine Or.inr ⟨n, by omega, rfl, hb, fun z hz hbz => ?_⟩
        by_cases e : z = n
        · rw [e]; exact Int32.not_lt.mp Int32.lt_irrefl
        · rw [h2 z (by omega)] at hbz; cases hbz
      · rw [h2]
        show (if decide (f k < f n) = true then _ else _) = _ ∧ _ ∨ _
        by_cases h : f k < f n
        · rw [decide_eq_true h, if_pos rfl]
          refine Or.inr ⟨n, by omega, rfl, hb, fun z hz hbz => ?_⟩
          by_cases e : z = n
          · rw [e]; exact Int32.not_lt.mp Int32.lt_irrefl
          · exact i32_lt_of (i32_le_lt (h4 z (by omega) hbz) h)
        · rw [decide_eq_false h]
          simp only [Bool.false_eq_true, if_false]
          refine Or.inr ⟨k, by omega, rfl, h3, fun z hz hbz => ?_⟩
          by_cases e : z = n
          · rw [e]; exact Int32.not_lt.mp h
          · exact h4 z (by omega) hbz
def rI1 (g : Nat → Nat → Int32) (i : Nat) : Int32 := (ri (fun z => lv g z) (fun z => g 4 z) i).1
theorem rI1_0 : rI1 g 0 = -1 := rfl
theorem coin_0 (h : Iv F P g) (z : Nat) : 0 ≤ g 4 z := by
  have := (h.2.2.2.2.1 z).1
  rw [Int32.le_iff_toInt_le, Int32.toInt_zero]
  exact this
theorem rI1_dead {k : Nat} (h : lv g k = false) : rI1 g (k + 1) = rI1 g k := by
  unfold rI1
  conv => lhs; unfold ri
  rw [h]
  rfl
theorem rI1_new (hI : Iv F P g) {k : Nat} (h : lv g k = true) (hn : rI1 g k < 0) (hk : k ≤ 12) : rI1 g (k + 1) = nI k := by
  unfold rI1 at hn ⊢
  rcases ri_2 (b := fun z => lv g z) (f := fun z => g 4 z) (coin_0 hI) k with ⟨h1, -⟩ | ⟨j, h0, h1, -⟩
  · conv => lhs; unfold ri
    rw [h1, h, decide_eq_true (show (-1 : Int32) < g 4 k from i32_lt_le (by decide) (coin_0 hI k))]
    rfl
  · rw [h1] at hn
    exact absurd hn (nI_pos (by omega))
theorem rI1_at (hI : Iv F P g) {k : Nat} (hn : ¬ rI1 g k < 0) : ∃ j, j < k ∧ rI1 g k = nI j ∧ (ri (fun z => lv g z) (fun z => g 4 z) k).2 = g 4 j := by
  unfold rI1 at hn ⊢
  rcases ri_2 (b := fun z => lv g z) (f := fun z => g 4 z) (coin_0 hI) k with ⟨h1, -⟩ | ⟨j, h0, h1, -⟩
  · rw [h1] at hn
    exact absurd (by decide) hn
  · exact ⟨j, h0, by rw [h1], by rw [h1]⟩
theorem rI1_gt {k j : Nat} (h : lv g k = true) (e : (ri (fun z => lv g z) (fun z => g 4 z) k).2 = g 4 j) (hlt : g 4 j < g 4 k) : rI1 g (k + 1) = nI k := by
  unfold rI1
  conv => lhs; unfold ri
  rw [e, h, decide_eq_true hlt]
  rfl
theorem rI1_le {k j : Nat} (e : (ri (fun z => lv g z) (fun z => g 4 z) k).2 = g 4 j) (hlt : g 4 k ≤ g 4 j) : rI1 g (k + 1) = rI1 g k := by
  unfold rI1
  conv => lhs; unfold ri
  rw [e, decide_eq_false (Int32.not_lt.mpr hlt), Bool.and_false]
  rfl
theorem ric_ne (hI : Iv F P g) (h : sLiv g P ≠ 0) : sRic g P ≠ -1 := by
  unfold sRic
  rcases ri_2 (b := fun z => lv g z) (f := fun z => g 4 z) (coin_0 hI) P with ⟨h1, h2⟩ | ⟨j, h0, h1, -⟩
  · obtain ⟨k, hk, h3, -⟩ := cn_surj (Nat.pos_of_ne_zero h)
    rw [h2 k hk] at h3
    cases h3
  · rw [h1]
    have := hI.1.2
    exact fun e => neg1_nI (p := j) (by omega) e.symm
/-- all coins are those of the living -/
theorem coins_all (hI : Iv F P g) : csm (fun z => lv g z) (fun z => g 4 z) P = sm (fun z => g 4 z) P := csm_sm (fun z _ hz => hI.2.2.2.2.2.2.1 z (of_decide_eq_false hz))
theorem mean_nn (x : Int32) {n : Nat} (h0 : n ≠ 0) (hn : n < 2 ^ 31) : FP.Core.dIsNaN (FP.ddiv (FP.i2d x) (FP.i2d (nI n))) = false := by
  cases h : FP.Core.dIsNaN (FP.ddiv (FP.i2d x) (FP.i2d (nI n))) with
  | false => rfl
  | true =>
    have h := (FP.Core.ddiv_nan_iff _ _).mp h
    obtain ⟨s1, c1, q1, e1⟩ := FP.Core.i2d_fin x
    obtain ⟨s2, c2, q2, e2⟩ := FP.Core.i2d_fin (nI n)
    rcases h with h | h | ⟨s, t, h, -⟩ | ⟨-, h⟩
    · exact absurd (e1.symm.trans h) (by intro h; cases h)
    · exact absurd (e2.symm.trans h) (by intro h; cases h)
    · exact absurd (e1.symm.trans h) (by intro h; cases h)
    · exact absurd ((FP.Core.zero_bits2 _).mp h) (FP.Core.i2d_ne_zero (nI_ne0 (Nat.pos_of_ne_zero h0) hn))
theorem dc_nn : FP.Core.dIsNaN FP.dconst0 = false := by decide +kernel
theorem nan_same (x : UInt64) (h : isNaN64 x = true) : FP.Core.dIsNaN x = true := by
  have h1 := isNaN64_iff.mp h
  have e : (0x7fffffffffffffff : Nat) = 2 ^ 63 - 1 := by decide
  rw [e, Nat.and_two_pow_sub_one_eq_mod] at h1
  exact (FP.Core.isNaN_bits x).mpr (by omega)
theorem alike_is {r x : UInt64} (h : alike64 r x = true) (hx : FP.Core.dIsNaN x = false) : r = x := by
  unfold alike64 at h
  simp only [Bool.or_eq_true, decide_eq_true_eq, Bool.and_eq_true] at h
  rcases h with h | ⟨-, h⟩
  · exact h
  · rw [nan_same x h] at hx
    cases hx
theorem dcmp_is {x : UInt64} (hx : FP.Core.dIsNaN x = false) : Op.cmpValue (FP.dcmp x x) CmpOp.l = 0 := by
  have h : FP.dcmp x x = some .eq := FP.Core.dcmp_refl hx
  rw [h]
  rfl
end CHECKS
