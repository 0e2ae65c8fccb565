/-! PART 43: what holds of every state after each call of the face. -/
section SPEC9
variable {F P : Nat} {g : Nat → Nat → Int32}
theorem le_n {lo : Nat} {a : Int32} (hl : lo < 2 ^ 31) (h : nI lo ≤ a) : (lo : Int) ≤ a.toInt := by
  rw [Int32.le_iff_toInt_le, nI_toInt hl] at h
  exact h
theorem n_le {hi : Nat} {a : Int32} (hl : hi < 2 ^ 31) (h : a ≤ nI hi) : a.toInt ≤ (hi : Int) := by
  rw [Int32.le_iff_toInt_le, nI_toInt hl] at h
  exact h
theorem le_0 {a : Int32} (h : 0 ≤ a) : 0 ≤ a.toInt := by
  rw [Int32.le_iff_toInt_le, Int32.toInt_zero] at h
  exact h
theorem inR_ix {a : Int32} {N : Nat} (h : inR a N) (hN : N < 2 ^ 31) : ix a < N ∧ a = nI (ix a) := by
  obtain ⟨j, h1, rfl⟩ := inR_of h hN
  rw [ix_nI (by omega)]
  exact ⟨h1, rfl⟩
theorem sF_iw {F' P' K : Nat} {g' : Nat → Nat → Int32} (h : Iw F P g) (h0 : K = 0 → Iw F' P' g') : Iw (sF K F' F) (sF K P' P) (sF K g' g) := by
  by_cases hK : K = 0
  · rw [hK]; exact h0 hK
  · unfold sF
    rw [if_neg hK, if_neg hK, if_neg hK]
    exact h
theorem st_addFerry (h : Iw F P g) (a : Int32) (k : k_addFerry F a = 0) : Iw (F + 1) P (gTol g F a) := by
  unfold k_addFerry at k
  split at k
  · next h1 =>
    split at k
    · exact iw_tol h (by omega) (by omega) (fun z h1 h2 => by omega) (le_0 h1.1) (n_le (by decide) h1.2)
    · cases k
  · cases k
theorem st_addPerson (h : Iw F P g) (k : k_addPerson P = 0) : Iw F (P + 1) (gPar g P (-1)) := by
  unfold k_addPerson at k
  split at k
  · next h1 =>
    refine iw_par h h1 (fun e => ?_)
    have := congrArg Int32.toInt e
    rw [nI_toInt (by omega), show (-1 : Int32).toInt = -1 by decide] at this
    omega
  · cases k
theorem st_addChild (h : Iw F P g) (a : Int32) (k : k_addChild P g a = 0) : Iw F (P + 1) (gPar g P a) := by
  unfold k_addChild at k
  split at k
  · next h1 =>
    split at k
    · split at k
      · next h3 =>
        obtain ⟨h4, h5⟩ := inR_ix h1 (by omega)
        refine iw_par h h3 (fun e => ?_)
        rw [h5] at e
        have := (nI_eq (by omega) (by omega)).mp e
        omega
      · cases k
    · cases k
  · cases k
theorem st_pay (h : Iw F P g) (a b : Int32) (k : k_pay P g a b = 0) : Iw F P (gGet g (ix a) b) := by
  unfold k_pay at k
  split at k
  · split at k
    · next h2 =>
      split at k
      · next h3 =>
        have h4 := le_n (by decide) h2.1
        have h5 := n_le (by decide) h2.2
        exact iw_get h (by omega) (by omega) (Or.inl h3)
      · cases k
    · cases k
  · cases k
theorem st_grant (h : Iw F P g) (f w a b : Int32) (k : k_grant F P g f w a b = 0) : Iw F P (gAdd g (ix f) (ix w) (ix a) b) := by
  unfold k_grant at k
  split at k
  · next h1 =>
    split at k
    · next h2 =>
      split at k
      · next h3 =>
        obtain ⟨f1, -⟩ := inR_ix h1.1 (by have := h.1.1; omega)
        obtain ⟨w1, -⟩ := inR_ix h1.2.1 (by decide)
        obtain ⟨a1, -⟩ := inR_ix h1.2.2 (by have := h.1.1; omega)
        have h4 := le_n (by decide) h2.1
        have h5 := n_le (by decide) h2.2
        have h6 := h3.2
        rw [Int32.le_iff_toInt_le, cro_toInt h.1 (by have := h.1.1; omega) w1] at h6
        have h7 := iv_own h.1 (f := ix f) (w := ix w) (p := ix a) (by have := h.1.1; omega) w1 (by have := h.1.1; omega)
        exact iw_add h f1 w1 a1 (by omega) (by omega) (by omega) (by omega) (Or.inl h3.1)
      · cases k
    · cases k
  · cases k
theorem st_give (h : Iw F P g) (a b f w n : Int32) (k : k_give F P g a b f w n = 0) : Iw F P (gGiv g (ix a) (ix b) (ix f) (ix w) n) := by
  unfold k_give at k
  split at k
  · next h1 =>
    split at k
    · next h2 =>
      split at k
      · next h3 =>
        obtain ⟨a1, a2⟩ := inR_ix h1.1 (by have := h.1.1; omega)
        obtain ⟨b1, b2⟩ := inR_ix h1.2.1 (by have := h.1.1; omega)
        obtain ⟨f1, -⟩ := inR_ix h1.2.2.1 (by have := h.1.1; omega)
        obtain ⟨w1, -⟩ := inR_ix h1.2.2.2 (by decide)
        have h4 := le_n (by decide) h2.1.1
        have h6 := h3.2
        rw [Int32.le_iff_toInt_le] at h6
        exact iw_mv h f1 w1 a1 b1 (fun e => h2.2 (by rw [a2, b2, e])) h4 h6 h3.1
      · cases k
    · cases k
  · cases k
theorem st_buy (h : Iw F P g) (a b f w : Int32) (k : k_buy F P g a b f w = 0) : Iw F P (gBuy g (ix a) (ix b) (ix f) (ix w)) := by
  unfold k_buy at k
  split at k
  · next h1 =>
    split at k
    · next h2 =>
      obtain ⟨a1, a2⟩ := inR_ix h1.1 (by have := h.1.1; omega)
      obtain ⟨b1, b2⟩ := inR_ix h1.2.1 (by have := h.1.1; omega)
      obtain ⟨f1, -⟩ := inR_ix h1.2.2.1 (by have := h.1.1; omega)
      obtain ⟨w1, -⟩ := inR_ix h1.2.2.2 (by decide)
      have hF := h.1.1.1
      have hP := h.1.1.2
      unfold sMay at h2
      simp only [Bool.and_eq_true, decide_eq_true_eq] at h2
      obtain ⟨l1, l2, l3, l4, -⟩ := h2
      rw [Int32.lt_iff_toInt_lt] at l3
      have hp := iv_prib h.1 (f := ix f) (w := ix w) (k := ix b) f1 w1 (by omega)
      have ho := iv_own h.1 (f := ix f) (w := ix w) (p := ix b) (by omega) w1 (by omega)
      have hlb : lv g (ix b) = true := by
        by_cases hd : g 3 (ix b) = 0
        · exact decide_eq_true hd
        · exact absurd (h.2 (ix f) (ix w) (ix b) (by omega) w1 (by omega) hd) l4
      have o1 : 1 ≤ (own g (ix f) (ix w) (ix b)).toInt := by
        rcases Int.lt_or_eq_of_le ho.1 with e | e
        · omega
        · exact absurd (i32_0 e.symm) l4
      have i1 := iw_pay h (k := ix a) (x := sPri g (ix f) (ix w) (ix b)) hp.1 (by omega) l1
      have i2 := iw_get i1 (k := ix b) (x := sPri g (ix f) (ix w) (ix b)) hp.1 (by omega) (Or.inl hlb)
      exact iw_mv i2 (f := ix f) (w := ix w) (a := ix b) (b := ix a) (n := own g (ix f) (ix w) (ix b)) f1 w1 b1 a1 (fun e => l2 e.symm) o1 (Int.le_refl _) l1
    · cases k
  · cases k
theorem st_setToll (h : Iw F P g) (f a n : Int32) (k : k_setToll F P g f a n = 0) : Iw F P (gTol g (ix f) n) := by
  unfold k_setToll at k
  split at k
  · next h1 =>
    split at k
    · next h2 =>
      obtain ⟨f1, -⟩ := inR_ix h1.1 (by have := h.1.1; omega)
      exact iw_tol h (Nat.le_refl _) h.1.1.1 (fun z h1 h2 => by omega) (le_0 h2.1) (n_le (by decide) h2.2)
    · cases k
  · cases k
theorem st_carry (h : Iw F P g) (f x n : Int32) (k : k_carry F f x n = 0) : Iw F P (gCry g P (ix f) (ix x / 6) n) := by
  unfold k_carry at k
  split at k
  · next h1 =>
    split at k
    · next h2 =>
      obtain ⟨f1, -⟩ := inR_ix h1.1 (by have := h.1.1; omega)
      obtain ⟨x1, -⟩ := inR_ix h1.2 (by decide)
      have h4 := le_n (by decide) h2.1
      have h5 := n_le (by decide) h2.2
      exact iw_cry h f1 (by omega) (by omega) h5
    · cases k
  · cases k
theorem st_die (h : Iw F P g) (a : Int32) (k : k_die P g a = 0) : Iw F P (gDie g F P (ix a)) := by
  unfold k_die at k
  split at k
  · next h1 => exact iw_die h (inR_ix h1 (by have := h.1.1; omega)).1
  · cases k
end SPEC9
