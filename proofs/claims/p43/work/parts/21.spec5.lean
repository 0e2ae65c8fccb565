/-! PART 24: that the two ways of dying, of buying and of carrying lead to the same; the richest; the mean. -/
section SPEC5
theorem sl_dm {f w o : Nat} (ho : o < 12) : sl f w o / 12 = f * 4 + w ∧ sl f w o % 12 = o := by unfold sl; omega
theorem cn_inj {b : Nat → Bool} {x y : Nat} (hx : b x = true) (hy : b y = true) (h : cn b x = cn b y) : x = y := by
  rcases Nat.lt_trichotomy x y with h1 | h1 | h1
  · have := cn_lt h1 hx
    omega
  · exact h1
  · have := cn_lt h1 hy
    omega
theorem isH_ne {g : Nat → Nat → Int32} {P o k : Nat} (h : sIsH g P o k = true) : o ≠ k := by
  intro e
  subst e
  unfold sIsH at h
  simp at h
-- FerryRights' way
theorem hw_2 (g : Nat → Nat → Int32) (f k o c pl : Nat) (ho : o < 12) (hk : k < 12) (hok : o ≠ k) : ∀ n j, gHw g f k o c pl n 2 j = if j % 12 = o ∧ f * 4 ≤ j / 12 ∧ j / 12 < f * 4 + n then g 2 j + sPar (g 2 (j / 12 * 12 + k)) c pl else g 2 j
  | 0, j => by rw [if_neg (by omega)]; rfl
  | n + 1, j => by
    have ih := hw_2 g f k o c pl ho hk hok n
    show upd (gHw g f k o c pl n 2) (sl f n o) (gHw g f k o c pl n 2 (sl f n o) + sPar (gHw g f k o c pl n 2 (sl f n k)) c pl) j = _
    have h1 := sl_dm (f := f) (w := n) ho
    have h2 := sl_dm (f := f) (w := n) hk
    have e1 : gHw g f k o c pl n 2 (sl f n o) = g 2 (sl f n o) := by rw [ih, if_neg (by omega)]
    have e2 : gHw g f k o c pl n 2 (sl f n k) = g 2 (sl f n k) := by rw [ih, if_neg (by omega)]
    rw [e1, e2]
    unfold upd
    by_cases hj : j = sl f n o
    · subst hj
      rw [if_pos rfl, if_pos (by omega), show sl f n o / 12 * 12 + k = sl f n k by omega]
    · rw [if_neg hj, ih]
      by_cases hc : j % 12 = o ∧ f * 4 ≤ j / 12 ∧ j / 12 < f * 4 + n
      · rw [if_pos hc, if_pos (by omega)]
      · rw [if_neg hc, if_neg (by omega)]
theorem hf_2 (g : Nat → Nat → Int32) (k o c pl : Nat) (ho : o < 12) (hk : k < 12) (hok : o ≠ k) : ∀ n j, gHf g k o c pl n 2 j = if j % 12 = o ∧ j / 12 < n * 4 then g 2 j + sPar (g 2 (j / 12 * 12 + k)) c pl else g 2 j
  | 0, j => by rw [if_neg (by omega)]; rfl
  | n + 1, j => by
    have ih := hf_2 g k o c pl ho hk hok n
    show gHw (gHf g k o c pl n) n k o c pl 4 2 j = _
    rw [hw_2 _ n k o c pl ho hk hok 4 j, ih j, ih (j / 12 * 12 + k)]
    by_cases h1 : j % 12 = o ∧ n * 4 ≤ j / 12 ∧ j / 12 < n * 4 + 4
    · rw [if_pos h1, if_neg (by omega), if_neg (by omega), if_pos (by omega)]
    · rw [if_neg h1]
      by_cases h2 : j % 12 = o ∧ j / 12 < n * 4
      · rw [if_pos h2, if_pos (by omega)]
      · rw [if_neg h2, if_neg (by omega)]
theorem hr_2 (g : Nat → Nat → Int32) (F P k c : Nat) (hP : P ≤ 12) (hk : k < 12) : ∀ n, n ≤ P → ∀ j, gHr g F P k c n 2 j = if j / 12 < F * 4 ∧ j % 12 < n ∧ sIsH g P (j % 12) k = true then g 2 j + sPar (g 2 (j / 12 * 12 + k)) c (sCHB g P (j % 12) k) else g 2 j
  | 0, _, j => by rw [if_neg (by omega)]; rfl
  | n + 1, hn, j => by
    have ih := hr_2 g F P k c hP hk n (by omega)
    unfold gHr
    by_cases hb : sIsH g P n k = true
    · rw [if_pos hb]
      have hne := isH_ne hb
      show gHf (gHr g F P k c n) k n c (sCHB g P n k) F 2 j = _
      rw [hf_2 _ k n c _ (by omega) hk hne F j, ih j, ih (j / 12 * 12 + k)]
      have e1 : ¬ ((j / 12 * 12 + k) / 12 < F * 4 ∧ (j / 12 * 12 + k) % 12 < n ∧ sIsH g P ((j / 12 * 12 + k) % 12) k = true) := by
        intro h
        rw [show (j / 12 * 12 + k) % 12 = k by omega] at h
        exact isH_ne h.2.2 rfl
      rw [if_neg e1]
      by_cases h1 : j % 12 = n ∧ j / 12 < F * 4
      · rw [if_pos h1, if_neg (by omega), if_pos ⟨h1.2, by omega, by rw [h1.1]; exact hb⟩, h1.1]
      · rw [if_neg h1]
        by_cases h2 : j / 12 < F * 4 ∧ j % 12 < n ∧ sIsH g P (j % 12) k = true
        · rw [if_pos h2, if_pos ⟨h2.1, by omega, h2.2.2⟩]
        · rw [if_neg h2, if_neg (fun h => h2 ⟨h.1, by omega, h.2.2⟩)]
    · rw [if_neg hb, ih j]
      by_cases h2 : j / 12 < F * 4 ∧ j % 12 < n ∧ sIsH g P (j % 12) k = true
      · rw [if_pos h2, if_pos ⟨h2.1, by omega, h2.2.2⟩]
      · rw [if_neg h2, if_neg (fun h => h2 ⟨h.1, by
          by_cases e : j % 12 = n
          · rw [e] at h
            exact absurd h.2.2 hb
          · omega, h.2.2⟩)]
theorem hr_4 (g : Nat → Nat → Int32) (F P k c : Nat) : ∀ n, n ≤ P → ∀ j, gHr g F P k c n 4 j = if j < n ∧ sIsH g P j k = true then mn (g 4 j + sPar (g 4 k) c (sCHB g P j k)) else g 4 j
  | 0, _, j => by rw [if_neg (by omega)]; rfl
  | n + 1, hn, j => by
    have ih := hr_4 g F P k c n (by omega)
    unfold gHr
    by_cases hb : sIsH g P n k = true
    · rw [if_pos hb]
      have hne := isH_ne hb
      have hf := (hf_36 (gHr g F P k c n) k n c (sCHB g P n k) F).2.2
      show upd (gHf (gHr g F P k c n) k n c (sCHB g P n k) F 4) n (mn (gHf (gHr g F P k c n) k n c (sCHB g P n k) F 4 n + sPar (gHf (gHr g F P k c n) k n c (sCHB g P n k) F 4 k) c (sCHB g P n k))) j = _
      have ek : gHr g F P k c n 4 k = g 4 k := by rw [ih, if_neg (fun h => isH_ne h.2 rfl)]
      have en : gHr g F P k c n 4 n = g 4 n := by rw [ih, if_neg (by omega)]
      rw [hf, ek, en]
      unfold upd
      by_cases hj : j = n
      · subst hj
        rw [if_pos rfl, if_pos ⟨by omega, hb⟩]
      · rw [if_neg hj, ih]
        by_cases h2 : j < n ∧ sIsH g P j k = true
        · rw [if_pos h2, if_pos ⟨by omega, h2.2⟩]
        · rw [if_neg h2, if_neg (fun h => h2 ⟨by omega, h.2⟩)]
    · rw [if_neg hb, ih j]
      by_cases h2 : j < n ∧ sIsH g P j k = true
      · rw [if_pos h2, if_pos ⟨by omega, h2.2⟩]
      · rw [if_neg h2, if_neg (fun h => h2 ⟨by
          by_cases e : j = n
          · rw [e] at h
            exact absurd h.2 hb
          · omega, h.2⟩)]
theorem hw_o (g : Nat → Nat → Int32) (f k o c pl : Nat) {a : Nat} (ha : a ≠ 2) : ∀ n, gHw g f k o c pl n a = g a
  | 0 => rfl
  | n + 1 => by
    show va_up (gHw g f k o c pl n) 2 _ a = _
    rw [show va_up (gHw g f k o c pl n) 2 (upd (gHw g f k o c pl n 2) (sl f n o) (gHw g f k o c pl n 2 (sl f n o) + sPar (own (gHw g f k o c pl n) f n k) c pl)) a = gHw g f k o c pl n a by simp [va_up, ha]]
    exact hw_o g f k o c pl ha n
theorem hf_o (g : Nat → Nat → Int32) (k o c pl : Nat) {a : Nat} (ha : a ≠ 2) : ∀ n, gHf g k o c pl n a = g a
  | 0 => rfl
  | n + 1 => (hw_o _ n k o c pl ha 4).trans (hf_o g k o c pl ha n)
theorem hr_o (g : Nat → Nat → Int32) (F P k c : Nat) {a : Nat} (ha : a ≠ 2) (ha4 : a ≠ 4) : ∀ n, gHr g F P k c n a = g a
  | 0 => rfl
  | n + 1 => by
    unfold gHr
    split
    · have e : gHnd (gHr g F P k c n) F k n c (sCHB g P n k) a = gHf (gHr g F P k c n) k n c (sCHB g P n k) F a := by simp [gHnd, gGet, va_up, ha4]
      rw [e, hf_o _ k n c _ ha F]
      exact hr_o g F P k c ha ha4 n
    · exact hr_o g F P k c ha ha4 n
theorem bw_2 (g : Nat → Nat → Int32) (f k : Nat) (hk : k < 12) : ∀ n j, gBw g f k n 2 j = if j % 12 = k ∧ f * 4 ≤ j / 12 ∧ j / 12 < f * 4 + n then nI 0 else g 2 j
  | 0, j => by rw [if_neg (by omega)]; rfl
  | n + 1, j => by
    have ih := bw_2 g f k hk n
    have h2 := sl_dm (f := f) (w := n) hk
    show upd (gBw g f k n 2) (sl f n k) (nI 0) j = _
    unfold upd
    by_cases hj : j = sl f n k
    · subst hj
      rw [if_pos rfl, if_pos (by omega)]
    · rw [if_neg hj, ih]
      by_cases hc : j % 12 = k ∧ f * 4 ≤ j / 12 ∧ j / 12 < f * 4 + n
      · rw [if_pos hc, if_pos (by omega)]
      · rw [if_neg hc, if_neg (by omega)]
theorem bf_2 (g : Nat → Nat → Int32) (k : Nat) (hk : k < 12) : ∀ n j, gBf g k n 2 j = if j % 12 = k ∧ j / 12 < n * 4 then nI 0 else g 2 j
  | 0, j => by rw [if_neg (by omega)]; rfl
  | n + 1, j => by
    show gBw (gBf g k n) n k 4 2 j = _
    rw [bw_2 _ n k hk 4 j, bf_2 g k hk n j]
    by_cases h1 : j % 12 = k ∧ n * 4 ≤ j / 12 ∧ j / 12 < n * 4 + 4
    · rw [if_pos h1, if_pos (by omega)]
    · rw [if_neg h1]
      by_cases h2 : j % 12 = k ∧ j / 12 < n * 4
      · rw [if_pos h2, if_pos (by omega)]
      · rw [if_neg h2, if_neg (by omega)]
theorem bw_o (g : Nat → Nat → Int32) (f k : Nat) {a : Nat} (ha : a ≠ 2) : ∀ n, gBw g f k n a = g a
  | 0 => rfl
  | n + 1 => by
    rw [show gBw g f k (n + 1) a = gBw g f k n a by simp [gBw, va_up, ha]]
    exact bw_o g f k ha n
theorem bf_o (g : Nat → Nat → Int32) (k : Nat) {a : Nat} (ha : a ≠ 2) : ∀ n, gBf g k n a = g a
  | 0 => rfl
  | n + 1 => (bw_o _ n k ha 4).trans (bf_o g k ha n)
/-- what dying leads to, place by place -/
def dC (g : Nat → Nat → Int32) (F P k c : Nat) : Nat → Nat → Int32 := fun a j =>
  if a = 2 then (if j / 12 < F * 4 then (if j % 12 = k then nI 0 else if j % 12 < P ∧ sIsH g P (j % 12) k = true then g 2 j + sPar (g 2 (j / 12 * 12 + k)) c (sCHB g P (j % 12) k) else g 2 j) else g 2 j)
  else if a = 3 then (if j = k then nI 1 else g 3 j)
  else if a = 4 then (if j = k then nI 0 else if j < P ∧ sIsH g P j k = true then mn (g 4 j + sPar (g 4 k) c (sCHB g P j k)) else g 4 j)
  else if a = 7 then (if c = 0 then g 7 0 + g 4 k else g 7 j)
  else g a j
theorem die_0 (g : Nat → Nat → Int32) {F P k : Nat} (hP : P ≤ 12) (hk : k < 12) : gDie g F P k = dC g F P k (sCHe g P k) := by
  obtain ⟨c, hc⟩ : ∃ c, c = sCHe g P k := ⟨_, rfl⟩
  obtain ⟨G, hG⟩ : ∃ G, G = gHr g F P k c P := ⟨_, rfl⟩
  have e2 := fun j => hr_2 g F P k c hP hk P (Nat.le_refl _) j
  rw [← hG] at e2
  have e4 := fun j => hr_4 g F P k c P (Nat.le_refl _) j
  rw [← hG] at e4
  have eo : ∀ a, a ≠ 2 → a ≠ 4 → G a = g a := fun a h1 h2 => by rw [hG]; exact hr_o g F P k c h1 h2 P
  have ek : G 4 k = g 4 k := by rw [e4, if_neg (fun h => isH_ne h.2 rfl)]
  have h0 : gDi1 g F P k = if c = 0 then gCro G (g 4 k) else G := by
    unfold gDi1
    rw [← hc, ← hG, ek]
  obtain ⟨G1, hG1⟩ : ∃ G1, G1 = gDi1 g F P k := ⟨_, rfl⟩
  have f2 : G1 2 = G 2 := by rw [hG1, h0]; split <;> rfl
  have f4 : G1 4 = G 4 := by rw [hG1, h0]; split <;> rfl
  have fo : ∀ a, a ≠ 7 → G1 a = G a := fun a h => by
    rw [hG1, h0]
    split
    · simp [gCro, va_up, h]
    · rfl
  have f7 : ∀ j, G1 7 j = if c = 0 then g 7 0 + g 4 k else g 7 j := fun j => by
    rw [hG1, h0]
    split
    · show G 7 0 + g 4 k = _
      rw [eo 7 (by decide) (by decide)]
    · rw [eo 7 (by decide) (by decide)]
  unfold gDie
  rw [← hG1, ← hc]
  funext a j
  unfold gBur dC
  by_cases a2 : a = 2
  · subst a2
    rw [if_pos rfl]
    show gBf G1 k F 2 j = _
    rw [bf_2 G1 k hk F j, f2, e2]
    by_cases h1 : j / 12 < F * 4
    · by_cases h2 : j % 12 = k
      · rw [if_pos ⟨h2, h1⟩, if_pos h1, if_pos h2]
      · rw [if_neg (fun h => h2 h.1), if_pos h1, if_neg h2]
        by_cases h3 : j % 12 < P ∧ sIsH g P (j % 12) k = true
        · rw [if_pos ⟨h1, h3⟩, if_pos h3]
        · rw [if_neg (fun h => h3 h.2), if_neg h3]
    · rw [if_neg (fun h => h1 h.2), if_neg (fun h => h1 h.1), if_neg h1]
  · rw [if_neg a2]
    by_cases a3 : a = 3
    · subst a3
      rw [if_pos rfl]
      show upd (gBf G1 k F 3) k (nI 1) j = _
      rw [bf_o G1 k (by decide) F, fo 3 (by decide), eo 3 (by decide) (by decide)]
      rfl
    · rw [if_neg a3]
      by_cases a4 : a = 4
      · subst a4
        rw [if_pos rfl]
        show upd (gBf G1 k F 4) k (nI 0) j = _
        rw [bf_o G1 k (by decide) F, f4]
        unfold upd
        by_cases hj : j = k
        · rw [if_pos hj, if_pos hj]
        · rw [if_neg hj, if_neg hj, e4]
      · rw [if_neg a4]
        have e : va_up (va_up (gBf G1 k F) 4 (upd (gBf G1 k F 4) k (nI 0))) 3 (upd (gBf G1 k F 3) k (nI 1)) a j = G1 a j := by
          simp only [va_up]
          rw [if_neg a3, if_neg a4, bf_o G1 k a2 F]
        rw [e]
        by_cases a7 : a = 7
        · subst a7
          rw [if_pos rfl, f7]
        · rw [if_neg a7, fo a a7, eo a a2 a4]
-- the reference's way
def gIn (g : Nat → Nat → Int32) (n : Nat) (x : Int32) (he : Nat → Int32) (c : Nat) : Nat → Nat → Nat → Int32 | 0 => g | h + 1 => va_up (gIn g n x he c h) 2 (upd (gIn g n x he c h 2) (12 * n + ix (he h)) (gIn g n x he c h 2 (12 * n + ix (he h)) + sPar x c h))
def gOu (g : Nat → Nat → Int32) (k c : Nat) (he : Nat → Int32) : Nat → Nat → Nat → Int32 | 0 => g | n + 1 => gIn (va_up (gOu g k c he n) 2 (upd (gOu g k c he n 2) (12 * n + k) (nI 0))) n (gOu g k c he n 2 (12 * n + k)) he c c
def gCo (g : Nat → Nat → Int32) (k c : Nat) (he : Nat → Int32) : Nat → Nat → Nat → Int32 | 0 => g | h + 1 => gGet (gCo g k c he h) (ix (he h)) (sPar (gCo g k c he h 4 k) c h)
theorem in_2 {g0 g : Nat → Nat → Int32} {P k n : Nat} {x : Int32} {he : Nat → Int32} (hP : P ≤ 12) (H : HeOk g0 P k he) : ∀ h, h ≤ sCHe g0 P k → ∀ j, gIn g n x he (sCHe g0 P k) h 2 j = if j / 12 = n ∧ j % 12 < P ∧ sIsH g0 P (j % 12) k = true ∧ sCHB g0 P (j % 12) k < h then g 2 j + sPar x (sCHe g0 P k) (sCHB g0 P (j % 12) k) else g 2 j
  | 0, _, j => by rw [if_neg (by omega)]; rfl
  | h + 1, hh, j => by
    have ih := in_2 (g := g) (n := n) (x := x) hP H h (by omega)
    obtain ⟨o, h1, h2, h3, h4⟩ := H.get (show h < sCHe g0 P k from hh)
    have e0 : ix (he h) = o := by rw [h4]; exact ix_nI (by omega)
    show upd (gIn g n x he _ h 2) (12 * n + ix (he h)) (gIn g n x he _ h 2 (12 * n + ix (he h)) + sPar x _ h) j = _
    rw [e0]
    have ho : (12 * n + o) % 12 = o := by omega
    have e1 : gIn g n x he (sCHe g0 P k) h 2 (12 * n + o) = g 2 (12 * n + o) := by
      rw [ih, if_neg]
      intro hh
      rw [ho, h3] at hh
      omega
    rw [e1]
    unfold upd
    by_cases hj : j = 12 * n + o
    · subst hj
      rw [if_pos rfl, if_pos ⟨by omega, by rw [ho]; exact h1, by rw [ho]; exact h2, by rw [ho, h3]; omega⟩, ho, h3]
    · rw [if_neg hj, ih]
      by_cases hc : j / 12 = n ∧ j % 12 < P ∧ sIsH g0 P (j % 12) k = true ∧ sCHB g0 P (j % 12) k < h
      · rw [if_pos hc, if_pos ⟨hc.1, hc.2.1, hc.2.2.1, by omega⟩]
      · rw [if_neg hc, if_neg]
        intro hd
        by_cases he9 : sCHB g0 P (j % 12) k = h
        · have := cn_inj (b := fun o => sIsH g0 P o k) hd.2.2.1 h2 (he9.trans h3.symm)
          omega
        · exact hc ⟨hd.1, hd.2.1, hd.2.2.1, by omega⟩
theorem in_o {g : Nat → Nat → Int32} {n c : Nat} {x : Int32} {he : Nat → Int32} {a : Nat} (ha : a ≠ 2) : ∀ h, gIn g n x he c h a = g a
  | 0 => rfl
  | h + 1 => by
    rw [show gIn g n x he c (h + 1) a = gIn g n x he c h a by simp [gIn, va_up, ha]]
    exact in_o ha h
theorem ou_2 {g : Nat → Nat → Int32} {P k : Nat} {he : Nat → Int32} (hP : P ≤ 12) (hk : k < 12) (H : HeOk g P k he) : ∀ n j, gOu g k (sCHe g P k) he n 2 j = if j / 12 < n then (if j % 12 = k then nI 0 else if j % 12 < P ∧ sIsH g P (j % 12) k = true then g 2 j + sPar (g 2 (j / 12 * 12 + k)) (sCHe g P k) (sCHB g P (j % 12) k) else g 2 j) else g 2 j
  | 0, j => by rw [if_neg (by omega)]; rfl
  | n + 1, j => by
    have ih := ou_2 hP hk H n
    have e1 : gOu g k (sCHe g P k) he n 2 (12 * n + k) = g 2 (12 * n + k) := by rw [ih, if_neg (by omega)]
    show gIn (va_up (gOu g k (sCHe g P k) he n) 2 (upd (gOu g k (sCHe g P k) he n 2) (12 * n + k) (nI 0))) n (gOu g k (sCHe g P k) he n 2 (12 * n + k)) he (sCHe g P k) (sCHe g P k) 2 j = _
    rw [in_2 hP H _ (Nat.le_refl _) j, e1]
    have e2 : va_up (gOu g k (sCHe g P k) he n) 2 (upd (gOu g k (sCHe g P k) he n 2) (12 * n + k) (nI 0)) 2 j = if j = 12 * n + k then nI 0 else gOu g k (sCHe g P k) he n 2 j := rfl
    rw [e2, ih]
    by_cases h1 : j / 12 = n
    · by_cases h2 : j % 12 = k
      · have h3 : ¬ (j / 12 = n ∧ j % 12 < P ∧ sIsH g P (j % 12) k = true ∧ sCHB g P (j % 12) k < sCHe g P k) := fun h => by
          rw [h2] at h
          exact isH_ne h.2.2.1 rfl
        rw [if_neg h3, if_pos (by omega), if_pos (by omega), if_pos h2]
      · rw [if_pos (show j / 12 < n + 1 by omega), if_neg h2, if_neg (show ¬ j = 12 * n + k by omega), if_neg (show ¬ j / 12 < n by omega)]
        by_cases h3 : j % 12 < P ∧ sIsH g P (j % 12) k = true
        · have h4 : sCHB g P (j % 12) k < sCHe g P k := cn_lt (b := fun o => sIsH g P o k) h3.1 h3.2
          rw [if_pos ⟨h1, h3.1, h3.2, h4⟩, if_pos h3, show j / 12 * 12 + k = 12 * n + k by omega]
        · rw [if_neg (fun h => h3 ⟨h.2.1, h.2.2.1⟩), if_neg h3]
    · rw [if_neg (fun h => h1 h.1), if_neg (show ¬ j = 12 * n + k by omega)]
      by_cases h2 : j / 12 < n
      · rw [if_pos h2, if_pos (show j / 12 < n + 1 by omega)]
      · rw [if_neg h2, if_neg (show ¬ j / 12 < n + 1 by omega)]
theorem ou_o {g : Nat → Nat → Int32} {k c : Nat} {he : Nat → Int32} {a : Nat} (ha : a ≠ 2) : ∀ n, gOu g k c he n a = g a
  | 0 => rfl
  | n + 1 => by
    show gIn _ n _ he c c a = _
    rw [in_o ha]
    rw [show va_up (gOu g k c he n) 2 (upd (gOu g k c he n 2) (12 * n + k) (nI 0)) a = gOu g k c he n a by simp [va_up, ha]]
    exact ou_o ha n
theorem gco_4 {g0 g : Nat → Nat → Int32} {P k : Nat} {he : Nat → Int32} (hP : P ≤ 12) (H : HeOk g0 P k he) : ∀ h, h ≤ sCHe g0 P k → ∀ j, gCo g k (sCHe g0 P k) he h 4 j = if j < P ∧ sIsH g0 P j k = true ∧ sCHB g0 P j k < h then mn (g 4 j + sPar (g 4 k) (sCHe g0 P k) (sCHB g0 P j k)) else g 4 j
  | 0, _, j => by rw [if_neg (by omega)]; rfl
  | h + 1, hh, j => by
    have ih := gco_4 (g := g) hP H h (by omega)
    obtain ⟨o, h1, h2, h3, h4⟩ := H.get (show h < sCHe g0 P k from hh)
    have e0 : ix (he h) = o := by rw [h4]; exact ix_nI (by omega)
    show upd (gCo g k _ he h 4) (ix (he h)) (mn (gCo g k _ he h 4 (ix (he h)) + sPar (gCo g k _ he h 4 k) _ h)) j = _
    rw [e0]
    have ek : gCo g k (sCHe g0 P k) he h 4 k = g 4 k := by rw [ih, if_neg (fun h => isH_ne h.2.1 rfl)]
    have e1 : gCo g k (sCHe g0 P k) he h 4 o = g 4 o := by rw [ih, if_neg (by omega)]
    rw [ek, e1]
    unfold upd
    by_cases hj : j = o
    · subst hj
      rw [if_pos rfl, if_pos ⟨h1, h2, by omega⟩, h3]
    · rw [if_neg hj, ih]
      by_cases hc : j < P ∧ sIsH g0 P j k = true ∧ sCHB g0 P j k < h
      · rw [if_pos hc, if_pos ⟨hc.1, hc.2.1, by omega⟩]
      · rw [if_neg hc, if_neg]
        intro hd
        by_cases he9 : sCHB g0 P j k = h
        · exact hj (cn_inj (b := fun o => sIsH g0 P o k) hd.2.1 h2 (he9.trans h3.symm))
        · exact hc ⟨hd.1, hd.2.1, by omega⟩
theorem gco_o {g : Nat → Nat → Int32} {k c : Nat} {he : Nat → Int32} {a : Nat} (ha : a ≠ 4) : ∀ h, gCo g k c he h a = g a
  | 0 => rfl
  | h + 1 => by
    rw [show gCo g k c he (h + 1) a = gCo g k c he h a by simp [gCo, gGet, va_up, ha]]
    exact gco_o ha h
/-- the end of it -/
def gD1 (g : Nat → Nat → Int32) (k : Nat) : Nat → Nat → Int32 := va_up (va_up g 4 (upd (g 4) k (nI 0))) 3 (upd (va_up g 4 (upd (g 4) k (nI 0)) 3) k (nI 1))
theorem die_1 {g : Nat → Nat → Int32} {F P k : Nat} {he : Nat → Int32} (hP : P ≤ 12) (hk : k < 12) (H : HeOk g P k he) (G : Nat → Nat → Int32) (hG : G = gCo (gOu g k (sCHe g P k) he (F * 4)) k (sCHe g P k) he (sCHe g P k)) :
    (sCHe g P k = 0 → gD1 (gCro G (G 4 k)) k = gDie g F P k) ∧ (sCHe g P k ≠ 0 → gD1 G k = gDie g F P k) := by
  rw [die_0 g hP hk]
  obtain ⟨c, hc⟩ : ∃ c, c = sCHe g P k := ⟨_, rfl⟩
  have e4 : ∀ j, G 4 j = if j < P ∧ sIsH g P j k = true then mn (g 4 j + sPar (g 4 k) c (sCHB g P j k)) else g 4 j := fun j => by
    rw [hG, gco_4 hP H _ (Nat.le_refl _) j, ou_o (by decide), ← hc]
    by_cases h1 : j < P ∧ sIsH g P j k = true
    · rw [if_pos h1, if_pos ⟨h1.1, h1.2, by rw [hc]; exact cn_lt (b := fun o => sIsH g P o k) h1.1 h1.2⟩]
    · rw [if_neg h1, if_neg (fun h => h1 ⟨h.1, h.2.1⟩)]
  have e20 : G 2 = gOu g k (sCHe g P k) he (F * 4) 2 := by rw [hG, gco_o (by decide)]
  have e2 := fun j => ou_2 hP hk H (F * 4) j
  rw [← e20] at e2
  have eo : ∀ a, a ≠ 2 → a ≠ 4 → G a = g a := fun a h1 h2 => by rw [hG, gco_o h2, ou_o h1]
  have ek : G 4 k = g 4 k := by rw [e4, if_neg (fun h => isH_ne h.2 rfl)]
  rw [← hc]
  have key : ∀ G1 : Nat → Nat → Int32, (∀ a, a ≠ 7 → G1 a = G a) → (∀ j, G1 7 j = if c = 0 then g 7 0 + g 4 k else g 7 j) → gD1 G1 k = dC g F P k c := by
    intro G1 fo f7
    funext a j
    unfold gD1 dC
    by_cases a2 : a = 2
    · subst a2
      rw [if_pos rfl]
      show G1 2 j = _
      rw [fo 2 (by decide), e2, hc]
    · rw [if_neg a2]
      by_cases a3 : a = 3
      · subst a3
        rw [if_pos rfl]
        show upd (G1 3) k (nI 1) j = _
        rw [fo 3 (by decide), eo 3 (by decide) (by decide)]
        rfl
      · rw [if_neg a3]
        by_cases a4 : a = 4
        · subst a4
          rw [if_pos rfl]
          show upd (G1 4) k (nI 0) j = _
          rw [fo 4 (by decide)]
          unfold upd
          by_cases hj : j = k
          · rw [if_pos hj, if_pos hj]
          · rw [if_neg hj, if_neg hj, e4]
        · rw [if_neg a4]
          have e : va_up (va_up G1 4 (upd (G1 4) k (nI 0))) 3 (upd (va_up G1 4 (upd (G1 4) k (nI 0)) 3) k (nI 1)) a j = G1 a j := by
            simp only [va_up]
            rw [if_neg a3, if_neg a4]
          rw [e]
          by_cases a7 : a = 7
          · subst a7
            rw [if_pos rfl, f7]
          · rw [if_neg a7, fo a a7, eo a a2 a4]
  refine ⟨fun h0 => key _ (fun a h => by simp [gCro, va_up, h]) (fun j => ?_), fun h0 => key _ (fun a _ => rfl) (fun j => ?_)⟩
  · show G 7 0 + G 4 k = _
    rw [if_pos h0, ek, eo 7 (by decide) (by decide)]
  · rw [if_neg h0, eo 7 (by decide) (by decide)]
-- buying
theorem buy_1 {g : Nat → Nat → Int32} {b k f w : Nat} (hb : b < 12) (hk : k < 12) (hbk : b ≠ k) : 
    va_up (va_up (gGet (gPay g b (sPri g f w k)) k (sPri g f w k)) 2 (upd (g 2) (sl f w b) (own g f w b + own g f w k))) 2 (upd (upd (g 2) (sl f w b) (own g f w b + own g f w k)) (sl f w k) (nI 0)) = gBuy g b k f w := by
  have h1 : sl f w b ≠ sl f w k := by unfold sl; omega
  funext a j
  by_cases a2 : a = 2
  · subst a2
    show upd (upd (g 2) (sl f w b) (own g f w b + own g f w k)) (sl f w k) (nI 0) j = upd (upd (g 2) (sl f w k) (g 2 (sl f w k) + -own g f w k)) (sl f w b) (upd (g 2) (sl f w k) (g 2 (sl f w k) + -own g f w k) (sl f w b) + own g f w k) j
    unfold upd own
    by_cases hj : j = sl f w k
    · subst hj
      rw [if_pos rfl, if_neg (Ne.symm h1), if_pos rfl, Int32.add_right_neg]
      rfl
    · rw [if_neg hj]
      by_cases hj2 : j = sl f w b
      · subst hj2
        rw [if_pos rfl, if_pos rfl, if_neg h1]
      · rw [if_neg hj2, if_neg hj2, if_neg hj]
  · simp [gBuy, gAdd, gGet, gPay, va_up, a2]
-- carrying
theorem carry_1 (g : Nat → Nat → Int32) (f : Nat) (n x : Int32) : gCro (gCad g f n) x = gCad (gCro g x) f n := by
  funext a j
  by_cases a1 : a = 1
  · subst a1; rfl
  · by_cases a7 : a = 7
    · subst a7; rfl
    · simp [gCro, gCad, va_up, a1, a7]
-- the richest
theorem ri_pos (b : Nat → Bool) (f : Nat → Int32) : ∀ n, ((ri b f n).1 = -1 ∧ (ri b f n).2 = -1) ∨ ∃ j, j < n ∧ (ri b f n).1 = nI j ∧ (ri b f n).2 = f j
  | 0 => Or.inl ⟨rfl, rfl⟩
  | n + 1 => by
    unfold ri
    split
    · exact Or.inr ⟨n, by omega, rfl, rfl⟩
    · rcases ri_pos b f n with h | ⟨j, h1, h2⟩
      · exact Or.inl h
      · exact Or.inr ⟨j, by omega, h2⟩
-- the mean
theorem csm_sm {b : Nat → Bool} {f : Nat → Int32} {n : Nat} (h : ∀ z, z < n → b z = false → f z = 0) : csm b f n = sm f n := by
  induction n with
  | zero => rfl
  | succ n ih =>
    have e := ih (fun z hz => h z (by omega))
    unfold csm sm
    rw [e]
    cases hb : b n with
    | true => rfl
    | false =>
      rw [h n (by omega) hb]
      simp
end SPEC5
