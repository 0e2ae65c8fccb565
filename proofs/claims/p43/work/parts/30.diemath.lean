/-! PART 30: carrying and dying, share by share. -/
section DMATH
variable {F P : Nat} {g g' : Nat → Nat → Int32} {T : Nat → Nat → Int32} {f w : Nat} {n : Int32}
theorem car_o (a : Nat) (h4 : a ≠ 4) (h5 : a ≠ 5) : ∀ i, gCar g f w n i a = g a
  | 0 => rfl
  | i + 1 => by
    show va_up (va_up (gCar g f w n i) 5 _) 4 _ a = g a
    simp only [va_up, if_neg h4, if_neg h5]
    exact car_o a h4 h5 i
theorem far_car {i k : Nat} : g 0 f * n * own (gCar g f w n i) f w k / nI 64 = sFar (gCar g f w n i) f w k n := by
  unfold sFar
  rw [car_o 0 (by decide) (by decide)]
theorem rt_car (hR9 : RT F P g T) (i : Nat) : RT F P (gCar g f w n i) T := hR9.cg (fun f' w' p _ _ _ => by unfold own; rw [car_o 2 (by decide) (by decide)])
theorem RT.bd (hR9 : RT F P g T) {k : Nat} (hf : f < F) (hw : w < 4) (hk : k < P) : ∃ e, e ≤ 64 ∧ own g f w k = nI e := ⟨_, cT_le _ _, (hR9 f w hf hw).2 k hk⟩
theorem SS.bd {D : va_G} {ci : ClassId} {cj : ClassId × ClassId} {A : Nat → Nat} {H : Heap} (h : SS D ci cj A F P g H) {k : Nat} (hf : f < F) (hw : w < 4) (hk : k < P) : ∃ e, e ≤ 64 ∧ own g f w k = nI e := by
  obtain ⟨T, h1, -⟩ := h
  exact h1.bd hf hw hk
/-- the parts as plain numbers -/
def pN (e c h : Nat) : Nat := (sPar (nI e) c h).toNatClampNeg
theorem par_N : ∀ e, e < 65 → ∀ c, c < 13 → 0 < c → sN (fun h => pN e c h) c = e ∧ ∀ h, h < c → sPar (nI e) c h = nI (pN e c h) ∧ pN e c h ≤ 64 := by decide +kernel
theorem sN_mono {a : Nat → Nat} {i j : Nat} (h : i ≤ j) : sN a i ≤ sN a j := by
  induction j with
  | zero => rw [show i = 0 by omega]; exact Nat.le_refl _
  | succ j ih =>
    by_cases e : i = j + 1
    · rw [e]; exact Nat.le_refl _
    · have := ih (by omega)
      show sN a i ≤ sN a j + a j
      omega
/-- while the ferries' watches are dealt out: n done, of the next one (of e shares) the first j0 heirs served -/
def dS (g : Nat → Nat → Int32) (P k c n e j0 : Nat) : Nat → Nat → Int32 := fun a j =>
  if a = 2 then (if j / 12 < n then (if j % 12 = k then nI 0 else if j % 12 < P ∧ sIsH g P (j % 12) k = true then g 2 j + sPar (g 2 (j / 12 * 12 + k)) c (sCHB g P (j % 12) k) else g 2 j)
    else if j / 12 = n then (if j % 12 = k then nI (e - sN (fun h => pN e c h) j0) else if j % 12 < P ∧ sIsH g P (j % 12) k = true ∧ sCHB g P (j % 12) k < j0 then g 2 j + sPar (nI e) c (sCHB g P (j % 12) k) else g 2 j)
    else g 2 j)
  else g a j
theorem dS_own {k c m e j0 p : Nat} (hw : w < 4) (hp : p < 12) : own (dS g P k c m e j0) f w p = if f * 4 + w < m then (if p = k then nI 0 else if p < P ∧ sIsH g P p k = true then own g f w p + sPar (own g f w k) c (sCHB g P p k) else own g f w p)
    else if f * 4 + w = m then (if p = k then nI (e - sN (fun h => pN e c h) j0) else if p < P ∧ sIsH g P p k = true ∧ sCHB g P p k < j0 then own g f w p + sPar (nI e) c (sCHB g P p k) else own g f w p)
    else own g f w p := by
  obtain ⟨e1, e2⟩ := sl_dm (f := f) (w := w) hp
  unfold own dS
  rw [if_pos rfl, e1, e2]
  rfl
theorem dS_o {k c m e j0 a : Nat} (ha : a ≠ 2) : dS g P k c m e j0 a = g a := by
  funext j
  unfold dS
  rw [if_neg ha]
variable {k c : Nat} {he : Nat → Int32}
/-- an heir's turn -/
theorem dS_step (hP : P ≤ 12) (hk : k < P) (hc : c = sCHe g P k) (hw : w < 4) {e j0 o : Nat} (he64 : e ≤ 64) (hj : j0 < c) (ho : o < P) (hh : sIsH g P o k = true) (hb : sCHB g P o k = j0) {f' w' p : Nat} (hw' : w' < 4) (hp : p < P) :
    own (gAdd (gAdd (dS g P k c (f * 4 + w) e j0) f w k (-(nI (pN e c j0)))) f w o (nI (pN e c j0))) f' w' p = own (dS g P k c (f * 4 + w) e (j0 + 1)) f' w' p := by
  have hok : o ≠ k := isH_ne hh
  have hc12 : c ≤ 12 := by rw [hc]; exact Nat.le_trans (cn_le _ _) hP
  obtain ⟨hs, hq⟩ := par_N e (by omega) c (by omega) (by omega)
  have h1 := sN_mono (a := fun h => pN e c h) (show j0 + 1 ≤ c from hj)
  have h2 : sN (fun h => pN e c h) (j0 + 1) = sN (fun h => pN e c h) j0 + pN e c j0 := rfl
  rw [own_add hw (by omega) hw' (by omega)]
  by_cases e1 : f' = f ∧ w' = w ∧ p = o
  · obtain ⟨rfl, rfl, rfl⟩ := e1
    rw [if_pos ⟨rfl, rfl, rfl⟩, own_add hw (by omega) hw (by omega), if_neg (fun z => hok z.2.2), dS_own hw (by omega), dS_own hw (by omega), if_neg (by omega), if_pos rfl, if_neg hok, if_neg (fun z => by have := z.2.2; omega), if_neg (by omega), if_pos rfl, if_neg hok, if_pos ⟨ho, hh, by omega⟩, hb, (hq j0 hj).1]
  · rw [if_neg e1, own_add hw (by omega) hw' (by omega)]
    by_cases e2 : f' = f ∧ w' = w ∧ p = k
    · obtain ⟨rfl, rfl, rfl⟩ := e2
      rw [if_pos ⟨rfl, rfl, rfl⟩, dS_own hw (by omega), dS_own hw (by omega), if_neg (by omega), if_pos rfl, if_pos rfl, if_neg (by omega), if_pos rfl, if_pos rfl, nI_sub' (by omega)]
      congr 1
      omega
    · rw [if_neg e2, dS_own hw' (by omega), dS_own hw' (by omega)]
      by_cases e3 : f' * 4 + w' < f * 4 + w
      · rw [if_pos e3, if_pos e3]
      · rw [if_neg e3, if_neg e3]
        by_cases e4 : f' * 4 + w' = f * 4 + w
        · rw [if_pos e4, if_pos e4]
          have hpk : p ≠ k := fun z => e2 ⟨by omega, by omega, z⟩
          have hpo : p ≠ o := fun z => e1 ⟨by omega, by omega, z⟩
          rw [if_neg hpk, if_neg hpk]
          by_cases e5 : p < P ∧ sIsH g P p k = true ∧ sCHB g P p k < j0
          · rw [if_pos e5, if_pos ⟨e5.1, e5.2.1, by omega⟩]
          · rw [if_neg e5, if_neg (fun z => e5 ⟨z.1, z.2.1, by
              have h9 : sCHB g P p k ≠ j0 := fun y => hpo (cn_inj (b := fun z => sIsH g P z k) z.2.1 hh (y.trans hb.symm))
              have := z.2.2
              omega⟩)]
        · rw [if_neg e4, if_neg e4]
/-- n watches are done -/
def dO (g : Nat → Nat → Int32) (P k c n : Nat) : Nat → Nat → Int32 := fun a j =>
  if a = 2 then (if j / 12 < n then (if j % 12 = k then nI 0 else if j % 12 < P ∧ sIsH g P (j % 12) k = true then g 2 j + sPar (g 2 (j / 12 * 12 + k)) c (sCHB g P (j % 12) k) else g 2 j) else g 2 j)
  else g a j
theorem dO_own {k c m p : Nat} (hp : p < 12) : own (dO g P k c m) f w p = if f * 4 + w < m then (if p = k then nI 0 else if p < P ∧ sIsH g P p k = true then own g f w p + sPar (own g f w k) c (sCHB g P p k) else own g f w p) else own g f w p := by
  obtain ⟨e1, e2⟩ := sl_dm (f := f) (w := w) hp
  unfold own dO
  rw [if_pos rfl, e1, e2]
  rfl
theorem dO_o {k c m a : Nat} (ha : a ≠ 2) : dO g P k c m a = g a := by
  funext j
  unfold dO
  rw [if_neg ha]
theorem dO_0 : ∀ f w p, own (dO g P k c 0) f w p = own g f w p := fun f w p => by
  unfold own dO
  rw [if_pos rfl, if_neg (Nat.not_lt_zero _)]
theorem dO_k {m : Nat} (hk : k < 12) (h : ¬ f * 4 + w < m) : own (dO g P k c m) f w k = own g f w k := by rw [dO_own hk, if_neg h]
theorem dS_0 {e : Nat} (hw : w < 4) (hx : own g f w k = nI e) {f' w' p : Nat} (hw' : w' < 4) (hp : p < 12) : own (dS g P k c (f * 4 + w) e 0) f' w' p = own (dO g P k c (f * 4 + w)) f' w' p := by
  rw [dS_own hw' hp, dO_own hp]
  by_cases e1 : f' * 4 + w' < f * 4 + w
  · rw [if_pos e1, if_pos e1]
  · rw [if_neg e1, if_neg e1]
    by_cases e2 : f' * 4 + w' = f * 4 + w
    · obtain rfl : f' = f := by omega
      obtain rfl : w' = w := by omega
      rw [if_pos rfl]
      by_cases e3 : p = k
      · subst e3
        rw [if_pos rfl, hx]
        rfl
      · rw [if_neg e3, if_neg (fun z => absurd z.2.2 (Nat.not_lt_zero _))]
    · rw [if_neg e2]
/-- what is left goes to the crown -/
theorem dS_end (hP : P ≤ 12) (hk : k < P) (hc : c = sCHe g P k) (hw : w < 4) {e : Nat} (hx : own g f w k = nI e) {f' w' p : Nat} (hw' : w' < 4) (hp : p < P) :
    own (va_up (dS g P k c (f * 4 + w) e c) 2 (upd (dS g P k c (f * 4 + w) e c 2) (sl f w k) (nI 0))) f' w' p = own (dO g P k c (f * 4 + w + 1)) f' w' p := by
  have e0 : own (va_up (dS g P k c (f * 4 + w) e c) 2 (upd (dS g P k c (f * 4 + w) e c 2) (sl f w k) (nI 0))) f' w' p = if f' = f ∧ w' = w ∧ p = k then nI 0 else own (dS g P k c (f * 4 + w) e c) f' w' p := by
    unfold own va_up upd
    rw [if_pos rfl]
    by_cases h : f' = f ∧ w' = w ∧ p = k
    · obtain ⟨rfl, rfl, rfl⟩ := h
      rw [if_pos rfl, if_pos ⟨rfl, rfl, rfl⟩]
    · rw [if_neg h, if_neg (fun z => h (sl_inj hw' hw (by omega) (by omega) z))]
  rw [e0, dO_own (by omega)]
  by_cases e1 : f' * 4 + w' = f * 4 + w
  · obtain rfl : f' = f := by omega
    obtain rfl : w' = w := by omega
    rw [if_pos (show f' * 4 + w' < f' * 4 + w' + 1 by omega)]
    by_cases e2 : p = k
    · rw [if_pos ⟨rfl, rfl, e2⟩, if_pos e2]
    · rw [if_neg (fun z => e2 z.2.2), dS_own hw' (by omega), if_neg (Nat.lt_irrefl _), if_pos rfl, if_neg e2, if_neg e2, hx]
      by_cases e3 : p < P ∧ sIsH g P p k = true
      · rw [if_pos e3, if_pos ⟨e3.1, e3.2, by rw [hc]; exact cn_lt (b := fun o => sIsH g P o k) e3.1 e3.2⟩]
      · rw [if_neg e3, if_neg (fun z => e3 ⟨z.1, z.2.1⟩)]
  · rw [if_neg (fun z => e1 (by rw [z.1, z.2.1])), dS_own hw' (by omega)]
    by_cases e2 : f' * 4 + w' < f * 4 + w
    · rw [if_pos e2, if_pos (show f' * 4 + w' < f * 4 + w + 1 by omega)]
    · rw [if_neg e2, if_neg e1, if_neg (show ¬ f' * 4 + w' < f * 4 + w + 1 by omega)]
/-- the coins: the first j1 heirs served -/
def dQ (g : Nat → Nat → Int32) (F P k c j1 : Nat) : Nat → Nat → Int32 := fun a j => if a = 4 then (if j < P ∧ sIsH g P j k = true ∧ sCHB g P j k < j1 then mn (g 4 j + sPar (g 4 k) c (sCHB g P j k)) else g 4 j) else dO g P k c (F * 4) a j
theorem dQ_0 : dQ g F P k c 0 = dO g P k c (F * 4) := by
  funext a j
  unfold dQ
  by_cases h : a = 4
  · subst h
    rw [if_pos rfl, if_neg (fun z => absurd z.2.2 (Nat.not_lt_zero _)), dO_o (by decide)]
  · rw [if_neg h]
theorem dQ_k {j1 : Nat} : dQ g F P k c j1 4 k = g 4 k := by
  unfold dQ
  rw [if_pos rfl, if_neg (fun z => isH_ne z.2.1 rfl)]
theorem dQ_step {j1 o : Nat} (ho : o < P) (hh : sIsH g P o k = true) (hb : sCHB g P o k = j1) : gGet (dQ g F P k c j1) o (sPar (g 4 k) c j1) = dQ g F P k c (j1 + 1) := by
  funext a j
  by_cases h : a = 4
  · subst h
    show upd (dQ g F P k c j1 4) o (mn (dQ g F P k c j1 4 o + sPar (g 4 k) c j1)) j = dQ g F P k c (j1 + 1) 4 j
    unfold upd dQ
    rw [if_pos rfl, if_pos rfl, if_pos rfl]
    by_cases hj : j = o
    · subst hj
      rw [if_pos rfl, if_neg (fun z => by have := z.2.2; omega), if_pos ⟨ho, hh, by omega⟩, hb]
    · rw [if_neg hj]
      by_cases e5 : j < P ∧ sIsH g P j k = true ∧ sCHB g P j k < j1
      · rw [if_pos e5, if_pos ⟨e5.1, e5.2.1, by omega⟩]
      · rw [if_neg e5, if_neg (fun z => e5 ⟨z.1, z.2.1, by
          have h9 : sCHB g P j k ≠ j1 := fun y => hj (cn_inj (b := fun z => sIsH g P z k) z.2.1 hh (y.trans hb.symm))
          have := z.2.2
          omega⟩)]
  · show (va_up (dQ g F P k c j1) 4 _) a j = _
    simp only [va_up, if_neg h]
    unfold dQ
    rw [if_neg h, if_neg h]
theorem die_2 (hP : P ≤ 12) (hk : k < 12) (hc : c = sCHe g P k) : (c = 0 → gD1 (gCro (dQ g F P k c c) (dQ g F P k c c 4 k)) k = gDie g F P k) ∧ (c ≠ 0 → gD1 (dQ g F P k c c) k = gDie g F P k) := by
  rw [die_0 g hP hk, ← hc]
  have key : ∀ G1 : Nat → Nat → Int32, (∀ a, a ≠ 7 → G1 a = dQ g F P k c c a) → (∀ j, G1 7 j = if c = 0 then g 7 0 + g 4 k else g 7 j) → gD1 G1 k = dC g F P k c := by
    intro G1 fo f7
    funext a j
    unfold gD1 dC
    by_cases a2 : a = 2
    · subst a2
      rw [if_pos rfl]
      show G1 2 j = _
      rw [fo 2 (by decide)]
      unfold dQ dO
      rw [if_neg (by decide), if_pos rfl]
    · rw [if_neg a2]
      by_cases a3 : a = 3
      · subst a3
        rw [if_pos rfl]
        show upd (G1 3) k (nI 1) j = _
        rw [fo 3 (by decide)]
        unfold upd dQ
        rw [if_neg (show ¬ (3 : Nat) = 4 by decide), dO_o (by decide)]
      · rw [if_neg a3]
        by_cases a4 : a = 4
        · subst a4
          rw [if_pos rfl]
          show upd (G1 4) k (nI 0) j = _
          rw [fo 4 (by decide)]
          unfold upd dQ
          rw [if_pos rfl]
          by_cases hj : j = k
          · rw [if_pos hj, if_pos hj]
          · rw [if_neg hj, if_neg hj]
            by_cases e3 : j < P ∧ sIsH g P j k = true
            · rw [if_pos e3, if_pos ⟨e3.1, e3.2, by rw [hc]; exact cn_lt (b := fun o => sIsH g P o k) e3.1 e3.2⟩]
            · rw [if_neg e3, if_neg (fun z => e3 ⟨z.1, z.2.1⟩)]
        · rw [if_neg a4]
          have e : va_up (va_up G1 4 (upd (G1 4) k (nI 0))) 3 (upd (va_up G1 4 (upd (G1 4) k (nI 0)) 3) k (nI 1)) a j = G1 a j := by
            simp only [va_up]
            rw [if_neg a3, if_neg a4]
          rw [e]
          by_cases a7 : a = 7
          · subst a7
            rw [if_pos rfl, f7]
          · rw [if_neg a7, fo a a7]
            unfold dQ
            rw [if_neg a4, dO_o a2]
  have e7 : dQ g F P k c c 7 = g 7 := by
    funext j
    unfold dQ
    rw [if_neg (by decide), dO_o (by decide)]
  refine ⟨fun h0 => key _ (fun a h => by simp [gCro, va_up, h]) (fun j => ?_), fun h0 => key _ (fun a _ => rfl) (fun j => ?_)⟩
  · show dQ g F P k c c 7 0 + dQ g F P k c c 4 k = _
    rw [if_pos h0, dQ_k, e7]
  · rw [if_neg h0, e7]
theorem SS.c2 {D : va_G} {ci : ClassId} {cj : ClassId × ClassId} {A : Nat → Nat} {H : Heap} (h : SS D ci cj A F P g H) (ho : ∀ a, a ≠ 2 → g' a = g a) (h2 : ∀ f w p, f < F → w < 4 → p < P → own g' f w p = own g f w p) (hF : F ≤ 6) : SS D ci cj A F P g' H :=
  h.cg (fun f _ => by rw [ho 0 (by decide)]) (fun f _ => by rw [ho 1 (by decide)]) h2 (fun p _ => by unfold rI; rw [ho 4 (by decide), ho 5 (by decide), ho 6 (by decide), ho 3 (by decide)]) (by rw [ho 7 (by decide)]) hF
end DMATH
