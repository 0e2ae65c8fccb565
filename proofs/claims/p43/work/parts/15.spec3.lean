/-! PART 15: dying, as FerryRights goes about it. -/
section SPEC3
/-- an heir o gets the part at the place pl of c heirs, of each watch of the ferry f; of all ferries; and of the coins -/
def gHw (g : Nat → Nat → Int32) (f k o c pl : Nat) : Nat → Nat → Nat → Int32 | 0 => g | w + 1 => gAdd (gHw g f k o c pl w) f w o (sPar (own (gHw g f k o c pl w) f w k) c pl)
def gHf (g : Nat → Nat → Int32) (k o c pl : Nat) : Nat → Nat → Nat → Int32 | 0 => g | f + 1 => gHw (gHf g k o c pl f) f k o c pl 4
def gHnd (g : Nat → Nat → Int32) (F k o c pl : Nat) : Nat → Nat → Int32 := gGet (gHf g k o c pl F) o (sPar (gHf g k o c pl F 4 k) c pl)
/-- all heirs, in the order of their numbers -/
def gHr (g : Nat → Nat → Int32) (F P k c : Nat) : Nat → Nat → Nat → Int32 | 0 => g | i + 1 => if sIsH g P i k then gHnd (gHr g F P k c i) F k i c (sCHB g P i k) else gHr g F P k c i
/-- the dead one has nothing -/
def gBw (g : Nat → Nat → Int32) (f k : Nat) : Nat → Nat → Nat → Int32 | 0 => g | w + 1 => va_up (gBw g f k w) 2 (upd (gBw g f k w 2) (sl f w k) (nI 0))
def gBf (g : Nat → Nat → Int32) (k : Nat) : Nat → Nat → Nat → Int32 | 0 => g | f + 1 => gBw (gBf g k f) f k 4
def gBur (g : Nat → Nat → Int32) (F k : Nat) : Nat → Nat → Int32 := va_up (va_up (gBf g k F) 4 (upd (gBf g k F 4) k (nI 0))) 3 (upd (gBf g k F 3) k (nI 1))
def gDi1 (g : Nat → Nat → Int32) (F P k : Nat) : Nat → Nat → Int32 := if sCHe g P k = 0 then gCro (gHr g F P k (sCHe g P k) P) (gHr g F P k (sCHe g P k) P 4 k) else gHr g F P k (sCHe g P k) P
def gDie (g : Nat → Nat → Int32) (F P k : Nat) : Nat → Nat → Int32 := gBur (gDi1 g F P k) F k
theorem alv_bury {P k : Nat} {d : Nat → Int32} : upd (alv P d) k (nI 0) = alv P (upd d k (nI 1)) := by
  funext z
  by_cases hz : z = k
  · subst hz
    have h1 : (nI 1 : Int32) ≠ 0 := by decide
    by_cases hp : z < P <;> simp [upd, alv, hp, h1] <;> rfl
  · simp [upd, alv, hz]
theorem bury_w {ci cz : ClassId} {q : Nat → Nat} {F P k : Nat} {g : Nat → Nat → Int32} : w0r ci cz q F P (upd (alv P (va_up (gBf g k F) 4 (upd (gBf g k F 4) k (nI 0)) 3)) k (nI 0)) (va_up (gBf g k F) 4 (upd (gBf g k F 4) k (nI 0))) = w0 ci cz q F P (gBur g F k) := by
  rw [alv_bury]
  rfl
/-- giving changes neither who is dead nor whose child one is -/
theorem hw_36 (g : Nat → Nat → Int32) (f k o c pl : Nat) : ∀ w, gHw g f k o c pl w 3 = g 3 ∧ gHw g f k o c pl w 6 = g 6 ∧ gHw g f k o c pl w 4 = g 4
  | 0 => ⟨rfl, rfl, rfl⟩
  | w + 1 => ⟨(hw_36 g f k o c pl w).1, (hw_36 g f k o c pl w).2.1, (hw_36 g f k o c pl w).2.2⟩
theorem hf_36 (g : Nat → Nat → Int32) (k o c pl : Nat) : ∀ f, gHf g k o c pl f 3 = g 3 ∧ gHf g k o c pl f 6 = g 6 ∧ gHf g k o c pl f 4 = g 4
  | 0 => ⟨rfl, rfl, rfl⟩
  | f + 1 => by
    have h := hw_36 (gHf g k o c pl f) f k o c pl 4
    have h1 := hf_36 g k o c pl f
    exact ⟨h.1.trans h1.1, h.2.1.trans h1.2.1, h.2.2.trans h1.2.2⟩
theorem hnd_36 (g : Nat → Nat → Int32) (F k o c pl : Nat) : gHnd g F k o c pl 3 = g 3 ∧ gHnd g F k o c pl 6 = g 6 := ⟨(hf_36 g k o c pl F).1, (hf_36 g k o c pl F).2.1⟩
theorem hr_36 (g : Nat → Nat → Int32) (F P k c : Nat) : ∀ i, gHr g F P k c i 3 = g 3 ∧ gHr g F P k c i 6 = g 6
  | 0 => ⟨rfl, rfl⟩
  | i + 1 => by
    have h1 := hr_36 g F P k c i
    unfold gHr
    split
    · have h := hnd_36 (gHr g F P k c i) F k i c (sCHB g P i k)
      exact ⟨h.1.trans h1.1, h.2.trans h1.2⟩
    · exact h1
theorem lv_eq {g g' : Nat → Nat → Int32} (h : g' 3 = g 3) : lv g' = lv g := by unfold lv; rw [h]
theorem sHlc_eq {g g' : Nat → Nat → Int32} (h3 : g' 3 = g 3) (h6 : g' 6 = g 6) : sHlc g' = sHlc g := by
  unfold sHlc
  rw [lv_eq h3, h6]
theorem sIsH_eq {g g' : Nat → Nat → Int32} (h3 : g' 3 = g 3) (h6 : g' 6 = g 6) : sIsH g' = sIsH g := by
  unfold sIsH
  rw [lv_eq h3, h6, sHlc_eq h3 h6]
end SPEC3
