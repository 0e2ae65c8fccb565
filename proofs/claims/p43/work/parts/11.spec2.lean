/-! PART 11: what the calls of the face answer (k_: 0 or the number of what is thrown, r_: the answer) and leave behind (g_). -/
section SPEC2
def ix (a : Int32) : Nat := a.toNatClampNeg
theorem ix_nI {j : Nat} (h : j < 2 ^ 31) : ix (nI j) = j := nI_clamp h
abbrev inB (lo hi : Nat) (a : Int32) : Prop := nI lo ≤ a ∧ a ≤ nI hi
/-- folds of numbers -/
def fo (st : Int64 → Nat → Int64) (d : Int64) : Nat → Int64 | 0 => d | n + 1 => st (fo st d n) n
def mx (d x : Int64) : Int64 := d * 31 + x
def sDW (g : Nat → Nat → Int32) (P f : Nat) (d : Int64) (w : Nat) : Int64 := fo (fun d z => mx d (own g f w z).toInt64) d P
def sDF (g : Nat → Nat → Int32) (P : Nat) (d : Int64) (f : Nat) : Int64 := fo (fun d w => sDW g P f d w) (mx (mx d (g 0 f).toInt64) (g 1 f).toInt64) 4
def sDP (g : Nat → Nat → Int32) (F P : Nat) (d : Int64) (k : Nat) : Int64 := mx (mx (mx (mx (mx (mx d (if lv g k then 1 else 0)) (g 4 k).toInt64) (g 5 k).toInt64) (sAll g F k).toInt64) (nI (sChi g P k)).toInt64) (nI (sCHe g P k)).toInt64
def sDig0 (g : Nat → Nat → Int32) (F P : Nat) : Int64 := mx (mx (mx (mx 1861 (nI F).toInt64) (nI P).toInt64) (nI (sLiv g P)).toInt64) (g 7 0).toInt64
def sDig (g : Nat → Nat → Int32) (F P : Nat) : Int64 := fo (fun d k => sDP g F P d k) (fo (fun d f => sDF g P d f) (sDig0 g F P) F) P
/-- the one with the most, of several the first -/
def ho (f : Nat → Int32) : Nat → Int32 × Int32 | 0 => (-1, nI 0) | n + 1 => if (ho f n).2 < f n then (nI n, f n) else ho f n
def ri (b : Nat → Bool) (f : Nat → Int32) : Nat → Int32 × Int32 | 0 => (-1, -1) | n + 1 => if b n && decide ((ri b f n).2 < f n) then (nI n, f n) else ri b f n
def csm (b : Nat → Bool) (f : Nat → Int32) : Nat → Int32 | 0 => nI 0 | n + 1 => if b n then csm b f n + f n else csm b f n
def sHol (g : Nat → Nat → Int32) (P f w : Nat) : Int32 := (ho (fun z => own g f w z) P).1
def sRic (g : Nat → Nat → Int32) (P : Nat) : Int32 := (ri (fun z => lv g z) (fun z => g 4 z) P).1
def sOwn (g : Nat → Nat → Int32) (P f w : Nat) : Nat := cn (fun z => decide (0 < own g f w z)) P
def sInh (g : Nat → Nat → Int32) (P p h f w : Nat) : Int32 := if sIsH g P h p then sPar (own g f w p) (sCHe g P p) (sCHB g P h p) else nI 0
/-- changes -/
def mn (x : Int32) : Int32 := if x < nI 9999 then x else nI 9999
def gGet (g : Nat → Nat → Int32) (k : Nat) (n : Int32) : Nat → Nat → Int32 := va_up g 4 (upd (g 4) k (mn (g 4 k + n)))
def gAdd (g : Nat → Nat → Int32) (f w k : Nat) (n : Int32) : Nat → Nat → Int32 := va_up g 2 (upd (g 2) (sl f w k) (g 2 (sl f w k) + n))
def gPay (g : Nat → Nat → Int32) (k : Nat) (n : Int32) : Nat → Nat → Int32 := va_up g 4 (upd (g 4) k (g 4 k - n))
def gTol (g : Nat → Nat → Int32) (f : Nat) (n : Int32) : Nat → Nat → Int32 := va_up g 0 (upd (g 0) f n)
def gPar (g : Nat → Nat → Int32) (k : Nat) (n : Int32) : Nat → Nat → Int32 := va_up g 6 (upd (g 6) k n)
def gEar (g : Nat → Nat → Int32) (k : Nat) (n : Int32) : Nat → Nat → Int32 := va_up g 5 (upd (g 5) k (g 5 k + n))
def gCro (g : Nat → Nat → Int32) (n : Int32) : Nat → Nat → Int32 := va_up g 7 (fun _ => g 7 0 + n)
def gCad (g : Nat → Nat → Int32) (f : Nat) (n : Int32) : Nat → Nat → Int32 := va_up g 1 (upd (g 1) f (g 1 f + n))
/-- carrying: what stands behind i people, and what is left -/
def gCar (g : Nat → Nat → Int32) (f w : Nat) (n : Int32) : Nat → Nat → Nat → Int32 | 0 => g | i + 1 => gGet (gEar (gCar g f w n i) i (sFar (gCar g f w n i) f w i n)) i (sFar (gCar g f w n i) f w i n)
def lCar (g : Nat → Nat → Int32) (f w : Nat) (n : Int32) : Nat → Int32 | 0 => g 0 f * n | i + 1 => lCar g f w n i - sFar (gCar g f w n i) f w i n
def gCry (g : Nat → Nat → Int32) (P f w : Nat) (n : Int32) : Nat → Nat → Int32 := gCad (gCro (gCar g f w n P) (lCar g f w n P)) f n
def gGiv (g : Nat → Nat → Int32) (a b f w : Nat) (n : Int32) : Nat → Nat → Int32 := gAdd (gAdd g f w a (-n)) f w b n
def gBuy (g : Nat → Nat → Int32) (b k f w : Nat) : Nat → Nat → Int32 := gAdd (gAdd (gGet (gPay g b (sPri g f w k)) k (sPri g f w k)) f w k (-(own g f w k))) f w b (own g f w k)
/-- the numbers of what is thrown -/
def k_addFerry (F : Nat) (a : Int32) : Nat := if 0 ≤ a ∧ a ≤ nI 20 then (if F < 6 then 0 else 2) else 1
def k_addPerson (P : Nat) : Nat := if P < 12 then 0 else 1
def k_addChild (P : Nat) (g : Nat → Nat → Int32) (a : Int32) : Nat := if inR a P then (if lv g (ix a) = true then (if P < 12 then 0 else 2) else 2) else 1
def k_pay (P : Nat) (g : Nat → Nat → Int32) (a b : Int32) : Nat := if inR a P then (if inB 1 9999 b then (if lv g (ix a) = true then 0 else 3) else 2) else 1
def k_grant (F P : Nat) (g : Nat → Nat → Int32) (f w a b : Int32) : Nat := if inR f F ∧ inR w 4 ∧ inR a P then (if inB 1 64 b then (if lv g (ix a) = true ∧ b ≤ sCro g P (ix f) (ix w) then 0 else 3) else 2) else 1
def k_give (F P : Nat) (g : Nat → Nat → Int32) (a b f w n : Int32) : Nat := if inR a P ∧ inR b P ∧ inR f F ∧ inR w 4 then (if inB 1 64 n ∧ a ≠ b then (if lv g (ix b) = true ∧ n ≤ own g (ix f) (ix w) (ix a) then 0 else 3) else 2) else 1
def k_buy (F P : Nat) (g : Nat → Nat → Int32) (a b f w : Int32) : Nat := if inR a P ∧ inR b P ∧ inR f F ∧ inR w 4 then (if sMay g P (ix a) (ix b) (ix f) (ix w) = true then 0 else 2) else 1
def k_setToll (F P : Nat) (g : Nat → Nat → Int32) (f a n : Int32) : Nat := if inR f F ∧ inR a P then (if 0 ≤ n ∧ n ≤ nI 20 then (if sMas g P (ix f) = a then 0 else 3) else 2) else 1
def k_carry (F : Nat) (f h n : Int32) : Nat := if inR f F ∧ inR h 24 then (if inB 1 200 n then 0 else 2) else 1
def k_die (P : Nat) (g : Nat → Nat → Int32) (a : Int32) : Nat := if inR a P then (if lv g (ix a) = true then 0 else 2) else 1
def k_1 (N : Nat) (a : Int32) : Nat := if inR a N then 0 else 1
def k_fw (F : Nat) (f w : Int32) : Nat := if inR f F ∧ inR w 4 then 0 else 1
def k_fwp (F P : Nat) (f w a : Int32) : Nat := if inR f F ∧ inR w 4 ∧ inR a P then 0 else 1
def k_pfw (F P : Nat) (a f w : Int32) : Nat := if inR a P ∧ inR f F ∧ inR w 4 then 0 else 1
def k_ppfw (F P : Nat) (a b f w : Int32) : Nat := if inR a P ∧ inR b P ∧ inR f F ∧ inR w 4 then 0 else 1
def k_holder (F P : Nat) (g : Nat → Nat → Int32) (f w : Int32) : Nat := if inR f F ∧ inR w 4 then (if sHol g P (ix f) (ix w) = -1 then 2 else 0) else 1
def k_master (F P : Nat) (g : Nat → Nat → Int32) (f : Int32) : Nat := if inR f F then (if sMas g P (ix f) = -1 then 2 else 0) else 1
def k_parent (P : Nat) (g : Nat → Nat → Int32) (a : Int32) : Nat := if inR a P then (if g 6 (ix a) = -1 then 2 else 0) else 1
def k_heir (P : Nat) (g : Nat → Nat → Int32) (a x : Int32) : Nat := if inR a P then (if sFH g P (ix a) x = -1 then 1 else 0) else 1
def k_fare (F P : Nat) (a f h n : Int32) : Nat := if inR a P ∧ inR f F ∧ inR h 24 then (if inB 1 200 n then 0 else 2) else 1
def k_richest (P : Nat) (g : Nat → Nat → Int32) : Nat := if sRic g P = -1 then 1 else 0
end SPEC2
section SETTLE
theorem alv_settle {P : Nat} {d : Nat → Int32} (h : d P = 0) : upd (alv P d) P (nI 1) = alv (P + 1) d := by
  funext z
  unfold upd alv
  by_cases hz : z = P
  · subst hz
    rw [if_pos rfl, if_pos (show z < z + 1 by omega), if_pos h]
    rfl
  · rw [if_neg hz]
    by_cases hp : z < P
    · rw [if_pos hp, if_pos (show z < P + 1 by omega)]
    · rw [if_neg hp, if_neg (show ¬ z < P + 1 by omega)]
theorem settle_w {ci cz : ClassId} {q : Nat → Nat} {F P : Nat} {g : Nat → Nat → Int32} {x : Int32} (h : g 3 P = 0) : w0r ci cz q F (P + 1) (upd (alv P (g 3)) P (nI 1)) (va_up g 6 (upd (g 6) P x)) = w0 ci cz q F (P + 1) (gPar g P x) := by
  rw [alv_settle h]
  rfl
end SETTLE
