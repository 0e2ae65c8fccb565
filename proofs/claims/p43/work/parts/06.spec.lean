/-! PART 06: what the methods answer, as functions of the state g (0 tolls, 1 carried, 2 shares, 3 dead, 4 coins, 5 earned, 6 parents, 7 the crown's coins), of F ferries and P people. -/
section SPEC
def bI (b : Bool) : Int32 := if b then nI 1 else nI 0
def sl (f w p : Nat) : Nat := (f * 4 + w) * 12 + p
theorem sl_lt {f w p : Nat} (hf : f < 6) (hw : w < 4) (hp : p < 12) : sl f w p < 288 := by unfold sl; omega
def own (g : Nat → Nat → Int32) (f w p : Nat) : Int32 := g 2 (sl f w p)
/-- sums and differences, from the first on -/
def sm (f : Nat → Int32) : Nat → Int32 | 0 => nI 0 | n + 1 => sm f n + f n
def sd (x : Int32) (f : Nat → Int32) : Nat → Int32 | 0 => x | n + 1 => sd x f n - f n
def cn (b : Nat → Bool) : Nat → Nat | 0 => 0 | n + 1 => if b n then cn b n + 1 else cn b n
/-- the first of n from i on, or -1; whether there is one -/
def ff (b : Nat → Bool) : Nat → Nat → Int32 | 0, _ => -1 | n + 1, i => if b i then nI i else ff b n (i + 1)
def an (b : Nat → Bool) : Nat → Nat → Bool | 0, _ => false | n + 1, i => if b i then true else an b n (i + 1)
theorem cn_le (b : Nat → Bool) (n : Nat) : cn b n ≤ n := by
  induction n with
  | zero => exact Nat.le_refl _
  | succ n ih => unfold cn; split <;> omega
def lv (g : Nat → Nat → Int32) (p : Nat) : Bool := decide (g 3 p = 0)
def sCro (g : Nat → Nat → Int32) (P f w : Nat) : Int32 := sd (nI 64) (fun p => own g f w p) P
def sFer (g : Nat → Nat → Int32) (f p : Nat) : Int32 := sm (fun w => own g f w p) 4
def sAll (g : Nat → Nat → Int32) (F p : Nat) : Int32 := sm (fun f => sFer g f p) F
def sMas (g : Nat → Nat → Int32) (P f : Nat) : Int32 := ff (fun p => decide (nI 128 < sFer g f p)) P 0
def sWor (g : Nat → Nat → Int32) (f w : Nat) : Int32 := g 0 f * trf w + nI 1
def sPri (g : Nat → Nat → Int32) (f w s : Nat) : Int32 := own g f w s * sWor g f w
def sOth (g : Nat → Nat → Int32) (P s f w : Nat) (x : Int32) : Bool := an (fun p => decide (p ≠ s) && (decide (0 < own g f w p) && decide (x ≤ g 4 p))) P 0
def sMay (g : Nat → Nat → Int32) (P b s f w : Nat) : Bool := lv g b && (decide (b ≠ s) && (decide (¬ g 4 b < sPri g f w s) && (decide (own g f w s ≠ 0) && (decide (0 < own g f w b) || !(sOth g P s f w (sPri g f w s))))))
def sFar (g : Nat → Nat → Int32) (f w p : Nat) (n : Int32) : Int32 := g 0 f * n * own g f w p / nI 64
def sHlc (g : Nat → Nat → Int32) (P p : Nat) : Bool := an (fun k => lv g k && decide (g 6 k = nI p)) P 0
def sIsH (g : Nat → Nat → Int32) (P o p : Nat) : Bool := lv g o && (decide (o ≠ p) && (if sHlc g P p then decide (g 6 o = nI p) else (decide (g 6 p ≠ -1) && decide (g 6 o = g 6 p))))
def sCHB (g : Nat → Nat → Int32) (P n p : Nat) : Nat := cn (fun o => sIsH g P o p) n
def sCHe (g : Nat → Nat → Int32) (P p : Nat) : Nat := sCHB g P P p
def sFH (g : Nat → Nat → Int32) (P p : Nat) (x : Int32) : Int32 := ff (fun o => sIsH g P o p && decide (nI (cn (fun o => sIsH g P o p) o) = x)) P 0
def sPar (e : Int32) (c k : Nat) : Int32 := if c ≤ 1 then e else if k = 0 then e - e / nI 2 else if nI (k - 1) < e / nI 2 - e / nI 2 / nI (c - 1) * nI (c - 1) then e / nI 2 / nI (c - 1) + nI 1 else e / nI 2 / nI (c - 1)
def sChi (g : Nat → Nat → Int32) (P p : Nat) : Nat := cn (fun k => decide (g 6 k = nI p)) P
def sLiv (g : Nat → Nat → Int32) (P : Nat) : Nat := cn (fun k => lv g k) P
end SPEC
