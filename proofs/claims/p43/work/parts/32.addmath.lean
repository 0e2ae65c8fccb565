/-! PART 32: one more ferry, one more person: the picture. -/
section AMATH
variable {D : va_G} {ci cz : ClassId} {cj : ClassId × ClassId} {q : Nat → Nat} {sz hz : Nat} {A : Nat → Nat} {F P : Nat} {g g' : Nat → Nat → Int32} {T T' : Nat → Nat → Int32} {H H1 : Heap} {Ad : Nat → Prop}
/-- all cells but the object -/
def SPx (D : va_G) (ci : ClassId) (cj : ClassId × ClassId) (A : Nat → Nat) (F P : Nat) (g : Nat → Nat → Int32) (T : Nat → Nat → Int32) (H : Heap) : Prop := ∀ k, sV F P k → k ≠ 0 → va_at D vwCl (A k, sE ci cj A F P g T k) H
theorem SPx.of (h : SP D ci cj A F P g T H) : SPx D ci cj A F P g T H := fun k hV _ => h k hV
theorem SPx.to (h : SPx D ci cj A F P g T H) : isI D ci H (A 1) F (g 0) := h 1 sV1 (by decide)
theorem SPx.ca (h : SPx D ci cj A F P g T H) : isI D ci H (A 2) F (g 1) := h 2 sV2 (by decide)
theorem SPx.sh (h : SPx D ci cj A F P g T H) : isR D cj.2 H (A 3) F (fun f => some (A (5 + f))) := h 3 sV3 (by decide)
theorem SPx.pe (h : SPx D ci cj A F P g T H) : isR D cj.1 H (A 4) P (fun p => some (A (35 + p))) := h 4 sV4 (by decide)
theorem SPx.fr (h : SPx D ci cj A F P g T H) {f : Nat} (hf : f < F) (hF : F ≤ 6) : isR D cj.1 H (A (5 + f)) 4 (fun w => some (A (11 + (f * 4 + w)))) := by
  have h1 := h (5 + f) (sVf hf) (by omega)
  rw [sE_f (by omega)] at h1
  exact h1
theorem SPx.pp (h : SPx D ci cj A F P g T H) {k : Nat} (hk : k < P) : isI D ci H (A (35 + k)) 4 (rI g k) := by
  have h1 := h (35 + k) (sVp hk) (by omega)
  rw [sE_p] at h1
  exact h1
theorem SPx.mv (h : SPx D ci cj A F P g T H) (hk : KP Ad H H1) (hn : ∀ k, sV F P k → k ≠ 0 → ¬ Ad (A k)) : SPx D ci cj A F P g T H1 := fun k hV h0 => hk.at (h k hV h0) (hn k hV h0)
theorem SPx.new (h : SPx D ci cj A F P g T H) (hk : KP (fun a => H.size ≤ a) H H1) : SPx D ci cj A F P g T H1 := fun k hV h0 => hk.new_at (h k hV h0)
/-- a person more -/
def AP (A : Nat → Nat) (P a1 a3 : Nat) : Nat → Nat := fun k => if k = 4 then a1 else if k = 35 + P then a3 else A k
theorem AP_4 {a1 a3 : Nat} : AP A P a1 a3 4 = a1 := rfl
theorem AP_P {a1 a3 : Nat} : AP A P a1 a3 (35 + P) = a3 := by unfold AP; rw [if_neg (by omega), if_pos rfl]
theorem AP_o {a1 a3 k : Nat} (h1 : k ≠ 4) (h2 : k ≠ 35 + P) : AP A P a1 a3 k = A k := by unfold AP; rw [if_neg h1, if_neg h2]
theorem addP_AD {a1 a3 : Nat} (h : AD q sz A F P) (hF : F ≤ 6) (hlt : ∀ k, sV F P k → A k < hz) (hs : sz ≤ hz) (hq : ∀ k, k < 8 → q k < hz) (h1 : hz ≤ a1) (h3 : hz ≤ a3) (h13 : a1 < a3) : AD q sz (AP A P a1 a3) F (P + 1) := by
  have hc : ∀ k, sV F (P + 1) k → (k = 4 ∧ AP A P a1 a3 k = a1) ∨ (k = 35 + P ∧ AP A P a1 a3 k = a3) ∨ (k ≠ 4 ∧ k ≠ 35 + P ∧ sV F P k ∧ AP A P a1 a3 k = A k) := by
    intro k hk
    by_cases e1 : k = 4
    · subst e1; exact Or.inl ⟨rfl, rfl⟩
    · by_cases e2 : k = 35 + P
      · subst e2; exact Or.inr (Or.inl ⟨rfl, AP_P⟩)
      · refine Or.inr (Or.inr ⟨e1, e2, ?_, AP_o e1 e2⟩)
        unfold sV at hk ⊢
        omega
  refine ⟨fun i j hi hj e => ?_, fun i hi => ?_⟩
  · rcases hc i hi with ⟨x1, x2⟩ | ⟨x1, x2⟩ | ⟨x1, x2, x3, x4⟩ <;> rcases hc j hj with ⟨y1, y2⟩ | ⟨y1, y2⟩ | ⟨y1, y2, y3, y4⟩
    · omega
    · omega
    · have := hlt j y3; omega
    · omega
    · omega
    · have := hlt j y3; omega
    · have := hlt i x3; omega
    · have := hlt i x3; omega
    · exact h.1 i j x3 y3 (by rw [← x4, ← y4]; exact e)
  · rcases hc i hi with ⟨x1, x2⟩ | ⟨x1, x2⟩ | ⟨x1, x2, x3, x4⟩
    · rw [x2]; exact ⟨by omega, fun k hk => by have := hq k hk; omega⟩
    · rw [x2]; exact ⟨by omega, fun k hk => by have := hq k hk; omega⟩
    · rw [x4]; exact h.2 i x3
theorem addP_SP {a1 a3 : Nat} (hF : F ≤ 6) (h : SPx D ci cj A F P g T H) (ho : va_at D vwCl (A 0, .inr (1, [.ref (A 1), .ref (A 2), .ref (A 3), .ref a1, .int (g 7 0)])) H) (hr : isR D cj.1 H a1 (P + 1) (fun j => if j < P then some (A (35 + j)) else some a3)) (h3 : isI D ci H a3 4 (rI g' P)) (e0 : g' 0 = g 0) (e1 : g' 1 = g 1) (e7 : g' 7 = g 7) (ep : ∀ p, p < P → rI g' p = rI g p) : SP D ci cj (AP A P a1 a3) F (P + 1) g' T H := by
  intro k hV
  rcases hV with hV | hV | hV | hV
  · rcases (show k = 0 ∨ k = 1 ∨ k = 2 ∨ k = 3 ∨ k = 4 by omega) with rfl | rfl | rfl | rfl | rfl
    · show va_at D vwCl (AP A P a1 a3 0, .inr (1, [.ref (AP A P a1 a3 1), .ref (AP A P a1 a3 2), .ref (AP A P a1 a3 3), .ref (AP A P a1 a3 4), .int (g' 7 0)])) H
      rw [AP_o (by omega) (by omega), AP_o (by omega) (by omega), AP_o (by omega) (by omega), AP_o (by omega) (by omega), AP_4, e7]
      exact ho
    · show isI D ci H (AP A P a1 a3 1) F (g' 0)
      rw [AP_o (by omega) (by omega), e0]
      exact h.to
    · show isI D ci H (AP A P a1 a3 2) F (g' 1)
      rw [AP_o (by omega) (by omega), e1]
      exact h.ca
    · show isR D cj.2 H (AP A P a1 a3 3) F (fun f => some (AP A P a1 a3 (5 + f)))
      rw [AP_o (by omega) (by omega)]
      exact h.sh.cg (fun j hj => by rw [AP_o (by omega) (by omega)])
    · show isR D cj.1 H (AP A P a1 a3 4) (P + 1) (fun p => some (AP A P a1 a3 (35 + p)))
      rw [AP_4]
      refine hr.cg (fun j hj => ?_)
      by_cases e : j < P
      · rw [if_pos e, AP_o (by omega) (by omega)]
      · obtain rfl : j = P := by omega
        rw [if_neg e, AP_P]
  · obtain ⟨f, rfl⟩ : ∃ f, k = 5 + f := ⟨k - 5, by omega⟩
    rw [sE_f (by omega), AP_o (by omega) (by omega)]
    exact (h.fr (f := f) (by omega) hF).cg (fun w hw => by rw [AP_o (by omega) (by omega)])
  · obtain ⟨f, w, hw, rfl⟩ : ∃ f w, w < 4 ∧ k = 11 + (f * 4 + w) := ⟨(k - 11) / 4, (k - 11) % 4, by omega, by omega⟩
    have h1 := h (11 + (f * 4 + w)) (sVr (by omega) hw) (by omega)
    rw [sE_r (by omega) hw] at h1 ⊢
    rw [AP_o (by omega) (by omega)]
    exact h1
  · obtain ⟨p, rfl⟩ : ∃ p, k = 35 + p := ⟨k - 35, by omega⟩
    rw [sE_p]
    by_cases e : p < P
    · rw [AP_o (by omega) (by omega), ep p e]
      exact h.pp e
    · obtain rfl : p = P := by omega
      rw [AP_P]
      exact h3
theorem cT_0 {r : Nat → Int32} {P : Nat} (hP : P < 12) (h : ∀ k, k < 64 → r k = -1 ∨ ∃ p, p < P ∧ r k = nI p) : cT r (nI P) = 0 := by
  rcases Nat.eq_zero_or_pos (cT r (nI P)) with e | e
  · exact e
  · obtain ⟨k, hk, hb, -⟩ := cn_surj e
    have hb := of_decide_eq_true hb
    rcases h k hk with h1 | ⟨p, hp, h1⟩
    · exact absurd (h1.symm.trans hb) (neg1_nI (by omega))
    · have := (nI_eq (by omega) (by omega)).mp (h1.symm.trans hb)
      omega
theorem addP_RT (hR9 : RT F P g T) (hP : P < 12) (h0 : ∀ f w, f < F → w < 4 → own g f w P = 0) (e2 : g' 2 = g 2) : RT F (P + 1) g' T := by
  intro f w hf hw
  obtain ⟨h1, h2⟩ := hR9 f w hf hw
  refine ⟨fun k hk => ?_, fun p hp => ?_⟩
  · rcases h1 k hk with h | ⟨p, hp, h⟩
    · exact Or.inl h
    · exact Or.inr ⟨p, by omega, h⟩
  · have e : own g' f w p = own g f w p := by unfold own; rw [e2]
    rw [e]
    by_cases hpp : p < P
    · exact h2 p hpp
    · obtain rfl : p = P := by omega
      rw [h0 f w hf hw, cT_0 hP h1]
      rfl
/-- a ferry more -/
def AF (A : Nat → Nat) (F a1 a2 a3 a4 : Nat) : Nat → Nat := fun k => if k = 1 then a1 else if k = 2 then a2 else if k = 3 then a3 else if k = 5 + F then a4 else if 11 + F * 4 ≤ k ∧ k < 11 + F * 4 + 4 then a4 + 1 + (k - (11 + F * 4)) else A k
variable {a1 a2 a3 a4 : Nat}
theorem AF_f (hF : F ≤ 5) : AF A F a1 a2 a3 a4 (5 + F) = a4 := by unfold AF; rw [if_neg (by omega), if_neg (by omega), if_neg (by omega), if_pos rfl]
theorem AF_r {w : Nat} (hF : F ≤ 5) (hw : w < 4) : AF A F a1 a2 a3 a4 (11 + (F * 4 + w)) = a4 + 1 + w := by
  unfold AF
  rw [if_neg (by omega), if_neg (by omega), if_neg (by omega), if_neg (by omega), if_pos (by omega)]
  omega
theorem AF_o {k : Nat} (h1 : k ≠ 1) (h2 : k ≠ 2) (h3 : k ≠ 3) (h4 : k ≠ 5 + F) (h5 : ¬ (11 + F * 4 ≤ k ∧ k < 11 + F * 4 + 4)) : AF A F a1 a2 a3 a4 k = A k := by unfold AF; rw [if_neg h1, if_neg h2, if_neg h3, if_neg h4, if_neg h5]
theorem addF_AD (h : AD q sz A F P) (hF : F ≤ 5) (hlt : ∀ k, sV F P k → A k < hz) (hs : sz ≤ hz) (hq : ∀ k, k < 8 → q k < hz) (h1 : hz ≤ a1) (h12 : a1 < a2) (h23 : a2 < a3) (h34 : a3 < a4) : AD q sz (AF A F a1 a2 a3 a4) (F + 1) P := by
  have hc : ∀ k, sV (F + 1) P k → (k = 1 ∧ AF A F a1 a2 a3 a4 k = a1) ∨ (k = 2 ∧ AF A F a1 a2 a3 a4 k = a2) ∨ (k = 3 ∧ AF A F a1 a2 a3 a4 k = a3) ∨ (k = 5 + F ∧ AF A F a1 a2 a3 a4 k = a4) ∨ (∃ w, w < 4 ∧ k = 11 + (F * 4 + w) ∧ AF A F a1 a2 a3 a4 k = a4 + 1 + w) ∨ (sV F P k ∧ AF A F a1 a2 a3 a4 k = A k) := by
    intro k hk
    by_cases e1 : k = 1
    · subst e1; exact Or.inl ⟨rfl, rfl⟩
    · by_cases e2 : k = 2
      · subst e2; exact Or.inr (Or.inl ⟨rfl, rfl⟩)
      · by_cases e3 : k = 3
        · subst e3; exact Or.inr (Or.inr (Or.inl ⟨rfl, rfl⟩))
        · by_cases e4 : k = 5 + F
          · subst e4; exact Or.inr (Or.inr (Or.inr (Or.inl ⟨rfl, AF_f hF⟩)))
          · by_cases e5 : 11 + F * 4 ≤ k ∧ k < 11 + F * 4 + 4
            · obtain ⟨w, hw, rfl⟩ : ∃ w, w < 4 ∧ k = 11 + (F * 4 + w) := ⟨k - (11 + F * 4), by omega, by omega⟩
              exact Or.inr (Or.inr (Or.inr (Or.inr (Or.inl ⟨w, hw, rfl, AF_r hF hw⟩))))
            · refine Or.inr (Or.inr (Or.inr (Or.inr (Or.inr ⟨?_, AF_o e1 e2 e3 e4 e5⟩))))
              unfold sV at hk ⊢
              omega
  refine ⟨fun i j hi hj e => ?_, fun i hi => ?_⟩
  · rcases hc i hi with ⟨x1, x2⟩ | ⟨x1, x2⟩ | ⟨x1, x2⟩ | ⟨x1, x2⟩ | ⟨w, x0, x1, x2⟩ | ⟨x1, x2⟩ <;> rcases hc j hj with ⟨y1, y2⟩ | ⟨y1, y2⟩ | ⟨y1, y2⟩ | ⟨y1, y2⟩ | ⟨w', y0, y1, y2⟩ | ⟨y1, y2⟩ <;> first
      | omega
      | (have := hlt j y1; omega)
      | (have := hlt i x1; omega)
      | exact h.1 i j x1 y1 (by rw [← x2, ← y2]; exact e)
  · rcases hc i hi with ⟨x1, x2⟩ | ⟨x1, x2⟩ | ⟨x1, x2⟩ | ⟨x1, x2⟩ | ⟨w, x0, x1, x2⟩ | ⟨x1, x2⟩
    · rw [x2]; exact ⟨by omega, fun k hk => by have := hq k hk; omega⟩
    · rw [x2]; exact ⟨by omega, fun k hk => by have := hq k hk; omega⟩
    · rw [x2]; exact ⟨by omega, fun k hk => by have := hq k hk; omega⟩
    · rw [x2]; exact ⟨by omega, fun k hk => by have := hq k hk; omega⟩
    · rw [x2]; exact ⟨by omega, fun k hk => by have := hq k hk; omega⟩
    · rw [x2]; exact h.2 i x1
theorem addF_SP (hF : F ≤ 5) (hP : P ≤ 12) (h : SPx D ci cj A F P g T H) (ho : va_at D vwCl (A 0, .inr (1, [.ref a1, .ref a2, .ref a3, .ref (A 4), .int (g 7 0)])) H) (h1 : isI D ci H a1 (F + 1) (g' 0)) (h2 : isI D ci H a2 (F + 1) (g' 1)) (h3 : isR D cj.2 H a3 (F + 1) (fun j => if j < F then some (A (5 + j)) else some a4)) (h4 : isR D cj.1 H a4 4 (fun i => some (a4 + 1 + i))) (hw4 : ∀ w, w < 4 → isI D ci H (a4 + 1 + w) 64 (fun _ => -1)) (e7 : g' 7 = g 7) (ep : ∀ p, p < P → rI g' p = rI g p) : SP D ci cj (AF A F a1 a2 a3 a4) (F + 1) P g' (fun z => if F * 4 ≤ z then (fun _ => -1) else T z) H := by
  intro k hV
  rcases hV with hV | hV | hV | hV
  · rcases (show k = 0 ∨ k = 1 ∨ k = 2 ∨ k = 3 ∨ k = 4 by omega) with rfl | rfl | rfl | rfl | rfl
    · show va_at D vwCl (AF A F a1 a2 a3 a4 0, .inr (1, [.ref a1, .ref a2, .ref a3, .ref (AF A F a1 a2 a3 a4 4), .int (g' 7 0)])) H
      rw [AF_o (by omega) (by omega) (by omega) (by omega) (by omega), AF_o (by omega) (by omega) (by omega) (by omega) (by omega), e7]
      exact ho
    · exact h1
    · exact h2
    · show isR D cj.2 H a3 (F + 1) (fun f => some (AF A F a1 a2 a3 a4 (5 + f)))
      refine h3.cg (fun j hj => ?_)
      by_cases e : j < F
      · rw [if_pos e, AF_o (by omega) (by omega) (by omega) (by omega) (by omega)]
      · obtain rfl : j = F := by omega
        rw [if_neg e, AF_f hF]
    · show isR D cj.1 H (AF A F a1 a2 a3 a4 4) P (fun p => some (AF A F a1 a2 a3 a4 (35 + p)))
      rw [AF_o (by omega) (by omega) (by omega) (by omega) (by omega)]
      exact h.pe.cg (fun j hj => by rw [AF_o (by omega) (by omega) (by omega) (by omega) (by omega)])
  · obtain ⟨f, rfl⟩ : ∃ f, k = 5 + f := ⟨k - 5, by omega⟩
    rw [sE_f (by omega)]
    by_cases e : f < F
    · rw [AF_o (by omega) (by omega) (by omega) (by omega) (by omega)]
      exact (h.fr e (by omega)).cg (fun w hw => by rw [AF_o (by omega) (by omega) (by omega) (by omega) (by omega)])
    · obtain rfl : f = F := by omega
      rw [AF_f hF]
      exact h4.cg (fun w hw => by rw [AF_r hF hw])
  · obtain ⟨f, w, hw, rfl⟩ : ∃ f w, w < 4 ∧ k = 11 + (f * 4 + w) := ⟨(k - 11) / 4, (k - 11) % 4, by omega, by omega⟩
    rw [sE_r (by omega) hw]
    by_cases e : f < F
    · have h9 := h (11 + (f * 4 + w)) (sVr e hw) (by omega)
      rw [sE_r (by omega) hw] at h9
      rw [AF_o (by omega) (by omega) (by omega) (by omega) (by omega), if_neg (by omega)]
      exact h9
    · obtain rfl : f = F := by omega
      rw [AF_r hF hw, if_pos (by omega)]
      exact hw4 w hw
  · obtain ⟨p, rfl⟩ : ∃ p, k = 35 + p := ⟨k - 35, by omega⟩
    rw [sE_p, AF_o (by omega) (by omega) (by omega) (by omega) (by omega), ep p (by omega)]
    exact h.pp (by omega)
theorem addF_RT (hR9 : RT F P g T) (hP : P ≤ 12) (h0 : ∀ w p, w < 4 → p < P → own g F w p = 0) (e2 : g' 2 = g 2) : RT (F + 1) P g' (fun z => if F * 4 ≤ z then (fun _ => -1) else T z) := by
  intro f w hf hw
  have e : ∀ p, own g' f w p = own g f w p := fun p => by unfold own; rw [e2]
  by_cases hfF : f < F
  · have e9 : (fun z => if F * 4 ≤ z then (fun _ => (-1 : Int32)) else T z) (f * 4 + w) = T (f * 4 + w) := if_neg (by omega)
    rw [e9]
    exact ⟨(hR9 f w hfF hw).1, fun p hp => by rw [e]; exact (hR9 f w hfF hw).2 p hp⟩
  · obtain rfl : f = F := by omega
    have e9 : (fun z => if f * 4 ≤ z then (fun _ => (-1 : Int32)) else T z) (f * 4 + w) = fun _ => -1 := if_pos (by omega)
    rw [e9]
    refine ⟨fun k _ => Or.inl rfl, fun p hp => ?_⟩
    rw [e, h0 w p hw hp]
    have : cT (fun _ => (-1 : Int32)) (nI p) = 0 := cT_0 (P := p) (by omega) (fun k _ => Or.inl rfl)
    rw [this]
    rfl
end AMATH
