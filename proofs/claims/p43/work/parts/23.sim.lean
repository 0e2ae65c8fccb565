/-! PART 23: the Sim's picture: its cells, its addresses; each share's owner, and how many shares one has. -/
section SIMP
def cT (r : Nat → Int32) (x : Int32) : Nat := cn (fun k => decide (r k = x)) 64
/-- the places of a Sim's cells: 0 the object, 1 tolls, 2 carried, 3 shares, 4 people, 5.. a ferry's rows, 11.. the owners of a watch, 35.. a person's row -/
def sV (F P k : Nat) : Prop := k < 5 ∨ (5 ≤ k ∧ k < 5 + F) ∨ (11 ≤ k ∧ k < 11 + F * 4) ∨ (35 ≤ k ∧ k < 35 + P)
def rI (g : Nat → Nat → Int32) (p : Nat) : Nat → Int32 := fun j => if j = 0 then g 4 p else if j = 1 then g 5 p else if j = 2 then g 6 p else g 3 p
def sE (ci : ClassId) (cj : ClassId × ClassId) (A : Nat → Nat) (F P : Nat) (g : Nat → Nat → Int32) (T : Nat → Nat → Int32) (k : Nat) : va_E :=
  if k = 0 then .inr (1, [.ref (A 1), .ref (A 2), .ref (A 3), .ref (A 4), .int (g 7 0)])
  else if k = 1 then .inl (ci, F, .inl (g 0))
  else if k = 2 then .inl (ci, F, .inl (g 1))
  else if k = 3 then .inl (cj.2, F, .inr (.inr (.inr (.inr (fun f => some (A (5 + f)))))))
  else if k = 4 then .inl (cj.1, P, .inr (.inr (.inr (.inr (fun p => some (A (35 + p)))))))
  else if k < 11 then .inl (cj.1, 4, .inr (.inr (.inr (.inr (fun w => some (A (11 + ((k - 5) * 4 + w))))))))
  else if k < 35 then .inl (ci, 64, .inl (T (k - 11)))
  else .inl (ci, 4, .inl (rI g (k - 35)))
def SP (D : va_G) (ci : ClassId) (cj : ClassId × ClassId) (A : Nat → Nat) (F P : Nat) (g : Nat → Nat → Int32) (T : Nat → Nat → Int32) (H : Heap) : Prop := ∀ k, sV F P k → va_at D vwCl (A k, sE ci cj A F P g T k) H
/-- the addresses: apart, new, no cell of the FerryRights -/
def AD (q : Nat → Nat) (sz : Nat) (A : Nat → Nat) (F P : Nat) : Prop := (∀ i j, sV F P i → sV F P j → A i = A j → i = j) ∧ ∀ i, sV F P i → sz ≤ A i ∧ ∀ k, k < 8 → A i ≠ q k
def SA (A : Nat → Nat) (F P : Nat) : Nat → Prop := fun a => ∃ k, sV F P k ∧ a = A k
/-- the owners, one by one, are as many as the picture says -/
def RT (F P : Nat) (g : Nat → Nat → Int32) (T : Nat → Nat → Int32) : Prop := ∀ f w, f < F → w < 4 → (∀ k, k < 64 → T (f * 4 + w) k = -1 ∨ ∃ p, p < P ∧ T (f * 4 + w) k = nI p) ∧ ∀ p, p < P → own g f w p = nI (cT (T (f * 4 + w)) (nI p))
def SS (D : va_G) (ci : ClassId) (cj : ClassId × ClassId) (A : Nat → Nat) (F P : Nat) (g : Nat → Nat → Int32) (H : Heap) : Prop := ∃ T, RT F P g T ∧ SP D ci cj A F P g T H
variable {D : va_G} {ci cz : ClassId} {cj : ClassId × ClassId} {q : Nat → Nat} {sz : Nat} {A : Nat → Nat} {F P : Nat} {g g' : Nat → Nat → Int32} {T T' : Nat → Nat → Int32} {H H1 : Heap} {Ad : Nat → Prop}
theorem sV0 : sV F P 0 := Or.inl (by omega)
theorem sV1 : sV F P 1 := Or.inl (by omega)
theorem sV2 : sV F P 2 := Or.inl (by omega)
theorem sV3 : sV F P 3 := Or.inl (by omega)
theorem sV4 : sV F P 4 := Or.inl (by omega)
theorem sVf {f : Nat} (hf : f < F) : sV F P (5 + f) := Or.inr (Or.inl (by omega))
theorem sVr {f w : Nat} (hf : f < F) (hw : w < 4) : sV F P (11 + (f * 4 + w)) := Or.inr (Or.inr (Or.inl (by omega)))
theorem sVp {k : Nat} (hk : k < P) : sV F P (35 + k) := Or.inr (Or.inr (Or.inr (by omega)))
theorem sE_f {f : Nat} (hf : f < 6) : sE ci cj A F P g T (5 + f) = .inl (cj.1, 4, .inr (.inr (.inr (.inr (fun w => some (A (11 + (f * 4 + w)))))))) := by
  unfold sE
  rw [if_neg (by omega), if_neg (by omega), if_neg (by omega), if_neg (by omega), if_neg (by omega), if_pos (by omega), show 5 + f - 5 = f by omega]
theorem sE_r {f w : Nat} (hf : f < 6) (hw : w < 4) : sE ci cj A F P g T (11 + (f * 4 + w)) = .inl (ci, 64, .inl (T (f * 4 + w))) := by
  unfold sE
  rw [if_neg (by omega), if_neg (by omega), if_neg (by omega), if_neg (by omega), if_neg (by omega), if_neg (by omega), if_pos (by omega), show 11 + (f * 4 + w) - 11 = f * 4 + w by omega]
theorem sE_p {k : Nat} : sE ci cj A F P g T (35 + k) = .inl (ci, 4, .inl (rI g k)) := by
  unfold sE
  rw [if_neg (by omega), if_neg (by omega), if_neg (by omega), if_neg (by omega), if_neg (by omega), if_neg (by omega), if_neg (by omega), show 35 + k - 35 = k by omega]
theorem SP.o (h : SP D ci cj A F P g T H) : va_at D vwCl (A 0, .inr (1, [.ref (A 1), .ref (A 2), .ref (A 3), .ref (A 4), .int (g 7 0)])) H := h 0 sV0
theorem SP.to (h : SP D ci cj A F P g T H) : isI D ci H (A 1) F (g 0) := h 1 sV1
theorem SP.ca (h : SP D ci cj A F P g T H) : isI D ci H (A 2) F (g 1) := h 2 sV2
theorem SP.sh (h : SP D ci cj A F P g T H) : isR D cj.2 H (A 3) F (fun f => some (A (5 + f))) := h 3 sV3
theorem SP.pe (h : SP D ci cj A F P g T H) : isR D cj.1 H (A 4) P (fun p => some (A (35 + p))) := h 4 sV4
theorem SP.fr (h : SP D ci cj A F P g T H) {f : Nat} (hf : f < F) (hF : F ≤ 6) : isR D cj.1 H (A (5 + f)) 4 (fun w => some (A (11 + (f * 4 + w)))) := by
  have h1 := h (5 + f) (sVf hf)
  rw [sE_f (by omega)] at h1
  exact h1
theorem SP.rw (h : SP D ci cj A F P g T H) {f w : Nat} (hf : f < F) (hw : w < 4) (hF : F ≤ 6) : isI D ci H (A (11 + (f * 4 + w))) 64 (T (f * 4 + w)) := by
  have h1 := h (11 + (f * 4 + w)) (sVr hf hw)
  rw [sE_r (by omega) hw] at h1
  exact h1
theorem SP.pp (h : SP D ci cj A F P g T H) {k : Nat} (hk : k < P) : isI D ci H (A (35 + k)) 4 (rI g k) := by
  have h1 := h (35 + k) (sVp hk)
  rw [sE_p] at h1
  exact h1
theorem SP.mv (h : SP D ci cj A F P g T H) (hk : KP Ad H H1) (hn : ∀ k, sV F P k → ¬ Ad (A k)) : SP D ci cj A F P g T H1 := fun k hV => hk.at (h k hV) (hn k hV)
theorem SS.mv (h : SS D ci cj A F P g H) (hk : KP Ad H H1) (hn : ∀ k, sV F P k → ¬ Ad (A k)) : SS D ci cj A F P g H1 := by
  obtain ⟨T, h1, h2⟩ := h
  exact ⟨T, h1, h2.mv hk hn⟩
theorem SP.lt (h : SP D ci cj A F P g T H) {k : Nat} (hk : sV F P k) : A k < H.size := va_at.lt (h k hk)
theorem SS.lt (h : SS D ci cj A F P g H) {k : Nat} (hk : sV F P k) : A k < H.size := by
  obtain ⟨T, h1, h2⟩ := h
  exact h2.lt hk
theorem SP.new (h : SP D ci cj A F P g T H) (hk : KP (fun a => H.size ≤ a) H H1) : SP D ci cj A F P g T H1 := fun k hV => hk.new_at (h k hV)
theorem SS.new (h : SS D ci cj A F P g H) (hk : KP (fun a => H.size ≤ a) H H1) : SS D ci cj A F P g H1 := by
  obtain ⟨T, h1, h2⟩ := h
  exact ⟨T, h1, h2.new hk⟩
/-- what the picture's parts are good for: other parts may differ -/
theorem SP.cg (h : SP D ci cj A F P g T H) (h0 : ∀ f, f < F → g' 0 f = g 0 f) (h1 : ∀ f, f < F → g' 1 f = g 1 f) (h3 : ∀ p, p < P → rI g' p = rI g p) (h7 : g' 7 0 = g 7 0) (hT : ∀ k, k < F * 4 → T' k = T k) (hF : F ≤ 6) : SP D ci cj A F P g' T' H := by
  intro k hV
  have hk := h k hV
  rcases hV with hV | hV | hV | hV
  · rcases (show k = 0 ∨ k = 1 ∨ k = 2 ∨ k = 3 ∨ k = 4 by omega) with rfl | rfl | rfl | rfl | rfl
    · show va_at D vwCl (A 0, .inr (1, [.ref (A 1), .ref (A 2), .ref (A 3), .ref (A 4), .int (g' 7 0)])) H
      rw [h7]
      exact hk
    · exact isI.cg (f' := g' 0) hk (fun j hj => (h0 j hj).symm)
    · exact isI.cg (f' := g' 1) hk (fun j hj => (h1 j hj).symm)
    · exact hk
    · exact hk
  · obtain ⟨f, rfl⟩ : ∃ f, k = 5 + f := ⟨k - 5, by omega⟩
    rw [sE_f (by omega)] at hk ⊢
    exact hk
  · obtain ⟨f, w, hw, rfl⟩ : ∃ f w, w < 4 ∧ k = 11 + (f * 4 + w) := ⟨(k - 11) / 4, (k - 11) % 4, by omega, by omega⟩
    rw [sE_r (by omega) hw] at hk ⊢
    rw [hT _ (by omega)]
    exact hk
  · obtain ⟨p, rfl⟩ : ∃ p, k = 35 + p := ⟨k - 35, by omega⟩
    rw [sE_p] at hk ⊢
    rw [h3 p (by omega)]
    exact hk
theorem RT.cg (h : RT F P g T) (h2 : ∀ f w p, f < F → w < 4 → p < P → own g' f w p = own g f w p) : RT F P g' T := fun f w hf hw => ⟨(h f w hf hw).1, fun p hp => by rw [h2 f w p hf hw hp]; exact (h f w hf hw).2 p hp⟩
theorem SS.cg (h : SS D ci cj A F P g H) (h0 : ∀ f, f < F → g' 0 f = g 0 f) (h1 : ∀ f, f < F → g' 1 f = g 1 f) (h2 : ∀ f w p, f < F → w < 4 → p < P → own g' f w p = own g f w p) (h3 : ∀ p, p < P → rI g' p = rI g p) (h7 : g' 7 0 = g 7 0) (hF : F ≤ 6) : SS D ci cj A F P g' H := by
  obtain ⟨T, r1, r2⟩ := h
  exact ⟨T, r1.cg h2, r2.cg h0 h1 h3 h7 (fun _ _ => rfl) hF⟩
/-- one cell is written -/
theorem SP.st (h : SP D ci cj A F P g T H) (hi : ∀ i j, sV F P i → sV F P j → A i = A j → i = j) {k : Nat} (hV : sV F P k) (hk : KP (fun a => a = A k) H H1) (he : va_at D vwCl (A k, sE ci cj A F P g' T' k) H1) (ho : ∀ j, sV F P j → j ≠ k → sE ci cj A F P g' T' j = sE ci cj A F P g T j) : SP D ci cj A F P g' T' H1 := by
  intro j hj
  by_cases e : j = k
  · subst e
    exact he
  · rw [ho j hj e]
    exact hk.at (h j hj) (fun z => e (hi j k hj hV z))
theorem SP.stT (h : SP D ci cj A F P g T H) (hi : ∀ i j, sV F P i → sV F P j → A i = A j → i = j) {f w : Nat} (hf : f < F) (hw : w < 4) (hF : F ≤ 6) {r : Nat → Int32} (hk : KP (fun a => a = A (11 + (f * 4 + w))) H H1) (he : isI D ci H1 (A (11 + (f * 4 + w))) 64 r) : SP D ci cj A F P g (fun z => if z = f * 4 + w then r else T z) H1 := by
  refine h.st hi (sVr hf hw) hk (by rw [sE_r (by omega) hw, if_pos rfl]; exact he) (fun j hj hne => ?_)
  unfold sE
  by_cases h1 : j < 11
  · rcases (show j = 0 ∨ j = 1 ∨ j = 2 ∨ j = 3 ∨ j = 4 ∨ (5 ≤ j ∧ j < 11) by omega) with rfl | rfl | rfl | rfl | rfl | h2 <;> try rfl
    rw [if_neg (by omega), if_neg (by omega), if_neg (by omega), if_neg (by omega), if_neg (by omega), if_pos (by omega), if_neg (by omega), if_neg (by omega), if_neg (by omega), if_neg (by omega), if_neg (by omega), if_pos (by omega)]
  · by_cases h2 : j < 35
    · rw [if_neg (by omega), if_neg (by omega), if_neg (by omega), if_neg (by omega), if_neg (by omega), if_neg (by omega), if_pos (by omega), if_neg (by omega), if_neg (by omega), if_neg (by omega), if_neg (by omega), if_neg (by omega), if_neg (by omega), if_pos (by omega)]
      exact congrArg (fun r9 => (Sum.inl (ci, 64, Sum.inl r9) : va_E)) (if_neg (by omega))
    · rw [if_neg (by omega), if_neg (by omega), if_neg (by omega), if_neg (by omega), if_neg (by omega), if_neg (by omega), if_neg (by omega), if_neg (by omega), if_neg (by omega), if_neg (by omega), if_neg (by omega), if_neg (by omega), if_neg (by omega), if_neg (by omega)]
/-- a person's row is written -/
theorem SP.stP (h : SP D ci cj A F P g T H) (hi : ∀ i j, sV F P i → sV F P j → A i = A j → i = j) {k : Nat} (hkP : k < P) (hk : KP (fun a => a = A (35 + k)) H H1) (he : isI D ci H1 (A (35 + k)) 4 (rI g' k)) (h0 : g' 0 = g 0) (h1 : g' 1 = g 1) (h7 : g' 7 = g 7) (ho : ∀ p, p ≠ k → rI g' p = rI g p) : SP D ci cj A F P g' T H1 := by
  refine h.st hi (sVp hkP) hk (by rw [sE_p]; exact he) (fun j hj hne => ?_)
  unfold sE
  rw [h0, h1, h7]
  by_cases h5 : j < 5
  · rcases (show j = 0 ∨ j = 1 ∨ j = 2 ∨ j = 3 ∨ j = 4 by omega) with rfl | rfl | rfl | rfl | rfl <;> rfl
  · by_cases h3 : j < 11
    · rw [if_neg (by omega), if_neg (by omega), if_neg (by omega), if_neg (by omega), if_neg (by omega), if_pos (by omega), if_neg (by omega), if_neg (by omega), if_neg (by omega), if_neg (by omega), if_neg (by omega), if_pos (by omega)]
    · by_cases h4 : j < 35
      · rw [if_neg (by omega), if_neg (by omega), if_neg (by omega), if_neg (by omega), if_neg (by omega), if_neg (by omega), if_pos (by omega), if_neg (by omega), if_neg (by omega), if_neg (by omega), if_neg (by omega), if_neg (by omega), if_neg (by omega), if_pos (by omega)]
      · rw [ho (j - 35) (by omega)]
theorem SP.st1 (h : SP D ci cj A F P g T H) (hi : ∀ i j, sV F P i → sV F P j → A i = A j → i = j) (hk : KP (fun a => a = A 1) H H1) (he : isI D ci H1 (A 1) F (g' 0)) (h1 : g' 1 = g 1) (h7 : g' 7 = g 7) (ho : ∀ p, rI g' p = rI g p) : SP D ci cj A F P g' T H1 := by
  refine h.st hi sV1 hk he (fun j hj hne => ?_)
  unfold sE
  rw [h1, h7, ho]
  by_cases h0 : j = 0
  · rw [if_pos h0, if_pos h0]
  · rw [if_neg h0, if_neg hne, if_neg h0, if_neg hne]
theorem SP.st2 (h : SP D ci cj A F P g T H) (hi : ∀ i j, sV F P i → sV F P j → A i = A j → i = j) (hk : KP (fun a => a = A 2) H H1) (he : isI D ci H1 (A 2) F (g' 1)) (h0 : g' 0 = g 0) (h7 : g' 7 = g 7) (ho : ∀ p, rI g' p = rI g p) : SP D ci cj A F P g' T H1 := by
  refine h.st hi sV2 hk he (fun j hj hne => ?_)
  unfold sE
  rw [h0, h7, ho]
  by_cases h0 : j = 0
  · rw [if_pos h0, if_pos h0]
  · by_cases h1 : j = 1
    · rw [if_neg h0, if_pos h1, if_neg h0, if_pos h1]
    · rw [if_neg h0, if_neg h1, if_neg hne, if_neg h0, if_neg h1, if_neg hne]
/-- the crown's coins are written -/
theorem SP.st0 (h : SP D ci cj A F P g T H) (hi : ∀ i j, sV F P i → sV F P j → A i = A j → i = j) (hk : KP (fun a => a = A 0) H H1) (he : va_at D vwCl (A 0, .inr (1, [.ref (A 1), .ref (A 2), .ref (A 3), .ref (A 4), .int (g' 7 0)])) H1) (h0 : g' 0 = g 0) (h1 : g' 1 = g 1) (ho : ∀ p, rI g' p = rI g p) : SP D ci cj A F P g' T H1 := by
  refine h.st hi sV0 hk he (fun j hj hne => ?_)
  unfold sE
  rw [h0, h1, ho, if_neg hne, if_neg hne]
theorem SA.o : SA A F P (A 0) := ⟨0, sV0, rfl⟩
theorem SA.i {k : Nat} (h : sV F P k) : SA A F P (A k) := ⟨k, h, rfl⟩
/-- surroundings of a Sim's method -/
def BX (D : va_G) (ci cz : ClassId) (cj : ClassId × ClassId) (A : Nat → Nat) (F P : Nat) (g : Nat → Nat → Int32) (U : State) : Prop := SS D ci cj A F P g U.heap ∧ va_K D vwCl (tyL ci cz cj) U ∧ AOs U
def BT (D : va_G) (ci cz : ClassId) (cj : ClassId × ClassId) (A : Nat → Nat) (F P : Nat) (g : Nat → Nat → Int32) (T : Nat → Nat → Int32) (U : State) : Prop := SP D ci cj A F P g T U.heap ∧ va_K D vwCl (tyL ci cz cj) U ∧ AOs U
theorem BX.bl (U : State) (fr : JFrame) (mk : MethodId) (a : Array Value) (h : BX D ci cz cj A F P g U) : BX D ci cz cj A F P g (U.calling fr mk a) :=
  ⟨h.1, va_K.moved (u := U) (U := U.calling fr mk a) (Vm.Alike.refl U.vm) h.2.1, AOs.moved (u := U) (U := U.calling fr mk a) (Vm.Alike.refl U.vm) h.2.2⟩
theorem BT.bl (U : State) (fr : JFrame) (mk : MethodId) (a : Array Value) (h : BT D ci cz cj A F P g T U) : BT D ci cz cj A F P g T (U.calling fr mk a) :=
  ⟨h.1, va_K.moved (u := U) (U := U.calling fr mk a) (Vm.Alike.refl U.vm) h.2.1, AOs.moved (u := U) (U := U.calling fr mk a) (Vm.Alike.refl U.vm) h.2.2⟩
theorem BX.at {s : State} (hQ : SS D ci cj A F P g H) (hK : va_K D vwCl (tyL ci cz cj) s) (hO : AOs s) (U : State) (hU : U.heap = H) (hW : s.WarmedH U.vm) : BX D ci cz cj A F P g U := ⟨by rw [hU]; exact hQ, va_K.moved hW.alike hK, hO.moved hW.alike⟩
theorem BT.at {s : State} (hQ : SP D ci cj A F P g T H) (hK : va_K D vwCl (tyL ci cz cj) s) (hO : AOs s) (U : State) (hU : U.heap = H) (hW : s.WarmedH U.vm) : BT D ci cz cj A F P g T U := ⟨by rw [hU]; exact hQ, va_K.moved hW.alike hK, hO.moved hW.alike⟩
theorem g_recv {s : State} {tys : List (ClassId × FieldType)} {a c : Nat} {fs : List Value} {r : vw_C} (hK : va_K D vwCl tys s) (ha : va_at D vwCl (a, .inr (c, fs)) H) (hc : vwCl[c]? = some r) : ∃ cell : Cell, H[a]? = some cell ∧ cell.vm.isStatics = false ∧ s.vm.findClass r.1 = some cell.cls := by
  refine va_recv hK (ws := [(a, .inr (c, fs))]) (fun k q hk => ?_) hc (q0 := 0) rfl
  have h1 : k < 1 := (List.getElem?_eq_some_iff.mp hk).1
  obtain rfl : k = 0 := by omega
  cases hk
  exact ha
theorem SP.rc {s : State} (h : SP D ci cj A F P g T H) (hK : va_K D vwCl (tyL ci cz cj) s) : ∃ cell : Cell, H[A 0]? = some cell ∧ cell.vm.isStatics = false ∧ s.vm.findClass RX1 = some cell.cls := g_recv (c := 1) hK h.o rfl
theorem SS.rc {s : State} (h : SS D ci cj A F P g H) (hK : va_K D vwCl (tyL ci cz cj) s) : ∃ cell : Cell, H[A 0]? = some cell ∧ cell.vm.isStatics = false ∧ s.vm.findClass RX1 = some cell.cls := by
  obtain ⟨T, h1, h2⟩ := h
  exact h2.rc hK
end SIMP
section COUNT
def sN (f : Nat → Nat) : Nat → Nat | 0 => 0 | n + 1 => sN f n + f n
theorem cn_s (b : Nat → Bool) (n : Nat) : cn b (n + 1) = cn b n + (if b n then 1 else 0) := by
  show (if b n then cn b n + 1 else cn b n) = _
  split <;> rfl
theorem cn_y {b : Nat → Bool} {i : Nat} (h : b i = true) : cn b (i + 1) = cn b i + 1 := by rw [cn_s, h]; rfl
theorem cn_n {b : Nat → Bool} {i : Nat} (h : b i = false) : cn b (i + 1) = cn b i := by rw [cn_s, h]; rfl
theorem sN_0 {f : Nat → Nat} {n : Nat} (h : ∀ p, p < n → f p = 0) : sN f n = 0 := by
  induction n with
  | zero => rfl
  | succ n ih =>
    show sN f n + f n = 0
    rw [ih (fun p hp => h p (by omega)), h n (by omega)]
theorem sN_add {f f' f'' : Nat → Nat} {n : Nat} (h : ∀ p, p < n → f p = f' p + f'' p) : sN f n = sN f' n + sN f'' n := by
  induction n with
  | zero => rfl
  | succ n ih =>
    show sN f n + f n = sN f' n + f' n + (sN f'' n + f'' n)
    rw [ih (fun p hp => h p (by omega)), h n (by omega)]
    omega
theorem sN_1 {f : Nat → Nat} {n k : Nat} (hk : k < n) (h1 : f k = 1) (h : ∀ p, p < n → p ≠ k → f p = 0) : sN f n = 1 := by
  induction n with
  | zero => omega
  | succ n ih =>
    show sN f n + f n = 1
    by_cases e : k = n
    · subst e
      rw [sN_0 (fun p hp => h p (by omega) (by omega)), h1]
    · rw [ih (by omega) (fun p hp => h p (by omega)), h n (by omega) (fun z => e z.symm)]
theorem neg1_nI {p : Nat} (hp : p < 2 ^ 31) : (-1 : Int32) ≠ nI p := fun e => by
  have h := nI_pos hp
  rw [← e] at h
  exact h (by decide)
/-- all shares of a watch are somebody's or the crown's -/
theorem cT_all {r : Nat → Int32} {P : Nat} (hP : P ≤ 12) (N : Nat) (h : ∀ k, k < N → r k = -1 ∨ ∃ p, p < P ∧ r k = nI p) : sN (fun p => cn (fun k => decide (r k = nI p)) N) P + cn (fun k => decide (r k = -1)) N = N := by
  induction N with
  | zero =>
    have e : sN (fun p => cn (fun k => decide (r k = nI p)) 0) P = 0 := sN_0 (fun p _ => rfl)
    rw [e]
    rfl
  | succ N ih =>
    have ih := ih (fun k hk => h k (by omega))
    have e1 : sN (fun p => cn (fun k => decide (r k = nI p)) (N + 1)) P = sN (fun p => cn (fun k => decide (r k = nI p)) N) P + sN (fun p => if r N = nI p then 1 else 0) P := sN_add (fun p _ => by
      rw [cn_s]
      simp)
    rw [e1, cn_s]
    rcases h N (by omega) with h1 | ⟨p, hp, h1⟩
    · have e3 : sN (fun p => if r N = nI p then 1 else 0) P = 0 := sN_0 (fun p hp => if_neg (by rw [h1]; exact neg1_nI (by omega)))
      rw [e3]
      simp only [h1, decide_true, if_true]
      omega
    · have e3 : sN (fun p => if r N = nI p then 1 else 0) P = 1 := sN_1 (k := p) hp (if_pos h1) (fun p' hp' hne => if_neg (by rw [h1]; exact fun e => hne ((nI_eq (by omega) (by omega)).mp e).symm))
      rw [e3]
      have e2 : decide (r N = -1) = false := decide_eq_false (by rw [h1]; exact fun e => neg1_nI (p := p) (by omega) e.symm)
      rw [e2]
      simp only [Bool.false_eq_true, if_false]
      omega
theorem cT_le (r : Nat → Int32) (x : Int32) : cT r x ≤ 64 := cn_le _ _
variable {F P : Nat} {g g' : Nat → Nat → Int32} {T : Nat → Nat → Int32}
theorem sd_cT {f : Nat → Int32} {c : Nat → Nat} {n M : Nat} (h : ∀ p, p < n → f p = nI (c p)) (hM : sN c n ≤ M) : sd (nI M) f n = nI (M - sN c n) := by
  induction n with
  | zero => rfl
  | succ n ih =>
    have hM' : sN c n + c n ≤ M := hM
    show sd (nI M) f n - f n = nI (M - (sN c n + c n))
    rw [ih (fun p hp => h p (by omega)) (by omega), h n (by omega), pk_sub (by omega), Nat.sub_sub]
theorem RT.cro (h : RT F P g T) (hP : P ≤ 12) {f w : Nat} (hf : f < F) (hw : w < 4) : sCro g P f w = nI (cT (T (f * 4 + w)) (-1)) := by
  obtain ⟨h1, h2⟩ := h f w hf hw
  have h3 := cT_all hP 64 h1
  unfold sCro
  rw [sd_cT (c := fun p => cT (T (f * 4 + w)) (nI p)) h2 (by show sN (fun p => cn _ 64) P ≤ 64; omega)]
  congr 1
  show 64 - sN (fun p => cn (fun k => decide (T (f * 4 + w) k = nI p)) 64) P = cn _ 64
  omega
/-- handing on: the first m of a's shares become b's -/
def hR (r : Nat → Int32) (a b : Int32) (m N : Nat) : Nat → Int32 := fun j => if j < N ∧ r j = a ∧ cn (fun k => decide (r k = a)) j < m then b else r j
theorem hR_0 {r : Nat → Int32} {a b : Int32} {m : Nat} : hR r a b m 0 = r := by
  funext j
  unfold hR
  rw [if_neg (by omega)]
theorem hR_s {r : Nat → Int32} {a b : Int32} {m N : Nat} (h1 : r N = a) (h2 : cn (fun k => decide (r k = a)) N < m) : upd (hR r a b m N) N b = hR r a b m (N + 1) := by
  funext j
  unfold upd hR
  by_cases e : j = N
  · subst e
    rw [if_pos rfl, if_pos ⟨by omega, h1, h2⟩]
  · rw [if_neg e]
    by_cases h3 : j < N ∧ r j = a ∧ cn (fun k => decide (r k = a)) j < m
    · rw [if_pos h3, if_pos ⟨by omega, h3.2⟩]
    · rw [if_neg h3, if_neg (fun z => h3 ⟨by omega, z.2⟩)]
theorem hR_n {r : Nat → Int32} {a b : Int32} {m N : Nat} (h1 : r N ≠ a) : hR r a b m (N + 1) = hR r a b m N := by
  funext j
  unfold hR
  by_cases h3 : j < N ∧ r j = a ∧ cn (fun k => decide (r k = a)) j < m
  · rw [if_pos h3, if_pos ⟨by omega, h3.2⟩]
  · rw [if_neg h3, if_neg (fun z => h3 ⟨by
      by_cases e : j = N
      · subst e
        exact absurd z.2.1 h1
      · omega, z.2⟩)]
theorem hR_end {r : Nat → Int32} {a b : Int32} {m N : Nat} (hN : N ≤ 64) (h : m ≤ cn (fun k => decide (r k = a)) N) : hR r a b m N = hR r a b m 64 := by
  funext j
  unfold hR
  by_cases h3 : j < N ∧ r j = a ∧ cn (fun k => decide (r k = a)) j < m
  · rw [if_pos h3, if_pos ⟨by omega, h3.2⟩]
  · rw [if_neg h3, if_neg (fun z => h3 ⟨by
      by_cases e : j < N
      · exact e
      · have := cn_mono (b := fun k => decide (r k = a)) (show N ≤ j by omega)
        omega, z.2⟩)]
theorem hR_at (r : Nat → Int32) (a b : Int32) (m : Nat) {j : Nat} (hj : j < 64) : hR r a b m 64 j = if r j = a ∧ cn (fun k => decide (r k = a)) j < m then b else r j := by
  unfold hR
  by_cases h : r j = a ∧ cn (fun k => decide (r k = a)) j < m
  · rw [if_pos h, if_pos ⟨hj, h⟩]
  · rw [if_neg h, if_neg (fun z => h z.2)]
/-- how many each has then -/
theorem hR_cnt {r : Nat → Int32} {a b : Int32} (hab : a ≠ b) (m : Nat) : ∀ N, N ≤ 64 →
    cn (fun k => decide (hR r a b m 64 k = a)) N = cn (fun k => decide (r k = a)) N - min m (cn (fun k => decide (r k = a)) N) ∧
    cn (fun k => decide (hR r a b m 64 k = b)) N = cn (fun k => decide (r k = b)) N + min m (cn (fun k => decide (r k = a)) N) ∧
    ∀ x, x ≠ a → x ≠ b → cn (fun k => decide (hR r a b m 64 k = x)) N = cn (fun k => decide (r k = x)) N
  | 0, _ => ⟨by simp [cn], by simp [cn], fun _ _ _ => rfl⟩
  | N + 1, hN => by
    obtain ⟨i1, i2, i3⟩ := hR_cnt hab m N (by omega)
    have e := hR_at r a b m (show N < 64 by omega)
    by_cases h : r N = a
    · have hb : ¬ r N = b := fun z => hab (h.symm.trans z)
      have da : decide (r N = a) = true := decide_eq_true h
      have db : decide (r N = b) = false := decide_eq_false hb
      by_cases h2 : cn (fun k => decide (r k = a)) N < m
      · rw [if_pos ⟨h, h2⟩] at e
        have d1 : decide (hR r a b m 64 N = a) = false := decide_eq_false (by rw [e]; exact Ne.symm hab)
        have d2 : decide (hR r a b m 64 N = b) = true := decide_eq_true e
        refine ⟨by rw [cn_n (b := fun k => decide (hR r a b m 64 k = a)) d1, cn_y (b := fun k => decide (r k = a)) da, i1]; omega, by rw [cn_y (b := fun k => decide (hR r a b m 64 k = b)) d2, cn_n (b := fun k => decide (r k = b)) db, cn_y (b := fun k => decide (r k = a)) da, i2]; omega, fun x hxa hxb => ?_⟩
        have d3 : decide (hR r a b m 64 N = x) = false := decide_eq_false (by rw [e]; exact Ne.symm hxb)
        have d4 : decide (r N = x) = false := decide_eq_false (by rw [h]; exact Ne.symm hxa)
        rw [cn_n (b := fun k => decide (hR r a b m 64 k = x)) d3, cn_n (b := fun k => decide (r k = x)) d4, i3 x hxa hxb]
      · rw [if_neg (fun z => h2 z.2)] at e
        have d1 : decide (hR r a b m 64 N = a) = true := decide_eq_true (e.trans h)
        have d2 : decide (hR r a b m 64 N = b) = false := decide_eq_false (by rw [e]; exact hb)
        refine ⟨by rw [cn_y (b := fun k => decide (hR r a b m 64 k = a)) d1, cn_y (b := fun k => decide (r k = a)) da, i1]; omega, by rw [cn_n (b := fun k => decide (hR r a b m 64 k = b)) d2, cn_n (b := fun k => decide (r k = b)) db, cn_y (b := fun k => decide (r k = a)) da, i2]; omega, fun x hxa hxb => ?_⟩
        have d4 : decide (r N = x) = false := decide_eq_false (by rw [h]; exact Ne.symm hxa)
        have d3 : decide (hR r a b m 64 N = x) = false := by rw [e]; exact d4
        rw [cn_n (b := fun k => decide (hR r a b m 64 k = x)) d3, cn_n (b := fun k => decide (r k = x)) d4, i3 x hxa hxb]
    · rw [if_neg (fun z => h z.1)] at e
      have da : decide (r N = a) = false := decide_eq_false h
      have d1 : decide (hR r a b m 64 N = a) = false := by rw [e]; exact da
      refine ⟨by rw [cn_n (b := fun k => decide (hR r a b m 64 k = a)) d1, cn_n (b := fun k => decide (r k = a)) da, i1], ?_, fun x hxa hxb => ?_⟩
      · have e2 : cn (fun k => decide (hR r a b m 64 k = b)) (N + 1) = cn (fun k => decide (hR r a b m 64 k = b)) N + (if decide (r N = b) then 1 else 0) := by rw [cn_s, e]
        rw [e2, cn_s, cn_n (b := fun k => decide (r k = a)) da, i2]
        omega
      · have e2 : cn (fun k => decide (hR r a b m 64 k = x)) (N + 1) = cn (fun k => decide (hR r a b m 64 k = x)) N + (if decide (r N = x) then 1 else 0) := by rw [cn_s, e]
        rw [e2, cn_s, i3 x hxa hxb]
theorem hR_a {r : Nat → Int32} {a b : Int32} (hab : a ≠ b) (m : Nat) : cT (hR r a b m 64) a = cT r a - min m (cT r a) := (hR_cnt hab m 64 (Nat.le_refl _)).1
theorem hR_b {r : Nat → Int32} {a b : Int32} (hab : a ≠ b) (m : Nat) : cT (hR r a b m 64) b = cT r b + min m (cT r a) := (hR_cnt hab m 64 (Nat.le_refl _)).2.1
theorem hR_x {r : Nat → Int32} {a b x : Int32} (hab : a ≠ b) (m : Nat) (h1 : x ≠ a) (h2 : x ≠ b) : cT (hR r a b m 64) x = cT r x := (hR_cnt hab m 64 (Nat.le_refl _)).2.2 x h1 h2
theorem hR_in {r : Nat → Int32} {a b : Int32} {m P : Nat} (h : ∀ k, k < 64 → r k = -1 ∨ ∃ p, p < P ∧ r k = nI p) (hb : b = -1 ∨ ∃ p, p < P ∧ b = nI p) : ∀ k, k < 64 → hR r a b m 64 k = -1 ∨ ∃ p, p < P ∧ hR r a b m 64 k = nI p := by
  intro k hk
  rw [hR_at r a b m hk]
  split
  · exact hb
  · exact h k hk
end COUNT
