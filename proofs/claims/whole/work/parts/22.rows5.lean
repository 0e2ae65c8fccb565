/-! PART 22: more rows; the ends of the look for heirs. -/
section ROWS5
variable {p : Program} {l : Launch} {e : Env} {R : Room} {s : State} {m : MethodId} {args : Array Value} {below : List Frame} {meth : Method} {c : Code} {H : Heap} {locs : List Loc} {cells slots : Nat} {Q : State → Prop}
variable {cc : ByteArray} {nL pc : Nat} {rest : List Value} {ls : Array Slot} {Ts : List Cond} {own : String}
theorem r_as {x : Int32} (y : Int32) (h : x = y) (k : W p l e R s m args below meth c H locs cells slots Q (F0 m pc ls (.int y :: rest))) : W p l e R s m args below meth c H locs cells slots Q (F0 m pc ls (.int x :: rest)) := by
  subst h
  exact k
theorem n_if_gt (hexec : p.tables.exec = Jvm.exec) (hb : c.code = cc) {x : Nat} {off : Int} {tgt : Nat} (hx : x < 2 ^ 31) (hdg : decode cc pc = .ok (.ifCond .gt off, 3)) (ht : (pc : Int) + off = (tgt : Int)) (kt : 0 < x → W p l e R s m args below meth c H locs cells slots Q (F0 m tgt ls rest)) (kf : x = 0 → W p l e R s m args below meth c H locs cells slots Q (F0 m (pc + 3) ls rest)) : W p l e R s m args below meth c H locs cells slots Q (F0 m pc ls (.int (nI x) :: rest)) :=
  lv_if_gt hexec hb hdg ht (fun h => kt (by
    rcases Nat.eq_zero_or_pos x with g | g
    · subst g
      exact absurd h (by decide)
    · exact g)) (fun h => kf (by
    rcases Nat.eq_zero_or_pos x with g | g
    · exact g
    · exact absurd (nI_lt g hx) h))
theorem iv_par {F P : Nat} {g : Nat → Nat → Int32} (h : Iv F P g) : ∀ z, z < P → g 6 z ≠ nI z := h.2.2.2.2.2.2.2
variable {D : va_G} {ci cz : ClassId} {q : Nat → Nat} {th : Int32} {F P k : Nat} {g : Nat → Nat → Int32} {he he' : Nat → Int32} {hn : Nat}
theorem lh1 (hI : Iv F P g) (hk : k < P) (h : 0 < cn (b1f g k) P) (hP : va_P D vwCl (w1 ci cz q th F P g (heF (b1f g k) he P) (cn (b1f g k) P)) H) : ∃ he, HeOk g P k he ∧ va_P D vwCl (w1 ci cz q th F P g he (sCHe g P k)) H := by
  obtain ⟨h1, h2⟩ := heirs_1 (he := he) hk (iv_par hI) h
  rw [h1] at hP
  exact ⟨_, h2, hP⟩
theorem lh0 (hk : k < P) (h : cn (b1f g k) P = 0) (h6 : g 6 k = -1) (hP : va_P D vwCl (w1 ci cz q th F P g he (cn (b1f g k) P)) H) : ∃ he, HeOk g P k he ∧ va_P D vwCl (w1 ci cz q th F P g he (sCHe g P k)) H := by
  obtain ⟨h1, h2⟩ := heirs_0 (he := he) hk h h6
  rw [h, h1] at hP
  exact ⟨_, h2, hP⟩
theorem lh2 (h : cn (b1f g k) P = 0) (h6 : ¬ g 6 k = -1) (hP : va_P D vwCl (w1 ci cz q th F P g (heF (b2f g k) he P) (cn (b2f g k) P)) H) : ∃ he, HeOk g P k he ∧ va_P D vwCl (w1 ci cz q th F P g he (sCHe g P k)) H := by
  obtain ⟨h1, h2⟩ := heirs_2 (he := he) h h6
  rw [h1] at hP
  exact ⟨_, h2, hP⟩
end ROWS5
