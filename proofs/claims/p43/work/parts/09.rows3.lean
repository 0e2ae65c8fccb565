/-! PART 09: who is alive; the table of the traffic; rows for booleans. -/
section ROWS3
theorem alv_b {P : Nat} {g : Nat → Nat → Int32} {i : Nat} (hi : i < P) : alv P (g 3) i = bI (lv g i) := by
  unfold alv bI lv
  rw [if_pos hi]
  by_cases h : g 3 i = 0 <;> simp [h] <;> rfl
variable {p : Program} {l : Launch} {e : Env} {R : Room} {s : State} {m : MethodId} {args : Array Value} {below : List Frame} {meth : Method} {c : Code} {H : Heap} {locs : List Loc} {cells slots : Nat} {Q : State → Prop}
variable {cc : ByteArray} {nL pc : Nat} {rest : List Value} {ls : Array Slot} {Ts : List Cond} {own : String}
theorem r_alive {D : va_G} {ci cz : ClassId} {cj : ClassId × ClassId} {q : Nat → Nat} {F P : Nat} {g : Nat → Nat → Int32} (Fx : CallFix p m c cc nL s args Ts own) (hK : va_K D vwCl (tyL ci cz cj) s) (hP : va_P D vwCl (w0 ci cz q F P g) H) {i : Nat} (hi : i < P) (hN : P ≤ 12) (hdg : decode cc pc = .ok (.baload, 1))
    (kk : W p l e R s m args below meth c H locs cells slots Q (F0 m (pc + 1) ls (.int (bI (lv g i)) :: rest))) : W p l e R s m args below meth c H locs cells slots Q (F0 m pc ls (.int (nI i) :: .ref (q 4) :: rest)) := by
  refine r_zald Fx hK hP 4 1 rfl rfl (i := i) (by omega) (by decide) hdg ?_
  rw [alv_b hi]
  exact kk
theorem r_tr {t : Nat} {A : Nat → Prop} (Fx : CallFix p m c cc nL s args Ts own) (hT : va_T .int t 4 (fun j => .int (trf j)) A s s.heap) (hS : va_S A s.heap H locs) {i : Nat} (hi : i < 4) (hdg : decode cc pc = .ok (.iaload, 1))
    (kk : W p l e R s m args below meth c H locs cells slots Q (F0 m (pc + 1) ls (.int (trf i) :: rest))) : W p l e R s m args below meth c H locs cells slots Q (F0 m pc ls (.int (nI i) :: .ref t :: rest)) :=
  va_ti Fx.1 Fx.2.1 hT hS (vp_in_nI hi (by decide)) (congrArg (fun j => Value.int (trf j)) (nI_clamp (by omega))) hdg kk
theorem r_zast {D : va_G} {wd : va_W} {tys : List (ClassId × FieldType)} {a N : Nat} {cA : ClassId} {f : Nat → Int32} {x : Int32} {A : Nat → Prop} {H0 : Heap} (F : CallFix p m c cc nL s args Ts own) (hK : va_K D vwCl tys s) (hP : va_P D vwCl wd H) (hD : va_D A wd) (hS : va_S A H0 H locs) (q0 t0 : Nat) (ha : wd[q0]? = some (a, .inl (cA, N, .inl f))) (ht : tys[t0]? = some (cA, .boolean)) {i : Nat} (hi : i < N) (hN : N < 2 ^ 31) (hx : vp_nar .boolean x = x) (hdg : decode cc pc = .ok (.bastore, 1))
    (kk : ∀ (H1 : Heap) (locs1 : List Loc), va_P D vwCl (wd.set q0 (a, .inl (cA, N, .inl (upd f i x)))) H1 → va_S A H0 H1 locs1 → W p l e R s m args below meth c H1 locs1 cells slots Q (F0 m (pc + 1) ls rest)) : W p l e R s m args below meth c H locs cells slots Q (F0 m pc ls (.int x :: .int (nI i) :: .ref a :: rest)) := by
  refine va_zast F.1 F.2.1 hK hP hD hS q0 t0 ha ht (vp_in_nI hi hN) hdg (fun H1 l1 h1 _ h3 => ?_)
  rw [nI_clamp (by omega), hx] at h1
  exact kk H1 l1 h1 h3
theorem n_if_lt (hexec : p.tables.exec = Jvm.exec) (hb : c.code = cc) {x : Nat} {off : Int} (hx : x < 2 ^ 31) (hdg : decode cc pc = .ok (.ifCond .lt off, 3)) (ht : ∃ tgt : Nat, (pc : Int) + off = (tgt : Int)) (kf : W p l e R s m args below meth c H locs cells slots Q (F0 m (pc + 3) ls rest)) : W p l e R s m args below meth c H locs cells slots Q (F0 m pc ls (.int (nI x) :: rest)) := by
  obtain ⟨tgt, ht⟩ := ht
  exact lv_if_lt hexec hb hdg ht (fun h => absurd h (nI_pos hx)) (fun _ => kf)
end ROWS3
section SEARCH
theorem all_0 {P : Nat → Prop} : ∀ z, z < 0 → P z := fun _ h => absurd h (Nat.not_lt_zero _)
theorem all_s {P : Nat → Prop} {i : Nat} (h : ∀ z, z < i → P z) (hi : P i) : ∀ z, z < i + 1 → P z := by
  intro z hz
  rcases Nat.lt_or_ge z i with h1 | h1
  · exact h z h1
  · have : z = i := by omega
    subst this
    exact hi
theorem ff_no (b : Nat → Bool) : ∀ n i, (∀ z, i ≤ z → z < i + n → b z = false) → ff b n i = -1
  | 0, _, _ => rfl
  | n + 1, i, h => by
    unfold ff
    rw [h i (Nat.le_refl _) (by omega)]
    exact ff_no b n (i + 1) (fun z h1 h2 => h z (by omega) (by omega))
theorem ff_yes (b : Nat → Bool) (k : Nat) : ∀ n i, i ≤ k → k < i + n → (∀ z, i ≤ z → z < k → b z = false) → b k = true → ff b n i = nI k
  | 0, i, h1, h2, _, _ => by omega
  | n + 1, i, h1, h2, h, hk => by
    unfold ff
    by_cases hik : i = k
    · subst hik
      rw [hk]
      rfl
    · rw [h i (Nat.le_refl _) (by omega)]
      exact ff_yes b k n (i + 1) (by omega) (by omega) (fun z h3 h4 => h z (by omega) h4) hk
theorem ff_none {b : Nat → Bool} {N : Nat} (h : ∀ z, z < N → b z = false) : ff b N 0 = -1 := ff_no b N 0 (fun z _ h2 => h z (by omega))
theorem ff_some {b : Nat → Bool} {N k : Nat} (h : ∀ z, z < k → b z = false) (hk : b k = true) (hN : k < N) : ff b N 0 = nI k := ff_yes b k N 0 (Nat.zero_le _) (by omega) (fun z _ h2 => h z h2) hk
theorem an_no (b : Nat → Bool) : ∀ n i, (∀ z, i ≤ z → z < i + n → b z = false) → an b n i = false
  | 0, _, _ => rfl
  | n + 1, i, h => by
    unfold an
    rw [h i (Nat.le_refl _) (by omega)]
    exact an_no b n (i + 1) (fun z h1 h2 => h z (by omega) (by omega))
theorem an_yes (b : Nat → Bool) (k : Nat) : ∀ n i, i ≤ k → k < i + n → b k = true → an b n i = true
  | 0, i, h1, h2, _ => by omega
  | n + 1, i, h1, h2, hk => by
    unfold an
    by_cases hik : i = k
    · subst hik
      rw [hk]
      rfl
    · by_cases hb : b i = true
      · rw [hb]
        rfl
      · rw [Bool.not_eq_true] at hb
        rw [hb]
        exact an_yes b k n (i + 1) (by omega) (by omega) hk
theorem an_none {b : Nat → Bool} {N : Nat} (h : ∀ z, z < N → b z = false) : an b N 0 = false := an_no b N 0 (fun z _ h2 => h z (by omega))
theorem an_some {b : Nat → Bool} {N k : Nat} (hk : b k = true) (hN : k < N) : an b N 0 = true := an_yes b k N 0 (Nat.zero_le _) (by omega) hk
end SEARCH
