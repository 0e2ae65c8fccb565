/-! PART 08: 'throw new E("text")' in a method of FerryRights. -/
section THROW
abbrev inR (a : Int32) (N : Nat) : Prop := 0 ≤ a ∧ a < nI N
theorem inR_of {a : Int32} {N : Nat} (h : inR a N) (hN : N < 2 ^ 31) : ∃ j : Nat, j < N ∧ a = nI j := by
  obtain ⟨j, h1, h2⟩ := nI_of (x := a) (fun g => absurd h.1 (Int32.not_le.mpr g))
  subst h2
  exact ⟨j, (nI_ltI h1 hN).mp h.2, rfl⟩
theorem inR_nI {j N : Nat} (h : j < N) (hN : N < 2 ^ 31) : inR (nI j) N := ⟨nI_pos' (by omega), nI_lt h hN⟩
def nms : List String := ["java/lang/RuntimeException", "java/lang/Exception"]
def ics : List (Nat × String) := [(50, xIS), (70, xIA), (164, xIO)]
theorem ics_fit : ∀ x ∈ ics, Bundle.fit x.2 = true ∧ x.2 ∈ exs3 := by decide +kernel
theorem nms_fit : ∀ x ∈ nms, Bundle.fit x = true := by decide +kernel
theorem ics_ot : ∀ x ∈ ics, ∀ w ∈ vx_atS RX0 x.1 x.2 nms, vx_ot w = true := by decide +kernel
theorem ics_ng : ∀ x ∈ ics, ∀ w ∈ (vx_atS RX0 x.1 x.2 nms).filter (fun w => !goodWord w), w ∈ Cond.castable x.2 x.2 :: dnm.map (fun n => Cond.declares (Bundle.initS n)) := by decide +kernel
variable {p : Program} {l : Launch} {e : Env} {R : Room} {s : State} {m : MethodId} {args : Array Value} {below : List Frame} {meth : Method} {c : Code} {H : Heap} {locs : List Loc} {cells slots : Nat} {Q : State → Prop}
variable {cc : ByteArray} {nL pc : Nat} {rest : List Value} {ls : Array Slot} {Ts : List Cond} {own : String}
theorem x0_throw {Qc : Array Value → State → Outcome → State → Prop} {XC : String → State → State → Prop} {A free : Nat → Prop} {ik is ic : Nat} {cls text : String} (F : CallFix p m c cc nL s args Ts RX0) (hl : l.stackTraces = false) (hE : EV A s s.heap) (hS : va_S A s.heap H locs) (hex : ∀ x ∈ c.exceptionTable.toList, False) (hlocks : meth.locks = false)
    (hic : (ic, cls) ∈ ics) (hstr : (is, text) ∈ strs) (hmk : Cond.classLink RX0 ik cls ∈ Ts) (hmi : Cond.initialized cls ∈ Ts) (hat : ∀ w ∈ (vx_atS RX0 ic cls nms).filter goodWord, w ∈ Ts) (hsize : ls.size = nL)
    (d0 : decode cc pc = .ok (.new ik, 3)) (d3 : decode cc (pc + 3) = .ok (.dup, 1)) (d4 : decode cc (pc + 4) = .ok (.ldc is, 2)) (d6 : decode cc (pc + 6) = .ok (.invokespecial ic, 3)) (d9 : decode cc (pc + 9) = .ok (.athrow, 1))
    (hRf : 5 < R.frames) (hRl : (rest.map fun v => v.category).sum + 82 ≤ R.locals) (hRc : cells + 1 ≤ R.cells) (hRs : slots + 6 ≤ R.slots)
    (hx : ∀ t : State, hkep H t.heap → XC cls s t) (hf : ∀ z ∈ locs, free z.base) (hc : cells + 1 ≤ 1) (hs : slots + 6 ≤ 6) : W p l e R s m args below meth c H locs cells slots (vx_MQ below Qc XC args s 1 6 free) (F0 m pc ls rest) := by
  have hw := F.2.2.2.2
  obtain ⟨f1, f2⟩ := ics_fit _ hic
  obtain ⟨sa, hsa⟩ := hE.2.2.1 _ hstr
  have hall : ∀ w ∈ vx_atS RX0 ic cls nms, w.before args s = true := vx_hat (fun w h => hw w (hat w h)) (ics_ng _ hic) (vx_c (va_Nw.use rfl (hE.2.1.1 _ f2)) (fun w h => by
    obtain ⟨n, hn, rfl⟩ := List.mem_map.mp h
    exact va_Nw.use rfl (hE.2.1.2 _ hn)))
  refine vx_throwS F.1 F.2.1 hl F.2.2.2.1 (names := nms) f1 nms_fit (hw _ hmk) (hw _ hmi) hsa hall ?_ hE.1.1 hE.1.2 hS (hsize.trans F.2.2.1.symm) d0 d3 d4 d6 d9 (fun x h => (hex x h).elim) hRf hRl hRc hRs hlocks (fun t _ h1 h2 => hx t ⟨h1, h2⟩) hf hc hs
  intro w h
  rcases List.mem_cons.mp h with rfl | h
  · rfl
  · rcases List.mem_cons.mp h with rfl | h
    · rfl
    · exact ics_ot _ hic w h
end THROW
