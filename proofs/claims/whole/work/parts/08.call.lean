section GC
variable {p : Program} {l : Launch} {e : Env} {R : Room} {s : State} {m : MethodId} {args : Array Value} {below : List Frame} {meth : Method} {c : Code} {E : Ev} {nL cells slots : Nat} {Q : State → Prop} {own : String} {cc : ByteArray} {pc : Nat} {L : List (Nat × Value)} {st : List Value} {M : Mm}
theorem keepS {st₀ t : State} {H H1 : Heap} {locs Lc : List Loc} (h0 : st₀.heap = H) (e1 : H1 = t.heap) (hS : va_S (eF E) s.heap H locs) (hL : ∀ q ∈ Lc, eF E q.base) (hF : va_F (eF E) st₀ t) : va_S (eF E) s.heap H1 (locs ++ Lc) := by
  subst h0; subst e1
  refine ⟨Nat.le_trans hS.1 hF.1, fun q h1 h2 => ?_, fun q hq => ?_⟩
  · rw [hF.2 q (Nat.lt_of_lt_of_le h1 hS.1) h2]
    exact hS.2.1 q h1 h2
  · rcases List.mem_append.mp hq with h | h
    · exact hS.2.2 q h
    · exact hL q h
theorem repU (C : Cx own cc nL p R s m args meth c E) {H : Heap} {locs : List Loc} (hP : va_P (eD E) vwCl (eW E M) H) (hS : va_S (eF E) s.heap H locs) {U : State} (hU : U.heap = H) (hW : s.WarmedH U.vm) : Rep E M U := by
  obtain ⟨hx, hb, -, hown, hts, -, h7, hK, hA, hT, hN⟩ := C
  exact ⟨by rw [hU]; exact Nat.le_trans h7 hS.1, by rw [hU]; exact hP, va_K.moved hW.alike hK, hA, hT.go hW (fun a h1 h2 => by rw [hU]; exact hS.2.1 a h1 h2), NW.warm hW hN⟩
theorem blindP {As : List Value} : FrameBlind (va_Pc As (Rep E M)) := fun _ _ _ _ q => ⟨q.1, q.2.calling⟩
theorem G.run {o : Option Value} {M' : Mm} {rest : List Value} {a : Array Value}
    (hr : ∀ (H : Heap) (locs : List Loc) (ls : Array Slot), va_P (eD E) vwCl (eW E M) H → va_S (eF E) s.heap H locs → lv_has ls nL L → va_Run p l e R s m args below meth c H locs cells slots 0 0 (F0 m pc ls st) rest (QQ E o M' a) (eF E))
    (kk : G p l e R s m args below meth c E nL cells slots Q (pc + 3) L (o.toList ++ rest) M') : G p l e R s m args below meth c E nL cells slots Q pc L st M := by
  intro H locs ls hP hS hl0 T hT X
  obtain ⟨v, st₀, t, T', Lc, h0, X', hL, e1, e2, ⟨hv, hP', hF⟩, stp⟩ := hr H locs ls hP hS hl0 T hT X
  cases hv
  obtain ⟨t2, a1, b1⟩ := kk T'.heap (locs ++ Lc) ls (by rw [e1]; exact hP') (keepS h0 e1 hS hL hF) hl0 T' rfl X'
  exact ⟨t2, stp t2 a1, b1⟩
theorem okY_s {y : MethodName} {n : Nat} (h : okY y n = true) : y.cls ≠ "java/lang/invoke/MethodHandle" ∧ y.cls ≠ "java/lang/invoke/VarHandle" ∧ (parseMethodDescriptor y.desc).map (fun d => d.parameters.length) = some n := by
  simp only [okY, Bool.and_eq_true, decide_eq_true_eq] at h
  exact ⟨h.1.1, h.1.2, h.2⟩
variable {y : MethodName} {bytes : ByteArray} {mL d index : Nat} {rt : Option FieldType} {As rest : List Value} {o : Option Value} {M' : Mm}
/-- what a call rests on: the callee's code, its class, its descriptor, the room -/
def Cal (R : Room) (y : MethodName) (bytes : ByteArray) (mL : Nat) (rt : Option FieldType) (d n : Nat) : Prop := Cond.code y bytes mL rt ∈ tblG ∧ Cond.initialized y.cls ∈ tblG ∧ okY y n = true ∧ d + 1 ≤ R.frames ∧ 8 + (mL + 11) + 64 * d ≤ R.locals
theorem G.callS (C : Cx own cc nL p R s m args meth c E) (hM : MetA l y bytes mL rt d E As M o M') (hc : Cal R y bytes mL rt d As.length) (hl : Cond.methodLink own index y ∈ tblG) (hst : Cond.static y ∈ tblG) (hk : st = As.reverse ++ rest) (hcat : (rest.map fun v => v.category).sum ≤ 8) (hd : decode cc pc = .ok (.invokestatic index, 3)) (h0 : cells ≤ R.cells ∧ slots ≤ R.slots)
    (kk : G p l e R s m args below meth c E nL cells slots Q (pc + 3) L (o.toList ++ rest) M') : G p l e R s m args below meth c E nL cells slots Q pc L st M := by
  refine G.run (a := As.toArray) (fun H locs ls hP hS hl0 => ?_) kk
  obtain ⟨h1, h2, h3, h4, h5⟩ := hc
  obtain ⟨hx, hb, hml, hown, hts, -⟩ := id C
  exact va_runS (As := As) ⟨hx, hb, hml, hown, hts⟩ hM ⟨callB_of As.length hts (wsY_good h1) rfl rfl rfl (hts _ h2) (hts _ hl) (okY_s h3) ⟨h4, h5⟩, hts _ hst⟩ ⟨blindP, fun U hU hW => ⟨rfl, repU C hP hS hU hW⟩⟩ rfl rfl hl0.1 hk (lv_room hcat) hd h0
theorem G.callSN {host : String} (C : Cx own cc nL p R s m args meth c E) (hM : MetA l y bytes mL rt d E As M o M') (hc : Cal R y bytes mL rt d As.length) (hl : Cond.methodLinkNest own index y host ∈ lw_tbl) (hst : Cond.static y ∈ tblG) (hk : st = As.reverse ++ rest) (hcat : (rest.map fun v => v.category).sum ≤ 8) (hd : decode cc pc = .ok (.invokestatic index, 3)) (h0 : cells ≤ R.cells ∧ slots ≤ R.slots)
    (kk : G p l e R s m args below meth c E nL cells slots Q (pc + 3) L (o.toList ++ rest) M') : G p l e R s m args below meth c E nL cells slots Q pc L st M := by
  refine G.run (a := As.toArray) (fun H locs ls hP hS hl0 => ?_) kk
  obtain ⟨h1, h2, h3, h4, h5⟩ := hc
  obtain ⟨hx, hb, hml, hown, hts, -, -, -, -, -, hN⟩ := id C
  exact va_runSN (As := As) ⟨hx, hb, hml, hown, hts⟩ hM ⟨va_cnB As.length hts (wsY_good h1) rfl rfl rfl (hN _ hl rfl) (hts _ h2) (okY_s h3) ⟨h4, h5⟩, hts _ hst, trivial⟩ ⟨blindP, fun U hU hW => ⟨rfl, repU C hP hS hU hW⟩⟩ rfl rfl hl0.1 hk (lv_room hcat) hd h0
theorem recvE (C : Cx own cc nL p R s m args meth c E) {q ci N : Nat} {Cn : String} {T : u_T} {fs : List (Nat × Nat)} {H : Heap} (hs : (eH E)[q]? = some (.inr (ci, fs))) (hcl : vwCl[ci]? = some (Cn, T, N)) (hP : va_P (eD E) vwCl (eW E M) H) : ∃ cell : Cell, H[eA E q]? = some cell ∧ cell.vm.isStatics = false ∧ s.vm.findClass Cn = some cell.cls := by
  obtain ⟨hx, hb, -, hown, hts, -, -, hK, -⟩ := C
  exact va_recv hK hP hcl (mkW_at hs)
theorem G.callV (C : Cx own cc nL p R s m args meth c E) {q ci N : Nat} {T : u_T} {fs : List (Nat × Nat)} (hM : MetA l y bytes mL rt d E (.ref (eA E q) :: As) M o M') (hc : Cal R y bytes mL rt d As.length) (hl : Cond.methodLink own index y ∈ tblG) (hin : Cond.instanceMethod y ∈ tblG) (hse : Cond.selects y.cls y y ∈ tblG) (hs : (eH E)[q]? = some (.inr (ci, fs))) (hcl : vwCl[ci]? = some (y.cls, T, N)) (hk : st = As.reverse ++ .ref (eA E q) :: rest) (hcat : (rest.map fun v => v.category).sum ≤ 8) (hd : decode cc pc = .ok (.invokevirtual index, 3)) (h0 : cells ≤ R.cells ∧ slots ≤ R.slots)
    (kk : G p l e R s m args below meth c E nL cells slots Q (pc + 3) L (o.toList ++ rest) M') : G p l e R s m args below meth c E nL cells slots Q pc L st M := by
  refine G.run (a := (Value.ref (eA E q) :: As).toArray) (fun H locs ls hP hS hl0 => ?_) kk
  obtain ⟨h1, h2, h3, h4, h5⟩ := hc
  obtain ⟨hx, hb, hml, hown, hts, -⟩ := id C
  exact va_runV (As := As) ⟨hx, hb, hml, hown, hts⟩ hM ⟨callB_of As.length hts (wsY_good h1) rfl rfl rfl (hts _ h2) (hts _ hl) (okY_s h3) ⟨h4, h5⟩, hts _ hin, hts _ hse⟩ ⟨blindP, recvE C hs hcl hP, fun U hU hW => ⟨rfl, repU C hP hS hU hW⟩⟩ rfl rfl hl0.1 hk (lv_room hcat) hd h0
theorem G.callVN {host : String} (C : Cx own cc nL p R s m args meth c E) {q ci N : Nat} {T : u_T} {fs : List (Nat × Nat)} (hM : MetA l y bytes mL rt d E (.ref (eA E q) :: As) M o M') (hc : Cal R y bytes mL rt d As.length) (hl : Cond.methodLinkNest own index y host ∈ lw_tbl) (hin : Cond.instanceMethod y ∈ tblG) (hse : Cond.selects y.cls y y ∈ tblG) (hs : (eH E)[q]? = some (.inr (ci, fs))) (hcl : vwCl[ci]? = some (y.cls, T, N)) (hk : st = As.reverse ++ .ref (eA E q) :: rest) (hcat : (rest.map fun v => v.category).sum ≤ 8) (hd : decode cc pc = .ok (.invokevirtual index, 3)) (h0 : cells ≤ R.cells ∧ slots ≤ R.slots)
    (kk : G p l e R s m args below meth c E nL cells slots Q (pc + 3) L (o.toList ++ rest) M') : G p l e R s m args below meth c E nL cells slots Q pc L st M := by
  refine G.run (a := (Value.ref (eA E q) :: As).toArray) (fun H locs ls hP hS hl0 => ?_) kk
  obtain ⟨h1, h2, h3, h4, h5⟩ := hc
  obtain ⟨hx, hb, hml, hown, hts, -, -, -, -, -, hN⟩ := id C
  exact va_runVN (As := As) (C := y.cls) ⟨hx, hb, hml, hown, hts⟩ hM ⟨va_cnB As.length hts (wsY_good h1) rfl rfl rfl (hN _ hl rfl) (hts _ h2) (okY_s h3) ⟨h4, h5⟩, hts _ hin, hts _ hse⟩ ⟨blindP, recvE C hs hcl hP, fun U hU hW => ⟨rfl, repU C hP hS hU hW⟩⟩ rfl rfl hl0.1 hk (lv_room hcat) hd h0
-- ===== Math =====
theorem G.mmax (C : Cx own cc nL p R s m args meth c E) {x y : Int32} (hl : Cond.methodLink own index Lib.Math.max.name ∈ tblG) (h1 : Cond.static Lib.Math.max.name ∈ tblG) (h2 : Cond.initialized "java/lang/Math" ∈ tblG) (h3 : Cond.code Lib.Math.max.name Lib.Math.max.code 2 (some .int) ∈ tblG) (hR : 1 ≤ R.frames ∧ 32 ≤ R.locals) (hcat : (rest.map fun v => v.category).sum ≤ 8) (h0 : cells ≤ R.cells ∧ slots ≤ R.slots) (hd : decode cc pc = .ok (.invokestatic index, 3))
    (kk : G p l e R s m args below meth c E nL cells slots Q (pc + 3) L (.int (if x < y then y else x) :: rest) M) : G p l e R s m args below meth c E nL cells slots Q pc L (.int y :: .int x :: rest) M := by
  obtain ⟨hx, hb, hml, hown, hts, -⟩ := C
  exact fun H locs ls hP hS hl0 => va_mmax hx hb (hml.trans hl0.1.symm) hown (hts _ hl) (hts _ h1) (hts _ h2) (hts _ h3) hR.1 (by omega) h0.1 h0.2 hd (kk H locs ls hP hS hl0)
theorem G.mmin (C : Cx own cc nL p R s m args meth c E) {x y : Int32} (hl : Cond.methodLink own index Lib.Math.min.name ∈ tblG) (h1 : Cond.static Lib.Math.min.name ∈ tblG) (h2 : Cond.initialized "java/lang/Math" ∈ tblG) (h3 : Cond.code Lib.Math.min.name Lib.Math.min.code 2 (some .int) ∈ tblG) (hR : 1 ≤ R.frames ∧ 32 ≤ R.locals) (hcat : (rest.map fun v => v.category).sum ≤ 8) (h0 : cells ≤ R.cells ∧ slots ≤ R.slots) (hd : decode cc pc = .ok (.invokestatic index, 3))
    (kk : G p l e R s m args below meth c E nL cells slots Q (pc + 3) L (.int (if y < x then y else x) :: rest) M) : G p l e R s m args below meth c E nL cells slots Q pc L (.int y :: .int x :: rest) M := by
  obtain ⟨hx, hb, hml, hown, hts, -⟩ := C
  exact fun H locs ls hP hS hl0 => va_mmin hx hb (hml.trans hl0.1.symm) hown (hts _ hl) (hts _ h1) (hts _ h2) (hts _ h3) hR.1 (by omega) h0.1 h0.2 hd (kk H locs ls hP hS hl0)
end GC
