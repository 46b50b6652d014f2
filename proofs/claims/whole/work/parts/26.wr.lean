def wsW (y : MethodName) (cc : ByteArray) (mL : Nat) (rt : Option FieldType) (hh : List (Nat × Nat × Nat × Nat)) : List Cond := .codeWith y cc mL rt hh :: tblG
theorem wsW_good {y : MethodName} {cc : ByteArray} {mL : Nat} {rt : Option FieldType} {hh : List (Nat × Nat × Nat × Nat)} (h : Cond.codeWith y cc mL rt hh ∈ tblG) {own : String} {idx : Nat} (h1 : Cond.methodLink own idx y ∈ tblG) (h2 : Cond.static y ∈ tblG) (h3 : Cond.initialized y.cls ∈ tblG) : GoodIn tblG (va_wsS own idx y (wsW y cc mL rt hh)) := by
  intro w hw
  rcases List.mem_append.mp hw with e | e
  · simp only [List.mem_cons, List.not_mem_nil, or_false] at e
    rcases e with rfl | rfl | rfl
    · exact tblG_good _ h1
    · exact tblG_good _ h2
    · exact tblG_good _ h3
  · rcases List.mem_cons.mp e with e | e
    · subst e; exact tblG_good _ h
    · exact tblG_good _ e
/-- a method with a table of handlers: answers o and leaves M', makes one cell at most -/
def MetB (l : Launch) (y : MethodName) (cc : ByteArray) (mL : Nat) (rt : Option FieldType) (hh : List (Nat × Nat × Nat × Nat)) (d : Nat) (E : Ev) (As : List Value) (M : Mm) (o : Option Value) (M' : Mm) : Prop :=
  Met l y (wsW y cc mL rt hh) (rmX d) (va_Pc As (Rep E M)) (QQ E o M') 1 6 (eF E)
theorem MetB.of {l : Launch} {y : MethodName} {cc : ByteArray} {mL : Nat} {rt : Option FieldType} {hh : List (Nat × Nat × Nat × Nat)} {d : Nat} {E : Ev} {As : List Value} {M M' : Mm} {o : Option Value} (hy : plainName y.cls = true) (hn : (lg_sl As).length ≤ mL)
    (body : ∀ (p : Program) (e : Env) (s : State) (m : MethodId) (below : List Frame) (meth : Method) (c : Code), Cx y.cls cc mL p (rmX d) s m As.toArray meth c E → meth.sig.returnType = rt → c.exceptionTable.toList = tableOf hh →
      G p l e (rmX d) s m As.toArray below meth c E mL 0 0 (QR below As.toArray s E 1 6 o M') 0 (lv_args 0 As) [] M) : MetB l y cc mL rt hh d E As M o M' := by
  refine va_MetW (cc := cc) (maxL := mL) (ret := rt) (hh := hh) hy rfl ?_
  intro p e s m args below meth c s₁ B hml hv
  obtain ⟨rfl, h1, h2, h3, h4, h5, h6⟩ := hv
  have hts := atoms_spec (ws := wsW y cc mL rt hh) B.pre
  have htb := vx_table (x := y) B (hts _ List.mem_cons_self)
  rw [lg_entry_eq]
  exact body p e s m below meth c ⟨B.exec, B.bytes, hml, findClass_of_methodNamed B.named, fun w hw => hts w (List.mem_cons_of_mem _ hw), B.notSynchronized, h1, h3, h4, h5, h6⟩ B.returns htb s.heap [] _ h2 va_S.rf (lv_entry As hn)
section GW
variable {p : Program} {l : Launch} {e : Env} {R : Room} {s : State} {m : MethodId} {args : Array Value} {below : List Frame} {meth : Method} {c : Code} {E : Ev} {nL cells slots : Nat} {Q : State → Prop} {own : String} {cc : ByteArray} {pc : Nat} {L : List (Nat × Value)} {st rest : List Value} {M : Mm} {k : Nat}
theorem G.widen {c2 s2 : Nat} (h1 : cells ≤ c2) (h2 : slots ≤ s2) (kk : G p l e R s m args below meth c E nL c2 s2 Q pc L st M) : G p l e R s m args below meth c E nL cells slots Q pc L st M :=
  fun H locs ls hP hS hl0 => W.widen h1 h2 (kk H locs ls hP hS hl0)
/-- which entry of a table catches kind k at pc, and where it goes on: the first whose range holds it and whose class is k's -/
def hits (own : String) (hh : List (Nat × Nat × Nat × Nat)) (pc k hpc : Nat) : Prop := ∃ (pre : List ExceptionTableEntry) (x : ExceptionTableEntry) (suf : List ExceptionTableEntry), tableOf hh = pre ++ x :: suf ∧ (∀ z ∈ pre, z.catchType ≠ 0 ∧ k = 2 ∧ (Cond.classLink own z.catchType (exN 1) ∈ tblG ∨ Cond.classLink own z.catchType (exN 3) ∈ tblG)) ∧ covers x pc = true ∧ x.catchType ≠ 0 ∧ Cond.classLink own x.catchType (exN k) ∈ tblG ∧ Cond.castable (exN k) (exN k) ∈ lw_tbl ∧ x.handlerPc = hpc
variable {y : MethodName} {bytes : ByteArray} {mL d index : Nat} {rt : Option FieldType} {As : List Value}
theorem G.callVC (C : Cx own cc nL p R s m args meth c E) {hh : List (Nat × Nat × Nat × Nat)} {hpc : Nat} (hT : c.exceptionTable.toList = tableOf hh) (hi : hits own hh pc k hpc) {q ci N : Nat} {T : u_T} {fs : List (Nat × Nat)} (hM : MetT l y bytes mL rt d E (.ref (eA E q) :: As) M k) (hc : Cal R y bytes mL rt d As.length) (hl : Cond.methodLink own index y ∈ tblG) (hin : Cond.instanceMethod y ∈ tblG) (hse : Cond.selects y.cls y y ∈ tblG) (hs : (eH E)[q]? = some (.inr (ci, fs))) (hcl : vwCl[ci]? = some (y.cls, T, N)) (hk : st = As.reverse ++ .ref (eA E q) :: rest) (hcat : (rest.map fun v => v.category).sum ≤ 8) (hd : decode cc pc = .ok (.invokevirtual index, 3)) (h0 : cells + 1 ≤ R.cells ∧ slots + 6 ≤ R.slots)
    (kk : ∀ x : Nat, G p l e R s m args below meth c E nL (cells + 1) (slots + 6) Q hpc L [.ref x] M) : G p l e R s m args below meth c E nL cells slots Q pc L st M := by
  obtain ⟨h1, h2, h3, h4, h5⟩ := hc
  obtain ⟨hx, hb, hml, hown, hts, -, -, -, -, hZ, hN⟩ := id C
  intro H locs ls hP hS hl0 T0 hT0 X
  have hr : vx_Run p l e R s m args below meth c H locs cells slots 1 6 (F0 m pc ls st) rest ((fun _ _ _ _ => False : Array Value → State → Outcome → State → Prop) (Value.ref (eA E q) :: As).toArray) (XX E k M) (eF E) := vx_runV (As := As) (rest := rest) (C := y.cls) ⟨hx, hb, hml, hown, hts⟩ hM ⟨callB_of As.length hts (wsY_good h1) rfl rfl rfl (hts _ h2) (hts _ hl) (okY_s h3) ⟨h4, h5⟩, hts _ hin, hts _ hse⟩ ⟨blindP, recvE C hs hcl hP, fun U hU hW => ⟨rfl, repU C hP hS hU hW⟩⟩ (g := F0 m pc ls st) rfl rfl hl0.1 hk (lv_room hcat) hd h0
  rcases hr T0 hT0 X with ⟨v, st₀, t, T', Lc, g0, X', hL, e1, e2, hq, stp⟩ | ⟨q9, st₀, t, T', Lc, En, ce, g0, X', hL, e1, e2, ⟨hE, hP', hF⟩, hce, hcv, hcl', stp⟩
  · exact hq.elim
  · subst hE
    have hS' := keepS g0 e1 hS hL hF
    obtain ⟨pre, x, suf, b1, b2, b3, b4, b5, b6, b7⟩ := hi
    subst b7
    have hw : vx_W p l e R s m args below meth c T'.heap (locs ++ Lc) (cells + 1) (slots + 6) Q (F0 m pc ls rest) q9 := by
      refine vx_catch (name := exN k) hown pre x suf (hT.trans b1) (fun z hz => ?_) b3 b4 (hts _ b5) (va_Nw.use rfl (hN _ b6 rfl)) (by rw [e1]; exact hce) hcv hcl' (kk q9 T'.heap (locs ++ Lc) ls (by rw [e1]; exact hP') hS' hl0)
      obtain ⟨z1, z2, z3⟩ := b2 z hz
      subst z2
      rcases z3 with z3 | z3
      · exact Or.inr ⟨z1, exN 1, hts _ z3, hZ.2.2.2.2.2.2.2.2.1⟩
      · exact Or.inr ⟨z1, exN 3, hts _ z3, hZ.2.2.2.2.2.2.2.2.2.1⟩
    obtain ⟨t2, a1, b1⟩ := hw T' rfl X'
    exact ⟨t2, stp.trans a1, b1⟩
/-- a call of a method with a table of handlers -/
theorem G.callSB {o : Option Value} {M' : Mm} {hh : List (Nat × Nat × Nat × Nat)} (C : Cx own cc nL p R s m args meth c E) (hM : MetB l y bytes mL rt hh d E As M o M') (hc : Cond.codeWith y bytes mL rt hh ∈ tblG ∧ Cond.initialized y.cls ∈ tblG ∧ okY y As.length = true ∧ d + 1 ≤ R.frames ∧ 8 + (mL + 11) + 64 * d ≤ R.locals) (hl : Cond.methodLink own index y ∈ tblG) (hst : Cond.static y ∈ tblG) (hk : st = As.reverse ++ rest) (hcat : (rest.map fun v => v.category).sum ≤ 8) (hd : decode cc pc = .ok (.invokestatic index, 3)) (h0 : cells + 1 ≤ R.cells ∧ slots + 6 ≤ R.slots)
    (kk : G p l e R s m args below meth c E nL (cells + 1) (slots + 6) Q (pc + 3) L (o.toList ++ rest) M') : G p l e R s m args below meth c E nL cells slots Q pc L st M := by
  obtain ⟨h1, h2, h3, h4, h5⟩ := hc
  obtain ⟨hx, hb, hml, hown, hts, -⟩ := id C
  intro H locs ls hP hS hl0 T hT X
  have hr : va_Run p l e R s m args below meth c H locs cells slots 1 6 (F0 m pc ls st) rest (QQ E o M' As.toArray) (eF E) := vx_runSW (As := As) (rest := rest) ⟨hx, hb, hml, hown, hts⟩ hM (vx_cwSW As.length hts (wsW_good h1 hl hst h2) rfl rfl rfl (okY_s h3) ⟨h4, h5⟩) ⟨blindP, fun U hU hW => ⟨rfl, repU C hP hS hU hW⟩⟩ (g := F0 m pc ls st) rfl rfl hl0.1 hk (lv_room hcat) hd h0
  obtain ⟨v, st₀, t, T', Lc, g0, X', hL, e1, e2, ⟨hv, hP', hF⟩, stp⟩ := hr T hT X
  cases hv
  obtain ⟨t2, a1, b1⟩ := kk T'.heap (locs ++ Lc) ls (by rw [e1]; exact hP') (keepS g0 e1 hS hL hF) hl0 T' rfl X'
  exact ⟨t2, stp t2 a1, b1⟩
end GW
theorem hasC {sh : List Shp} (h : Has shA sh) : Has shC sh := by
  intro q z hz
  refine h q z ?_
  have e : shC = shA.take 67 := rfl
  rw [e] at hz
  rw [List.getElem?_take] at hz
  split at hz
  · exact hz
  · cases hz
theorem hasM {sh : List Shp} (h : Has shA sh) : Has shM sh := by
  intro q z hz
  refine h q z ?_
  have e : shM = shA.take 120 := rfl
  rw [e] at hz
  rw [List.getElem?_take] at hz
  split at hz
  · exact hz
  · cases hz
theorem sa_120 {sh : List Shp} (h : Has shA sh) : sh[120]? = some (.inl (1, 1, [])) := h 120 _ rfl
