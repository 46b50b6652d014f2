def exN (k : Nat) : String := match k with
  | 1 => "java/util/NoSuchElementException"
  | 2 => "java/lang/IllegalArgumentException"
  | _ => "java/lang/IndexOutOfBoundsException"
def exC : List String := ["java/lang/RuntimeException", "java/lang/Exception"]
def XX (E : Ev) (k : Nat) (M : Mm) : String → State → State → Prop := fun En st t => En = exN k ∧ va_P (eD E) vwCl (eW E M) t.heap ∧ va_F (eF E) st t
def rmX (d : Nat) : Room := { frames := d, cells := 1, slots := 6, locals := 64 * d }
/-- method y, from memory M with the arguments As, throws an exception of kind k, and leaves M -/
def MetT (l : Launch) (y : MethodName) (cc : ByteArray) (mL : Nat) (rt : Option FieldType) (d : Nat) (E : Ev) (As : List Value) (M : Mm) (k : Nat) : Prop :=
  vx_Met l y (wsY y cc mL rt) (rmX d) (va_Pc As (Rep E M)) (fun _ _ _ _ => False) (XX E k M) 1 6 (eF E)
def QT (below : List Frame) (args : Array Value) (s : State) (E : Ev) (k : Nat) (M : Mm) : State → Prop := vx_MQ below (fun _ _ _ _ => False) (XX E k M) args s 1 6 (eF E)
theorem MetT.of {l : Launch} {y : MethodName} {cc : ByteArray} {mL : Nat} {rt : Option FieldType} {d : Nat} {E : Ev} {As : List Value} {M : Mm} {k : Nat} (hy : plainName y.cls = true) (hn : (lg_sl As).length ≤ mL)
    (body : ∀ (p : Program) (e : Env) (s : State) (m : MethodId) (below : List Frame) (meth : Method) (c : Code), Cx y.cls cc mL p (rmX d) s m As.toArray meth c E → (∀ x ∈ c.exceptionTable.toList, False) →
      G p l e (rmX d) s m As.toArray below meth c E mL 0 0 (QT below As.toArray s E k M) 0 (lv_args 0 As) [] M) : MetT l y cc mL rt d E As M k := by
  refine vx_ofW (cc := cc) (maxL := mL) (ret := rt) hy rfl ?_
  intro p e s m args below meth c s₁ B hml hT hv
  obtain ⟨rfl, h1, h2, h3, h4, h5, h6⟩ := hv
  have hts := atoms_spec (ws := wsY y cc mL rt) B.pre
  rw [lg_entry_eq]
  exact body p e s m below meth c ⟨B.exec, B.bytes, hml, findClass_of_methodNamed B.named, fun w hw => hts w (List.mem_cons_of_mem _ hw), B.notSynchronized, h1, h3, h4, h5, h6⟩ hT s.heap [] _ h2 va_S.rf (lv_entry As hn)
/-- the words of a throw of kind k out of the class own, whose constructor is its pool's entry ic -/
def ExW (own : String) (ik ic k : Nat) : Prop := (∀ w ∈ (vx_atS own ic (exN k) exC).filter goodWord, w ∈ tblG) ∧ (∀ w ∈ (vx_atS own ic (exN k) exC).filter (fun w => !goodWord w), w ∈ lw_tbl.filter nestW) ∧ (∀ w ∈ Cond.classLink own ik (exN k) :: Cond.initialized (exN k) :: vx_atS own ic (exN k) exC, vx_ot w = true) ∧ Cond.classLink own ik (exN k) ∈ tblG ∧ Cond.initialized (exN k) ∈ tblG ∧ Bundle.fit (exN k) = true ∧ ∀ n ∈ exC, Bundle.fit n = true
theorem nestW_tab {w : Cond} (h : nestW w = true) : w.onTables = true := by cases w <;> first | rfl | (simp [nestW] at h; done)
section GT
variable {p : Program} {l : Launch} {e : Env} {R : Room} {s : State} {m : MethodId} {args : Array Value} {below : List Frame} {meth : Method} {c : Code} {E : Ev} {nL : Nat} {own : String} {cc : ByteArray} {pc : Nat} {L : List (Nat × Value)} {st rest : List Value} {M : Mm} {k : Nat}
theorem G.throwS (C : Cx own cc nL p R s m args meth c E) (hT : ∀ x ∈ c.exceptionTable.toList, False) (hl : l.stackTraces = false) {ik is ic : Nat} {tx : String} (j : Nat) (hW : ExW own ik ic k) (hj : strT[j]? = some (own, is, tx))
    (d0 : decode cc pc = .ok (.new ik, 3)) (d3 : decode cc (pc + 3) = .ok (.dup, 1)) (d4 : decode cc (pc + 4) = .ok (.ldc_w is, 3)) (d7 : decode cc (pc + 7) = .ok (.invokespecial ic, 3)) (d10 : decode cc (pc + 10) = .ok (.athrow, 1))
    (hR : 5 < R.frames ∧ 100 ≤ R.locals ∧ 1 ≤ R.cells ∧ 6 ≤ R.slots) (hcat : (st.map fun v => v.category).sum ≤ 8) : G p l e R s m args below meth c E nL 0 0 (QT below args s E k M) pc L st M := by
  obtain ⟨hx, hb, hml, hown, hts, hlk, h7, hK, hA, hZ, hN⟩ := id C
  obtain ⟨w1, w2, w3, w4, w5, w6, w7⟩ := hW
  intro H locs ls hP hS hl0
  have hat : ∀ w ∈ vx_atS own ic (exN k) exC, w.before args s = true := vx_hat (B := lw_tbl.filter nestW) (fun w hw => hts w (w1 w hw)) w2 (fun w hw => va_Nw.use (nestW_tab (List.mem_filter.mp hw).2) (hN w (List.mem_filter.mp hw).1 (List.mem_filter.mp hw).2))
  refine vx_throwSW (text := tx) (names := exC) hx hb hl hown w6 w7 (hts _ w4) (hts _ w5) (hZ.2.2.2.1 j _ hj) hat w3 hZ.2.2.2.2.1 hZ.2.2.2.2.2.1 hS (hl0.1.trans hml.symm) d0 d3 d4 d7 d10 (fun x hx' => (hT x hx').elim) (by show 2 + 3 < _; omega) (by show _ + (13 * (2 + 1) + 43) ≤ _; omega) (by omega) (by omega) hlk (fun t ha hz hh => ⟨rfl, fun i q hq => (hP i q hq).kept (hh q.1 (hP i q hq).lt), ?_⟩) (fun z hz => hS.2.2 z hz) (by omega) (by omega)
  refine ⟨Nat.le_trans hS.1 hz, fun q h1 h2 => ?_⟩
  rw [hh q (Nat.lt_of_lt_of_le h1 hS.1)]
  exact hS.2.1 q h1 h2
theorem G.outT {H : Heap} {locs : List Loc} {ls : Array Slot} (C : Cx own cc nL p R s m args meth c E) (hT : ∀ x ∈ c.exceptionTable.toList, False) (hP : va_P (eD E) vwCl (eW E M) H) (hS : va_S (eF E) s.heap H locs) {En : String} {ce : Cell} {q : Addr} (he : En = exN k) (hcell : H[q]? = some ce) (hv : ce.vm = .none) (hcl : s.vm.findClass En = some ce.cls) : vx_W p l e R s m args below meth c H locs 1 6 (QT below args s E k M) (F0 m pc ls rest) q := by
  obtain ⟨hx, hb, hml, hown, hts, hlk, h7, hK, hA, hZ, hN⟩ := id C
  exact vx_out (fun x hx' => (hT x hx').elim) hlk hcell hv hcl (fun t ht ha => ⟨he, by rw [ht]; exact hP, hS.F ht⟩) (fun z hz => hS.2.2 z hz) (Nat.le_refl 1) (Nat.le_refl 6)
theorem G.runT {a : Array Value} (C : Cx own cc nL p R s m args meth c E) (hT : ∀ x ∈ c.exceptionTable.toList, False)
    (hr : ∀ (H : Heap) (locs : List Loc) (ls : Array Slot), va_P (eD E) vwCl (eW E M) H → va_S (eF E) s.heap H locs → lv_has ls nL L → vx_Run p l e R s m args below meth c H locs 0 0 1 6 (F0 m pc ls st) rest ((fun _ _ _ _ => False : Array Value → State → Outcome → State → Prop) a) (XX E k M) (eF E)) : G p l e R s m args below meth c E nL 0 0 (QT below args s E k M) pc L st M := by
  intro H locs ls hP hS hl0 T hT' X
  rcases hr H locs ls hP hS hl0 T hT' X with ⟨v, st₀, t, T', Lc, h0, X', hL, e1, e2, hq, stp⟩ | ⟨q, st₀, t, T', Lc, En, ce, h0, X', hL, e1, e2, ⟨hE, hP', hF⟩, hce, hcv, hcl, stp⟩
  · exact hq.elim
  · have hS' := keepS h0 e1 hS hL hF
    obtain ⟨t2, a1, b1⟩ := G.outT (pc := pc) (ls := ls) (rest := rest) C hT (by rw [e1]; exact hP') hS' hE (by rw [e1]; exact hce) hcv hcl T' rfl X'
    exact ⟨t2, stp.trans a1, b1⟩
variable {y : MethodName} {bytes : ByteArray} {mL d index : Nat} {rt : Option FieldType} {As : List Value}
theorem G.callST (C : Cx own cc nL p R s m args meth c E) (hT : ∀ x ∈ c.exceptionTable.toList, False) (hM : MetT l y bytes mL rt d E As M k) (hc : Cal R y bytes mL rt d As.length) (hl : Cond.methodLink own index y ∈ tblG) (hst : Cond.static y ∈ tblG) (hk : st = As.reverse ++ rest) (hcat : (rest.map fun v => v.category).sum ≤ 8) (hd : decode cc pc = .ok (.invokestatic index, 3)) (h0 : 1 ≤ R.cells ∧ 6 ≤ R.slots) : G p l e R s m args below meth c E nL 0 0 (QT below args s E k M) pc L st M := by
  refine G.runT (rest := rest) (a := As.toArray) C hT (fun H locs ls hP hS hl0 => ?_)
  obtain ⟨h1, h2, h3, h4, h5⟩ := hc
  obtain ⟨hx, hb, hml, hown, hts, -⟩ := id C
  exact vx_runS (As := As) ⟨hx, hb, hml, hown, hts⟩ hM ⟨callB_of As.length hts (wsY_good h1) rfl rfl rfl (hts _ h2) (hts _ hl) (okY_s h3) ⟨h4, h5⟩, hts _ hst⟩ ⟨blindP, fun U hU hW => ⟨rfl, repU C hP hS hU hW⟩⟩ rfl rfl hl0.1 hk (lv_room hcat) hd ⟨by omega, by omega⟩
theorem G.callVT (C : Cx own cc nL p R s m args meth c E) (hT : ∀ x ∈ c.exceptionTable.toList, False) {q ci N : Nat} {T : u_T} {fs : List (Nat × Nat)} (hM : MetT l y bytes mL rt d E (.ref (eA E q) :: As) M k) (hc : Cal R y bytes mL rt d As.length) (hl : Cond.methodLink own index y ∈ tblG) (hin : Cond.instanceMethod y ∈ tblG) (hse : Cond.selects y.cls y y ∈ tblG) (hs : (eH E)[q]? = some (.inr (ci, fs))) (hcl : vwCl[ci]? = some (y.cls, T, N)) (hk : st = As.reverse ++ .ref (eA E q) :: rest) (hcat : (rest.map fun v => v.category).sum ≤ 8) (hd : decode cc pc = .ok (.invokevirtual index, 3)) (h0 : 1 ≤ R.cells ∧ 6 ≤ R.slots) : G p l e R s m args below meth c E nL 0 0 (QT below args s E k M) pc L st M := by
  refine G.runT (rest := rest) (a := (Value.ref (eA E q) :: As).toArray) C hT (fun H locs ls hP hS hl0 => ?_)
  obtain ⟨h1, h2, h3, h4, h5⟩ := hc
  obtain ⟨hx, hb, hml, hown, hts, -⟩ := id C
  exact vx_runV (As := As) ⟨hx, hb, hml, hown, hts⟩ hM ⟨callB_of As.length hts (wsY_good h1) rfl rfl rfl (hts _ h2) (hts _ hl) (okY_s h3) ⟨h4, h5⟩, hts _ hin, hts _ hse⟩ ⟨blindP, recvE C hs hcl hP, fun U hU hW => ⟨rfl, repU C hP hS hU hW⟩⟩ rfl rfl hl0.1 hk (lv_room hcat) hd ⟨by omega, by omega⟩
end GT
/-- the first that throws -/
def orx (t : Option Nat) (r : Option Nat) : Option Nat := match t with
  | some k => some k
  | none => r
theorem orx_ex {t r : Option Nat} {k : Nat} (h : orx t r = some k) : t = some k ∨ r = some k := by
  cases t with
  | none => exact Or.inr h
  | some j => exact Or.inl h
