-- ===== what is given, below the first address: POWERS, the String constants, Throwable's statics =====
def powF (k : Nat) : Int32 := ([1, 5, 25, 125, 625, 3125, 15625, 78125, 390625, 1953125] : List Int32).getD k 0
def strT : List (String × Nat × String) := [("HollowPunches$Tape", 97, "letter"), ("HollowPunches$Tape", 103, "turned"), ("HollowPunches$Tape", 105, "mirror"), ("HollowPunches$Tape", 107, "bar"), ("HollowPunches$Tape", 109, "ring"), ("HollowPunches$Tape", 111, "cut"), ("HollowPunches$Tape", 113, "word"), ("HollowPunches$Tape", 115, "spread"), ("HollowPunches", 352, "a number out of its range"), ("HollowPunches", 345, "no such letter"), ("HollowPunches", 348, "no such hollow"), ("HollowPunches", 258, "no such word"), ("HollowPunches", 280, "no squares"), ("HollowPunches", 350, "no such print")]
def strB : List (List Int32) := [[108, 101, 116, 116, 101, 114], [116, 117, 114, 110, 101, 100], [109, 105, 114, 114, 111, 114], [98, 97, 114], [114, 105, 110, 103], [99, 117, 116], [119, 111, 114, 100], [115, 112, 114, 101, 97, 100]]
def strN : List Nat := [6, 6, 6, 3, 4, 3, 4, 6]
def Stt (E : Ev) (U : State) (H : Heap) : Prop :=
  va_Z RX6 "POWERS" "[I" (.ref (eX E 0)) (eF E) U H ∧ va_T .int (eX E 0) 10 (fun j => .int (powF j)) (eF E) U H ∧ vk_S 8 strN strB (fun i => eX E (1 + i)) (fun i => eX E (15 + i)) (eF E) U H ∧
  (∀ (i : Nat) (q : String × Nat × String), strT[i]? = some q → vk_R q.1 q.2.1 q.2.2 (eX E (1 + i)) U) ∧ vx_Zq Bundle.tN "UNASSIGNED_STACK" Bundle.steD (eF E) U H ∧ vx_Zq Bundle.tN "SUPPRESSED_SENTINEL" Bundle.listD (eF E) U H ∧ va_Z "java/lang/String" "COMPACT_STRINGS" "Z" (.int 1) (eF E) U H ∧ va_Zq "jdk/internal/util/Preconditions" "SIOOBE_FORMATTER" "Ljava/util/function/BiFunction;" (eF E) U H ∧ va_Nc "java/lang/IllegalArgumentException" "java/util/NoSuchElementException" U ∧ va_Nc "java/lang/IllegalArgumentException" "java/lang/IndexOutOfBoundsException" U ∧ va_AO RX0 U ∧ va_AOA .int U ∧ va_AOA .long U ∧ va_AOA .boolean U
theorem Stt.go {E : Ev} {s U : State} {H : Heap} (h : Stt E s s.heap) (hW : s.WarmedH U.vm) (hq : ∀ a : Nat, a < s.heap.size → ¬ eF E a → H[a]? = s.heap[a]?) : Stt E U H := by
  obtain ⟨h1, h2, h3, h4, h5, h6, h7, h8, h9, h10, h11, h12, h13, h14⟩ := h
  exact ⟨(va_Z.moved hW.alike h1).kept hq, (va_T.moved hW.alike h2).kept hq, (vk_S.moved hW.alike h3).kept hq, fun i q hi => (h4 i q hi).warm hW, (vx_Zq.moved hW.alike h5).kept hq, (vx_Zq.moved hW.alike h6).kept hq, (va_Z.moved hW.alike h7).kept hq, (va_Zq.moved hW.alike h8).kept hq, va_Nc.moved hW.alike h9, va_Nc.moved hW.alike h10, va_AO.moved hW.alike h11, va_AOA.moved hW.alike h12, va_AOA.moved hW.alike h13, va_AOA.moved hW.alike h14⟩
theorem Stt.same {E : Ev} {s U : State} {H : Heap} (h : Stt E s H) (hv : s.vm = U.vm) : Stt E U H := by
  obtain ⟨h1, h2, h3, h4, h5, h6, h7, h8, h9, h10, h11, h12, h13, h14⟩ := h
  have ha : s.vm.Alike U.vm := by rw [hv]; exact Vm.Alike.refl _
  exact ⟨va_Z.moved ha h1, va_T.moved ha h2, vk_S.moved ha h3, fun i q hi => (h4 i q hi).same hv.symm, vx_Zq.moved ha h5, vx_Zq.moved ha h6, va_Z.moved ha h7, va_Zq.moved ha h8, va_Nc.moved ha h9, va_Nc.moved ha h10, va_AO.moved ha h11, va_AOA.moved ha h12, va_AOA.moved ha h13, va_AOA.moved ha h14⟩
/-- the heap holds the memory M, over the surroundings E -/
def Rep (E : Ev) (M : Mm) (U : State) : Prop := eS E ≤ U.heap.size ∧ va_P (eD E) vwCl (eW E M) U.heap ∧ va_K (eD E) vwCl (tysOf (eC E)) U ∧ Adr E ∧ Stt E U U.heap ∧ NW U
theorem Rep.calling {E : Ev} {M : Mm} {U : State} {g : JFrame} {mk : MethodId} {a : Array Value} (h : Rep E M U) : Rep E M (U.calling g mk a) := by
  obtain ⟨h1, h2, h3, h4, h5, h6⟩ := h
  exact ⟨h1, h2, va_K.moved (u := U) (U := U.calling g mk a) (Vm.Alike.refl U.vm) h3, h4, Stt.same (s := U) (U := U.calling g mk a) h5 rfl, NW.frames (u := U) (U := U.calling g mk a) rfl h6⟩
def QQ (E : Ev) (o : Option Value) (M : Mm) : Array Value → State → Outcome → State → Prop := fun _ st oc t => oc = .returned o ∧ va_P (eD E) vwCl (eW E M) t.heap ∧ va_F (eF E) st t
def wsY (y : MethodName) (cc : ByteArray) (mL : Nat) (rt : Option FieldType) : List Cond := .code y cc mL rt :: tblG
theorem wsY_good {y : MethodName} {cc : ByteArray} {mL : Nat} {rt : Option FieldType} (h : Cond.code y cc mL rt ∈ tblG) : GoodIn tblG (wsY y cc mL rt) := by
  intro w hw
  rcases List.mem_cons.mp hw with e | e
  · subst e; exact tblG_good _ h
  · exact tblG_good _ e
def rmD (d : Nat) : Room := { frames := d, cells := 0, slots := 0, locals := 64 * d }
/-- method y, from memory M with the arguments As, answers o and leaves M' (d frames at most) -/
def MetA (l : Launch) (y : MethodName) (cc : ByteArray) (mL : Nat) (rt : Option FieldType) (d : Nat) (E : Ev) (As : List Value) (M : Mm) (o : Option Value) (M' : Mm) : Prop :=
  Met l y (wsY y cc mL rt) (rmD d) (va_Pc As (Rep E M)) (QQ E o M') 0 0 (eF E)
/-- a method's body: what stands fast there -/
def Cx (own : String) (cc : ByteArray) (nL : Nat) (p : Program) (R : Room) (s : State) (m : MethodId) (args : Array Value) (meth : Method) (c : Code) (E : Ev) : Prop :=
  p.tables.exec = Jvm.exec ∧ c.code = cc ∧ c.maxLocals = nL ∧ s.vm.findClass own = some m.cls ∧ (∀ w ∈ tblG, w.before args s = true) ∧ meth.locks = false ∧ eS E ≤ s.heap.size ∧ va_K (eD E) vwCl (tysOf (eC E)) s ∧ Adr E ∧ Stt E s s.heap ∧ NW s
/-- from pc on, with these locals and this stack and this memory, the machine comes to Q -/
def G (p : Program) (l : Launch) (e : Env) (R : Room) (s : State) (m : MethodId) (args : Array Value) (below : List Frame) (meth : Method) (c : Code) (E : Ev) (nL : Nat) (cells slots : Nat) (Q : State → Prop) (pc : Nat) (L : List (Nat × Value)) (st : List Value) (M : Mm) : Prop :=
  ∀ (H : Heap) (locs : List Loc) (ls : Array Slot), va_P (eD E) vwCl (eW E M) H → va_S (eF E) s.heap H locs → lv_has ls nL L → W p l e R s m args below meth c H locs cells slots Q (F0 m pc ls st)
/-- the end that a method's contract asks -/
def QR (below : List Frame) (args : Array Value) (s : State) (E : Ev) (mc ms : Nat) (o : Option Value) (M : Mm) : State → Prop := MQ below (QQ E o M) args s mc ms (eF E)
theorem MetA.of {l : Launch} {y : MethodName} {cc : ByteArray} {mL : Nat} {rt : Option FieldType} {d : Nat} {E : Ev} {As : List Value} {M M' : Mm} {o : Option Value} (hy : plainFor y = true) (hn : (lg_sl As).length ≤ mL)
    (body : ∀ (p : Program) (e : Env) (s : State) (m : MethodId) (below : List Frame) (meth : Method) (c : Code), Cx y.cls cc mL p (rmD d) s m As.toArray meth c E → meth.sig.returnType = rt → (meth.name = y.name) →
      G p l e (rmD d) s m As.toArray below meth c E mL 0 0 (QR below As.toArray s E 0 0 o M') 0 (lv_args 0 As) [] M) : MetA l y cc mL rt d E As M o M' := by
  refine va_MetF (cc := cc) (maxL := mL) (ret := rt) hy rfl ?_
  intro p e s m args below meth c s₁ B hml hv
  obtain ⟨rfl, h1, h2, h3, h4, h5, h6⟩ := hv
  have hts := atoms_spec (ws := wsY y cc mL rt) B.pre
  rw [lg_entry_eq]
  exact body p e s m below meth c ⟨B.exec, B.bytes, hml, findClass_of_methodNamed B.named, fun w hw => hts w (List.mem_cons_of_mem _ hw), B.notSynchronized, h1, h3, h4, h5, h6⟩ B.returns (name_of_methodNamed B.named B.method).1 s.heap [] _ h2 va_S.rf (lv_entry As hn)
section GL
variable {p : Program} {l : Launch} {e : Env} {R : Room} {s : State} {m : MethodId} {args : Array Value} {below : List Frame} {meth : Method} {c : Code} {E : Ev} {nL cells slots : Nat} {Q : State → Prop} {own : String} {cc : ByteArray} {pc : Nat} {L : List (Nat × Value)} {st : List Value} {M : Mm}
/-- fewer locals are enough -/
theorem G.sub {L' : List (Nat × Value)} (ks : List Nat) (hl : lv_pick L ks = L') (k : G p l e R s m args below meth c E nL cells slots Q pc L' st M) : G p l e R s m args below meth c E nL cells slots Q pc L st M :=
  fun H locs ls hP hS hl' => k H locs ls hP hS (lv_sub hl' ks hl)
end GL
