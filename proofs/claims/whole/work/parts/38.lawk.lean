/-! THE CLAIM OUT OF ONE WALK OF THE LAW'S BODY. Your part is whole_start (and what it stands on); all else here is the same for every law, but numbers. -/
def R_law : String := "HollowPunchesLaw"
def lw_P (b : Addr) (xs : List Int32) (args : Array Value) (s : State) : Prop := args = #[.ref b] ∧ s.IntsAt b xs ∧ xs.length ≤ 384 ∧ (Jvm.Cond.and given_1 narrow_1).before args s = true
def lw_Q (_ : Array Value) (s : State) (o : Outcome) (t : State) : Prop := o = .returned (some (.int 1)) ∧ Framed s o t [] 600128 7301098
def lw_Z (below : List Frame) (a : Array Value) (s : State) : State → Prop := fun t => ∃ o, t.status = .running ∧ Ended t below o ∧ lw_Q a s o t
/-- the law's own end, with 1 on the stack, nothing written that was there before, its room as the claim has it -/
theorem lw_ret {p : Program} {l : Launch} {e : Env} {s : State} {m : MethodId} {below : List Frame} {meth : Method} {c : Code} {b : Nat} (hx : p.tables.exec = Jvm.exec) (hb : c.code = code) (hr : meth.sig.returnType = ret) (hlocks : meth.locks = false) {pc : Nat} {H : Heap} {ls : Array Slot} (hdg : decode code pc = .ok (.ireturn, 1)) : W p l e room_1 s m #[Value.ref b] below meth c H [] 600128 7301098 (lw_Z below #[Value.ref b] s) (F0 m pc ls [.int 1]) := by
  intro T hT X
  obtain ⟨fs, hret, hrun, hended, hW, hframe⟩ := X.leave (v := some (.int 1)) (hlocks := hlocks) (fun h => by rw [hr] at h; cases h)
  have hmeth' : T.vm.method? m = some meth := X.method'
  refine ⟨T.setFrames fs, ?_, .returned (some (.int 1)), hrun, hended, rfl, ⟨_, rfl⟩, hW, hframe⟩
  jvm_step X.here [X.here.top, hx, hb, hdg, hmeth', hr, ret, narrow_b1]
  (try refine ⟨rfl, ?_⟩); (try refine ⟨rfl, ?_⟩)
  first | (intro acts; rw [hret _ acts rfl rfl rfl]) | rw [hret _ _ rfl rfl rfl]
  exact Steps.refl _
/-- what holds at the law's entry: the machine, the code, the tables' words (any of lw_tbl by 'hts w (by decide +kernel)'), the script of L ints xs at the cell b, what the Statement gives of the start (any of its parts by flat_of_before) -/
def lw_At (p : Program) (s : State) (m : MethodId) (meth : Method) (c : Code) (b L : Nat) (xs : Nat → Int32) : Prop :=
  p.tables.exec = Jvm.exec ∧ c.code = code ∧ meth.sig.returnType = ret ∧ c.maxLocals = 8 ∧ s.vm.findClass R_law = some m.cls ∧ (∀ w ∈ lw_tbl, w.before #[Value.ref b] s = true) ∧ va_X b L xs s s.heap ∧ b < s.heap.size ∧ meth.locks = false ∧ (Jvm.Cond.and given_1 narrow_1).before #[Value.ref b] s = true
section GLW
variable {p : Program} {l : Launch} {e : Env} {R : Room} {s : State} {m : MethodId} {args : Array Value} {below : List Frame} {meth : Method} {c : Code} {E : Ev} {nL cells slots : Nat} {Q : State → Prop} {own : String} {cc : ByteArray} {pc : Nat} {L : List (Nat × Value)} {st : List Value} {M : Mm} {b xL : Nat} {xs : Nat → Int32}
theorem G.sld (C : Cx own cc nL p R s m args meth c E) (hX : va_X b xL xs s s.heap) (hbl : b < s.heap.size) (hbA : ¬ eF E b) {i : Int32} (hi : inb i xL = true) (hd : decode cc pc = .ok (.iaload, 1)) (kk : G p l e R s m args below meth c E nL cells slots Q (pc + 1) L (.int (xs (ix i)) :: st) M) : G p l e R s m args below meth c E nL cells slots Q pc L (.int i :: .ref b :: st) M :=
  fun H locs ls hP hS hl0 => va_sld C.1 C.2.1 hX hbl hbA hS (inb_in hi) hd (kk H locs ls hP hS hl0)
theorem G.sldn (C : Cx own cc nL p R s m args meth c E) (hX : va_X b xL xs s s.heap) (hbl : b < s.heap.size) (hbA : ¬ eF E b) (hd : decode cc pc = .ok (.arraylength, 1)) (kk : G p l e R s m args below meth c E nL cells slots Q (pc + 1) L (.int (Int32.ofNat xL) :: st) M) : G p l e R s m args below meth c E nL cells slots Q pc L (.ref b :: st) M :=
  fun H locs ls hP hS hl0 => va_slen C.1 C.2.1 hX hbl hbA hS hd (kk H locs ls hP hS hl0)
theorem G.lawend (h1 : cells ≤ 600128) (h2 : slots ≤ 7301098) (C : Cx own cL_law nL p room_1 s m #[Value.ref b] meth c E) (hr : meth.sig.returnType = ret) (hes : eS E = s.heap.size) (hd : decode cL_law pc = .ok (.ireturn, 1)) : G p l e room_1 s m #[Value.ref b] below meth c E nL cells slots (lw_Z below #[Value.ref b] s) pc L [.int 1] M :=
  fun H locs ls hP hS hl0 => va_forget (fun q hq => by have h := hS.2.2 q hq; have h' : eS E ≤ q.base := h; rw [hes] at h'; exact h') (W.widen h1 h2 (lw_ret C.1 C.2.1 hr C.2.2.2.2.2.1 hd))
end GLW
