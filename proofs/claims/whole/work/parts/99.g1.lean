-- ===== constructors: the shapes grow =====
def extF (ad : Nat → Nat) (n : Nat) (f : Nat → Nat) : Nat → Nat := fun k => if k < n then ad k else f (k - n)
theorem extF_lt {ad f : Nat → Nat} {n k : Nat} (h : k < n) : extF ad n f k = ad k := if_pos h
theorem extF_new {ad : Nat → Nat} {n q : Nat} : extF ad n (fun _ => q) n = q := if_neg (Nat.lt_irrefl n)
/-- more cells behind the others -/
abbrev eN (E : Ev) (zs : List Shp) (f : Nat → Nat) : Ev := (E.1, E.2.1, E.2.2.1, eH E ++ zs, extF (eA E) (eH E).length f, E.2.2.2.2.2)
/-- the same cells, other shapes -/
abbrev eP (E : Ev) (sh : List Shp) : Ev := (E.1, E.2.1, E.2.2.1, sh, E.2.2.2.2.1, E.2.2.2.2.2)
def wfZ (n : Nat) (z : Shp) : Bool := match z with
  | .inl a => a.2.2.all (fun t => decide (t < n))
  | .inr o => o.2.all (fun f => !(f.1 == 3) || decide (f.2 < n))
theorem cel_ad {ad ad' : Nat → Nat} {cA : Nat → ClassId} {M : Mm} {c n : Nat} {z : Shp} (hw : wfZ n z = true) (h : ∀ k, k < n → ad k = ad' k) : cel ad cA M c z = cel ad' cA M c z := by
  cases z with
  | inl a =>
    have e : acl ad M c a = acl ad' M c a := by
      unfold acl
      split <;> first | rfl | skip
      congr 1
      congr 1; congr 1; congr 1; congr 1
      funext j
      cases hj : a.2.2[j]? with
      | none => rfl
      | some t =>
        have ht : t < n := by
          have := List.all_eq_true.mp (show a.2.2.all (fun t => decide (t < n)) = true from hw) t (List.mem_of_getElem? hj)
          exact of_decide_eq_true this
        show some (ad t) = some (ad' t)
        rw [h t ht]
    show Sum.inl _ = Sum.inl _
    rw [e]
  | inr o =>
    show Sum.inr _ = Sum.inr _
    congr 2
    apply List.ext_getElem?
    intro j
    rw [List.getElem?_mapIdx, List.getElem?_mapIdx]
    cases hj : o.2[j]? with
    | none => rfl
    | some f =>
      show some _ = some _
      congr 1
      have hf := List.all_eq_true.mp (show o.2.all (fun f => !(f.1 == 3) || decide (f.2 < n)) = true from hw) f (List.mem_of_getElem? hj)
      obtain ⟨k, t⟩ := f
      unfold fvl
      split <;> first | rfl | skip
      rename_i hk
      have hk' : k = 3 := hk
      subst hk'
      have ht : t < n := by simpa using hf
      show Value.ref (ad t) = Value.ref (ad' t)
      rw [h t ht]
theorem mkW_ad {sh : List Shp} {ad ad' : Nat → Nat} {cA : Nat → ClassId} {M : Mm} {n : Nat} (hn : sh.length ≤ n) (hw : sh.all (wfZ n) = true) (h : ∀ k, k < n → ad k = ad' k) : mkW sh ad cA M = mkW sh ad' cA M := by
  apply List.ext_getElem?
  intro k
  cases hk : sh[k]? with
  | none =>
    unfold mkW
    rw [List.getElem?_mapIdx, List.getElem?_mapIdx, hk]
    rfl
  | some z =>
    have hl : k < sh.length := (List.getElem?_eq_some_iff.mp hk).1
    rw [mkW_at hk, mkW_at hk, h k (by omega), cel_ad (List.all_eq_true.mp hw z (List.mem_of_getElem? hk)) h]
theorem mkW_ext {sh zs : List Shp} {ad f : Nat → Nat} {cA : Nat → ClassId} {M : Mm} (hw : sh.all (wfZ sh.length) = true) : mkW (sh ++ zs) (extF ad sh.length f) cA M = mkW sh ad cA M ++ zs.mapIdx (fun j z => (f j, cel (extF ad sh.length f) cA M (j + sh.length) z)) := by
  show (sh ++ zs).mapIdx _ = _
  rw [List.mapIdx_append]
  congr 1
  · exact mkW_ad (Nat.le_refl _) hw (fun k hk => extF_lt hk)
  · congr 1
    funext j z
    have : extF ad sh.length f (j + sh.length) = f j := by
      unfold extF
      rw [if_neg (by omega), Nat.add_sub_cancel]
    rw [this]
theorem Adr.ofD {E : Ev} {M : Mm} (h : va_D (eF E) (eW E M)) : Adr E := by
  have at' : ∀ i, i < (eH E).length → ∃ e, (eW E M)[i]? = some (eA E i, e) := fun i hi => ⟨_, mkW_at (List.getElem?_eq_getElem hi)⟩
  refine ⟨fun i j hi hj hij => ?_, fun i hi => ?_⟩
  · obtain ⟨e1, h1⟩ := at' i hi
    obtain ⟨e2, h2⟩ := at' j hj
    exact h.1 i j _ _ h1 h2 hij
  · obtain ⟨e1, h1⟩ := at' i hi
    exact h.2 i _ h1
section GK
variable {p : Program} {l : Launch} {e : Env} {R : Room} {s : State} {m : MethodId} {args : Array Value} {below : List Frame} {meth : Method} {c : Code} {E : Ev} {nL cells slots : Nat} {Q : State → Prop} {own : String} {cc : ByteArray} {pc : Nat} {L : List (Nat × Value)} {st rest : List Value} {M : Mm} {sh : List Shp} {index : Nat}
theorem Cx.to (C : Cx own cc nL p R s m args meth c E) {sh' : List Shp} {ad : Nat → Nat} (h : Adr (E.1, E.2.1, E.2.2.1, sh', ad, E.2.2.2.2.2)) : Cx own cc nL p R s m args meth c (E.1, E.2.1, E.2.2.1, sh', ad, E.2.2.2.2.2) := by
  obtain ⟨h1, h2, h3, h4, h5, h6, h7, h8, -, h10, h11⟩ := C
  exact ⟨h1, h2, h3, h4, h5, h6, h7, h8, h, h10, h11⟩
theorem G.newO (C : Cx own cc nL p R s m args meth c E) (hH : eH E = sh) (hw : sh.all (wfZ sh.length) = true) {ci N : Nat} {Cn : String} {T : u_T} {ty : Nat → FieldType} (K : Cls ci Cn T N ty) (z : List (Nat × Nat)) (fs : List Value) (hcl : Cond.classLink own index Cn ∈ tblG) (hin : Cond.instantiable Cn N ∈ tblG) (hini : Cond.initialized Cn ∈ tblG) (hz : ∀ ad : Nat → Nat, z.mapIdx (fvl ad M sh.length) = fs) (hfs : ∀ j, j < N → defaultValue (ty j) = vp_V fs j) (hc : cells + 1 ≤ R.cells) (hs : slots + N ≤ R.slots) (hd : decode cc pc = .ok (.new index, 3))
    (kk : ∀ q : Nat, Cx own cc nL p R s m args meth c (eN E [.inr (ci, z)] (fun _ => q)) → eH (eN E [.inr (ci, z)] (fun _ => q)) = sh ++ [.inr (ci, z)] → (∀ k, k < sh.length → eA (eN E [.inr (ci, z)] (fun _ => q)) k = eA E k) → eA (eN E [.inr (ci, z)] (fun _ => q)) sh.length = q → G p l e R s m args below meth c (eN E [.inr (ci, z)] (fun _ => q)) nL (cells + 1) (slots + N) Q (pc + 3) L (.ref q :: st) M) : G p l e R s m args below meth c E nL cells slots Q pc L st M := by
  subst hH
  obtain ⟨hx, hb, hml, hown, hts, hlk, h7, hK, hA, hT, hN⟩ := id C
  intro H locs ls hP hS hl0
  refine va_new (ci := ci) (fs := fs) hx hb hts K.2.1 ty K.2.2.1 hown (hts _ hcl) (hts _ hin) (hts _ hini) hK hP (hA.D M) hS (fun q hq => Nat.le_trans h7 hq) K.1 hfs hc hs hd (fun q H1 hP1 hD1 hS1 => ?_)
  have e1 : eW (eN E [.inr (ci, z)] (fun _ => q)) M = eW E M ++ [(q, .inr (ci, fs))] := by
    show mkW (eH E ++ [Sum.inr (ci, z)]) (extF (eA E) (eH E).length (fun _ => q)) (eC E) M = _
    rw [mkW_ext hw]
    congr 1
    show [(q, cel _ _ _ (0 + (eH E).length) (Sum.inr (ci, z)))] = _
    rw [Nat.zero_add, cel_o, hz]
  rw [← e1] at hP1 hD1
  exact kk q (C.to (Adr.ofD hD1)) rfl (fun k hk => extF_lt (ad := eA E) (f := fun _ => q) (n := (eH E).length) hk) (extF_new (ad := eA E) (n := (eH E).length)) H1 locs ls hP1 hS1 hl0
theorem ra_eq {ty : FieldType} {a b : ClassId} {nm : String} (h : ∀ x : ClassId, va_RA s x ty → s.vm.findClass nm = some x) (ha : va_RA s a ty) (hb : va_RA s b ty) : a = b := Option.some.inj ((h a ha).symm.trans (h b hb))
theorem G.newA (C : Cx own cc nL p R s m args meth c E) (hH : eH E = sh) (hw : sh.all (wfZ sh.length) = true) {atype : ArrayType} {k N : Nat} {n : Int32} {ty : FieldType} {nm : String} (a0 : vp_A) (harr : Cond.arrayClass (newarray.typeOf atype) ∈ tblG) (hty : newarray.typeOf atype = ty) (hk : ∀ cA : Nat → ClassId, (tysOf cA)[k]? = some (cA k, ty)) (hnm : ∀ x : ClassId, va_RA s x ty → s.vm.findClass nm = some x) (hz : ∀ ad : Nat → Nat, acl ad M sh.length (k, N, []) = a0) (ha : ∀ cA : ClassId, vp_cell cA a0 = arrV cA N (fun _ => defaultValue ty)) (hn : ¬ n < 0) (hN : n.toNatClampNeg = N) (hby : N * componentBytes ty ≤ 536870912) (hc : cells + 1 ≤ R.cells) (hs : slots + N ≤ R.slots) (hd : decode cc pc = .ok (.newarray atype, 2))
    (kk : ∀ q : Nat, Cx own cc nL p R s m args meth c (eN E [.inl (k, N, [])] (fun _ => q)) → eH (eN E [.inl (k, N, [])] (fun _ => q)) = sh ++ [.inl (k, N, [])] → (∀ i, i < sh.length → eA (eN E [.inl (k, N, [])] (fun _ => q)) i = eA E i) → eA (eN E [.inl (k, N, [])] (fun _ => q)) sh.length = q → G p l e R s m args below meth c (eN E [.inl (k, N, [])] (fun _ => q)) nL (cells + 1) (slots + N) Q (pc + 2) L (.ref q :: st) M) : G p l e R s m args below meth c E nL cells slots Q pc L (.int n :: st) M := by
  subst hH
  obtain ⟨hx, hb, hml, hown, hts, hlk, h7, hK, hA, hT, hN'⟩ := id C
  intro H locs ls hP hS hl0
  refine va_newa hx hb (hts _ harr) hty hK hP (hA.D M) hS (fun q hq => Nat.le_trans h7 hq) ha hn hN hby hc hs hd (fun q cA H1 hK1 hP1 hD1 hS1 => ?_)
  have ec : cA = eC E k := ra_eq hnm (hK1.2 7 (cA, ty) rfl).2 (hK.2 k _ (hk (eC E))).2
  subst ec
  have e1 : eW (eN E [.inl (k, N, [])] (fun _ => q)) M = eW E M ++ [(q, .inl (eC E k, a0))] := by
    show mkW (eH E ++ [Sum.inl (k, N, [])]) (extF (eA E) (eH E).length (fun _ => q)) (eC E) M = _
    rw [mkW_ext hw]
    congr 1
    show [(q, cel _ _ _ (0 + (eH E).length) (Sum.inl (k, N, [])))] = _
    rw [Nat.zero_add]
    show [(q, Sum.inl (eC E k, acl _ M (eH E).length (k, N, [])))] = _
    rw [hz]
  rw [← e1] at hP1 hD1
  exact kk q (C.to (Adr.ofD hD1)) rfl (fun k hk => extF_lt (ad := eA E) (f := fun _ => q) (n := (eH E).length) hk) (extF_new (ad := eA E) (n := (eH E).length)) H1 locs ls hP1 hS1 hl0
/-- a final field gets its cell -/
theorem G.putR (C : Cx own cc nL p R s m args meth c E) (hH : eH E = sh) {q ci k N t w : Nat} {Cn : String} {T : u_T} {ty : Nat → FieldType} {fs : List (Nat × Nat)} {a : Nat} {sh' : List Shp} (K : Cls ci Cn T N ty) (hs : sh[q]? = some (.inr (ci, fs))) (hz : fs[k]? = some (4, w)) (hk : k < N) (hl : Cond.fieldLink own index Cn (T k).2.1 (T k).2.2.1 ∈ tblG) (hfin : (T k).2.2.2 = true) (hnm : meth.name = "<init>") (hown' : Cn = own) (hn : narrow (ty k) (.ref a) = .ref a) (hf : fits (ty k) (.ref a) = true) (ha : eA E t = a) {b : Nat} (hb' : eA E q = b) (hsh : sh' = sh.set q (.inr (ci, fs.set k (3, t)))) (hd : decode cc pc = .ok (.putfield index, 3))
    (kk : Cx own cc nL p R s m args meth c (eP E sh') → G p l e R s m args below meth c (eP E sh') nL cells slots Q (pc + 3) L st M) : G p l e R s m args below meth c E nL cells slots Q pc L (.ref a :: .ref b :: st) M := by
  subst hH; subst hsh; subst ha; subst hb'
  obtain ⟨hx, hb, hml, hown, hts, hlk, h7, hK, hA, hT, hN'⟩ := id C
  intro H locs ls hP hS hl0
  refine va_putF hx hb hts K.2.1 ty K.2.2.1 K.2.2.2.1 hown hK hP (hA.D M) hS q (mkW_at hs) K.1 k hk (hts _ hl) (fun x h => by rw [K.2.2.2.2 k hk] at h; exact h) hfin hnm ((K.2.2.2.2 k hk).trans hown') (K.2.2.1 k hk) hn hf (by rw [List.length_mapIdx]; exact (List.getElem?_eq_some_iff.mp hz).1) hd (fun H1 locs1 hP1 hD1 hS1 => ?_)
  have e1 : (eW E M).set q (eA E q, .inr (ci, (fs.mapIdx (fvl (eA E) M q)).set k (.ref (eA E t)))) = eW (eP E ((eH E).set q (.inr (ci, fs.set k (3, t))))) M := by
    apply List.ext_getElem?
    intro j
    have hq : q < (eH E).length := (List.getElem?_eq_some_iff.mp hs).1
    rw [List.getElem?_set]
    by_cases hj : q = j
    · subst hj
      rw [if_pos rfl, if_pos (by rw [mkW_len]; exact hq)]
      rw [mkW_at (sh := (eH E).set q (.inr (ci, fs.set k (3, t)))) (q := .inr (ci, fs.set k (3, t))) (by rw [List.getElem?_set, if_pos rfl, if_pos hq])]
      congr 3
      show (ci, (List.mapIdx (fvl (eA E) M q) fs).set k (Value.ref (eA E t))) = (ci, List.mapIdx (fvl (eA E) M q) (fs.set k (3, t)))
      congr 1
      apply List.ext_getElem?
      intro i
      rw [List.getElem?_set, List.getElem?_mapIdx, List.getElem?_mapIdx, List.getElem?_set]
      by_cases hi : k = i
      · subst hi
        have hkl : k < fs.length := (List.getElem?_eq_some_iff.mp hz).1
        rw [if_pos rfl, if_pos (by simpa using hkl), if_pos rfl, if_pos hkl]
        rfl
      · rw [if_neg hi, if_neg hi]
    · rw [if_neg hj]
      have hj2 : ((eH E).set q (.inr (ci, fs.set k (3, t))))[j]? = (eH E)[j]? := by rw [List.getElem?_set, if_neg hj]
      show ((eH E).mapIdx (fun c z => (eA E c, cel (eA E) (eC E) M c z)))[j]? = (((eH E).set q (.inr (ci, fs.set k (3, t)))).mapIdx (fun c z => (eA E c, cel (eA E) (eC E) M c z)))[j]?
      rw [List.getElem?_mapIdx, List.getElem?_mapIdx, hj2]
  rw [e1] at hP1 hD1
  exact kk (C.to (Adr.ofD hD1)) H1 locs1 ls hP1 hS1 hl0
theorem G.objInit (C : Cx own cc nL p R s m args meth c E) (hl : Cond.methodLink own index Lib.objectInit ∈ tblG) (h1 : Cond.instanceMethod Lib.objectInit ∈ tblG) (h2 : Cond.code Lib.objectInit ⟨#[0xb1]⟩ 1 none ∈ tblG) (hR : 1 ≤ R.frames ∧ 32 ≤ R.locals) (hcat : (st.map fun v => v.category).sum ≤ 8) {a : Nat} (hd : decode cc pc = .ok (.invokespecial index, 3)) (kk : G p l e R s m args below meth c E nL cells slots Q (pc + 3) L st M) : G p l e R s m args below meth c E nL cells slots Q pc L (.ref a :: st) M := by
  obtain ⟨hx, hb, hml, hown, hts, -⟩ := id C
  exact fun H locs ls hP hS hl0 => W.objInit hx hb hown (hts _ hl) (hts _ h1) (hts _ h2) rfl (hl0.1.trans hml.symm) rfl hd hR.1 (by show 2 * 0 + _ + 12 ≤ _; omega) (kk H locs ls hP hS hl0)
end GK
/-- what a constructor leaves: its own cell's fields laid, new cells behind the others -/
def QK (E : Ev) (sh' zs : List Shp) (M' : Mm) : Array Value → State → Outcome → State → Prop := fun _ st o t =>
  o = .returned none ∧ ∃ f : Nat → Nat, va_P (eD E) vwCl (eW (eN (eP E sh') zs f) M') t.heap ∧ va_D (eF E) (eW (eN (eP E sh') zs f) M') ∧ va_F (eF E) st t
def rmK (d mc ms : Nat) : Room := { frames := d, cells := mc, slots := ms, locals := 64 * d }
def MetK (l : Launch) (y : MethodName) (cc : ByteArray) (mL d mc ms : Nat) (E : Ev) (As : List Value) (M : Mm) (sh' zs : List Shp) (M' : Mm) : Prop :=
  Met l y (wsY y cc mL none) (rmK d mc ms) (va_Pc As (Rep E M)) (QK E sh' zs M') mc ms (eF E)
def QKR (below : List Frame) (args : Array Value) (s : State) (E : Ev) (mc ms : Nat) (sh' zs : List Shp) (M : Mm) : State → Prop := MQ below (QK E sh' zs M) args s mc ms (eF E)
theorem MetK.of {l : Launch} {y : MethodName} {cc : ByteArray} {mL d mc ms : Nat} {E : Ev} {As : List Value} {M M' : Mm} {sh' zs : List Shp} (hy : plainFor y = true) (hn : (lg_sl As).length ≤ mL)
    (body : ∀ (p : Program) (e : Env) (s : State) (m : MethodId) (below : List Frame) (meth : Method) (c : Code), Cx y.cls cc mL p (rmK d mc ms) s m As.toArray meth c E → meth.sig.returnType = none → meth.name = y.name →
      G p l e (rmK d mc ms) s m As.toArray below meth c E mL 0 0 (QKR below As.toArray s E mc ms sh' zs M') 0 (lv_args 0 As) [] M) : MetK l y cc mL d mc ms E As M sh' zs M' := by
  refine va_MetF (cc := cc) (maxL := mL) (ret := none) hy rfl ?_
  intro p e s m args below meth c s₁ B hml hv
  obtain ⟨rfl, h1, h2, h3, h4, h5, h6⟩ := hv
  have hts := atoms_spec (ws := wsY y cc mL none) B.pre
  rw [lg_entry_eq]
  exact body p e s m below meth c ⟨B.exec, B.bytes, hml, findClass_of_methodNamed B.named, fun w hw => hts w (List.mem_cons_of_mem _ hw), B.notSynchronized, h1, h3, h4, h5, h6⟩ B.returns (name_of_methodNamed B.named B.method).1 s.heap [] _ h2 va_S.rf (lv_entry As hn)
section GK2
variable {p : Program} {l : Launch} {e : Env} {R : Room} {s : State} {m : MethodId} {args : Array Value} {below : List Frame} {meth : Method} {c : Code} {E E0 : Ev} {nL cells slots : Nat} {Q : State → Prop} {own : String} {cc : ByteArray} {pc : Nat} {L : List (Nat × Value)} {st rest : List Value} {M M' : Mm} {sh sh' zs : List Shp} {index d mc ms mL n : Nat} {y : MethodName} {bytes : ByteArray}
/-- the constructor's end: the surroundings are the first ones', grown -/
theorem G.kret (C : Cx own cc nL p R s m args meth c E) (h1 : E.1 = E0.1) (h2 : E.2.1 = E0.2.1) (h3 : E.2.2.1 = E0.2.2.1) (hsh : eH E = sh' ++ zs) (hw : (sh' ++ zs).all (wfZ (sh' ++ zs).length) = true) (ha : ∀ k, k < sh'.length → eA E k = eA E0 k) (hr : meth.sig.returnType = none) (hd : decode cc pc = .ok (.return_, 1)) : G p l e R s m args below meth c E nL cells slots (QKR below args s E0 cells slots sh' zs M) pc L [] M := by
  intro H locs ls hP hS hl0
  have hA := C.2.2.2.2.2.2.2.2.1
  have hD := hA.D M
  have eF' : eF E = eF E0 := by unfold eF eS; rw [h3]
  have e1 : eW E M = eW (eN (eP E0 sh') zs (fun j => eA E (j + sh'.length))) M := by
    show mkW (eH E) (eA E) (eC E) M = mkW (sh' ++ zs) (extF (eA E0) sh'.length (fun j => eA E (j + sh'.length))) (eC E0) M
    rw [hsh, show eC E = eC E0 from h2]
    refine mkW_ad (Nat.le_refl _) hw (fun k hk => ?_)
    unfold extF
    by_cases hk' : k < sh'.length
    · rw [if_pos hk', ha k hk']
    · rw [if_neg hk']
      show eA E k = eA E (k - sh'.length + sh'.length)
      rw [Nat.sub_add_cancel (by omega)]
  rw [e1] at hP hD
  rw [show eD E = eD E0 from h1] at hP
  rw [eF'] at hD hS
  exact W.vret C.1 C.2.1 hr (fun t ht _ => ⟨rfl, _, by rw [ht]; exact hP, hD, hS.F ht⟩) hS.2.2 hd C.2.2.2.2.2.1
theorem G.callK {a : Nat} (C : Cx own cc nL p R s m args meth c E) (hM : MetK l y bytes mL d mc ms E [.ref a] M sh' zs M') (hc : Cond.code y bytes mL none ∈ tblG ∧ Cond.initialized y.cls ∈ tblG ∧ okY y 0 = true ∧ d + 1 ≤ R.frames ∧ 8 + (mL + 11) + 64 * d ≤ R.locals) (hin : Cond.instanceMethod y ∈ tblG) (hnm : y.name = "<init>") (hl : Cond.methodLink own index y ∈ tblG ∨ ∃ host, Cond.methodLinkNest own index y host ∈ lw_tbl) (hcat : (rest.map fun v => v.category).sum ≤ 8) (hd : decode cc pc = .ok (.invokespecial index, 3)) (h0 : cells + mc ≤ R.cells ∧ slots + ms ≤ R.slots)
    (hsl : sh'.length = (eH E).length) (kk : ∀ f : Nat → Nat, Cx own cc nL p R s m args meth c (eN (eP E sh') zs f) → eH (eN (eP E sh') zs f) = sh' ++ zs → (∀ k, k < sh'.length → eA (eN (eP E sh') zs f) k = eA E k) → G p l e R s m args below meth c (eN (eP E sh') zs f) nL (cells + mc) (slots + ms) Q (pc + 3) L rest M') : G p l e R s m args below meth c E nL cells slots Q pc L (.ref a :: rest) M := by
  obtain ⟨h1, h2, h3, h4, h5⟩ := hc
  obtain ⟨hx, hb, hml, hown, hts, -, -, -, -, -, hN⟩ := id C
  intro H locs ls hP hS hl0 T hT X
  have hr : va_Run p l e R s m args below meth c H locs cells slots mc ms (F0 m pc ls (.ref a :: rest)) rest (QK E sh' zs M' [Value.ref a].toArray) (eF E) := by
    rcases hl with hl | ⟨host, hl⟩
    · exact va_runI (As := []) ⟨hx, hb, hml, hown, hts⟩ hM ⟨callB_of 0 hts (wsY_good h1) rfl rfl rfl (hts _ h2) (hts _ hl) (okY_s h3) ⟨h4, h5⟩, hnm, hts _ hin⟩ ⟨blindP, fun U hU hW => ⟨rfl, repU C hP hS hU hW⟩⟩ rfl rfl hl0.1 rfl (lv_room hcat) hd h0
    · exact va_runIN (As := []) ⟨hx, hb, hml, hown, hts⟩ hM ⟨va_cnB 0 hts (wsY_good h1) rfl rfl rfl (hN _ hl rfl) (hts _ h2) (okY_s h3) ⟨h4, h5⟩, hnm, hts _ hin⟩ ⟨blindP, fun U hU hW => ⟨rfl, repU C hP hS hU hW⟩⟩ rfl rfl hl0.1 rfl (lv_room hcat) hd h0
  obtain ⟨v, st₀, t, T', Lc, g0, X', hL, e1, e2, ⟨hv, f, hP', hD', hF⟩, stp⟩ := hr T hT X
  cases hv
  obtain ⟨t2, a1, b1⟩ := kk f (C.to (Adr.ofD hD')) rfl (fun k hk => extF_lt hk) T'.heap (locs ++ Lc) ls (by rw [e1]; exact hP') (keepS g0 e1 hS hL hF) hl0 T' rfl X'
  exact ⟨t2, stp t2 a1, b1⟩
theorem G.putIa {q ci k N w b : Nat} {Cn : String} {T : u_T} {ty : Nat → FieldType} {fs : List (Nat × Nat)} {v : Int32} (C : Cx own cc nL p R s m args meth c E) (hH : eH E = sh) (hq : eA E q = b) (K : Cls ci Cn T N ty) (hs : sh[q]? = some (.inr (ci, fs))) (hz : fs[k]? = some (0, w)) (hk : k < N) (hl : Cond.fieldLink own index Cn (T k).2.1 (T k).2.2.1 ∈ tblG) (hty : ty k = .int) (hfin : (T k).2.2.2 = false) (hd : decode cc pc = .ok (.putfield index, 3)) (hM : M' = wI M q k v) (kk : G p l e R s m args below meth c E nL cells slots Q (pc + 3) L st M') : G p l e R s m args below meth c E nL cells slots Q pc L (.int v :: .ref b :: st) M := by
  subst hq; subst hH
  exact G.putI C K hs hz hk hl hty hfin hd hM kk
theorem G.getRa {q ci k N w b : Nat} {Cn : String} {T : u_T} {ty : Nat → FieldType} {fs : List (Nat × Nat)} (C : Cx own cc nL p R s m args meth c E) (hH : eH E = sh) (hq : eA E q = b) (K : Cls ci Cn T N ty) (hs : sh[q]? = some (.inr (ci, fs))) (hz : fs[k]? = some (3, w)) (hk : k < N) (hl : Cond.fieldLink own index Cn (T k).2.1 (T k).2.2.1 ∈ tblG) (hd : decode cc pc = .ok (.getfield index, 3)) (kk : G p l e R s m args below meth c E nL cells slots Q (pc + 3) L (.ref (eA E w) :: st) M) : G p l e R s m args below meth c E nL cells slots Q pc L (.ref b :: st) M := by
  subst hq; subst hH
  exact G.getR C K hs hz hk hl hd kk
/-- an array of objects, all null yet -/
theorem G.newQ (C : Cx own cc nL p R s m args meth c E) (hH : eH E = sh) (hw : sh.all (wfZ sh.length) = true) {N : Nat} {i : Int32} (hcl : Cond.classLink own index RX0 ∈ tblG) (hov : va_AO RX0 s) (hn : ¬ i < 0) (hN : i.toNatClampNeg = N) (hby : N * 4 ≤ 536870912) (hc : cells + 1 ≤ R.cells) (hs : slots + N ≤ R.slots) (hd : decode cc pc = .ok (.anewarray index, 3))
    (kk : ∀ q : Nat, Cx own cc nL p R s m args meth c (eN E [.inl (3, N, [])] (fun _ => q)) → eH (eN E [.inl (3, N, [])] (fun _ => q)) = sh ++ [.inl (3, N, [])] → (∀ i, i < sh.length → eA (eN E [.inl (3, N, [])] (fun _ => q)) i = eA E i) → eA (eN E [.inl (3, N, [])] (fun _ => q)) sh.length = q → G p l e R s m args below meth c (eN E [.inl (3, N, [])] (fun _ => q)) nL (cells + 1) (slots + N) Q (pc + 3) L (.ref q :: st) M) : G p l e R s m args below meth c E nL cells slots Q pc L (.int i :: st) M := by
  subst hH
  obtain ⟨hx, hb, hml, hown, hts, hlk, h7, hK, hA, hT, hN'⟩ := id C
  intro H locs ls hP hS hl0
  refine va_newq hx hb hown (hts _ hcl) hov hK hP (hA.D M) hS (fun q hq => Nat.le_trans h7 hq) hn hN hby hc hs hd (fun q cA H1 hK1 hP1 hD1 hS1 => ?_)
  have ec : cA = eC E 3 := ra_eq (nm := "[L" ++ RX0 ++ ";") (fun x hx => va_nmO hx rfl) (hK1.2 7 (cA, .object RX0) rfl).2 (hK.2 3 (eC E 3, .object RX0) rfl).2
  subst ec
  have e1 : eW (eN E [.inl (3, N, [])] (fun _ => q)) M = eW E M ++ [(q, .inl (eC E 3, N, .inr (.inr (.inr (.inr (fun _ => none))))))] := by
    show mkW (eH E ++ [Sum.inl (3, N, [])]) (extF (eA E) (eH E).length (fun _ => q)) (eC E) M = _
    rw [mkW_ext hw]
    rfl
  rw [← e1] at hP1 hD1
  exact kk q (C.to (Adr.ofD hD1)) rfl (fun k hk => extF_lt (ad := eA E) (f := fun _ => q) (n := (eH E).length) hk) (extF_new (ad := eA E) (n := (eH E).length)) H1 locs ls hP1 hS1 hl0
/-- the next place of an array of objects -/
theorem G.astR (C : Cx own cc nL p R s m args meth c E) (hH : eH E = sh) {q t N a b : Nat} {rs : List Nat} {fs : List (Nat × Nat)} {i : Int32} {sh2 : List Shp} (hq : eA E q = b) (ht : eA E t = a) (hs : sh[q]? = some (.inl (3, N, rs))) (hst : sh[t]? = some (.inr (0, fs))) (hi : inb i N = true) (hj : ix i = rs.length) (hsh : sh2 = sh.set q (.inl (3, N, rs ++ [t]))) (hd : decode cc pc = .ok (.aastore, 1))
    (kk : Cx own cc nL p R s m args meth c (eP E sh2) → G p l e R s m args below meth c (eP E sh2) nL cells slots Q (pc + 1) L st M) : G p l e R s m args below meth c E nL cells slots Q pc L (.ref a :: .int i :: .ref b :: st) M := by
  subst hH; subst hsh; subst hq; subst ht
  obtain ⟨hx, hb, hml, hown, hts, hlk, h7, hK, hA, hT, hN'⟩ := id C
  intro H locs ls hP hS hl0
  refine va_astq hx hb hK hP (hA.D M) hS q 3 t 0 (r := (RX0, TX0, 8)) (mkW_at hs) rfl (mkW_at hst) rfl (inb_in hi) hd (fun H1 locs1 hP1 hD1 hS1 => ?_)
  have e1 : (eW E M).set q (eA E q, .inl (eC E 3, N, .inr (.inr (.inr (.inr (va_up (fun j => (rs[j]?).map (eA E)) i.toNatClampNeg (some (eA E t)))))))) = eW (eP E ((eH E).set q (.inl (3, N, rs ++ [t])))) M := by
    have hql : q < (eH E).length := (List.getElem?_eq_some_iff.mp hs).1
    apply List.ext_getElem?
    intro j
    rw [List.getElem?_set]
    by_cases hj' : q = j
    · subst hj'
      rw [if_pos rfl, if_pos (by rw [mkW_len]; exact hql)]
      rw [mkW_at (sh := (eH E).set q (.inl (3, N, rs ++ [t]))) (q := .inl (3, N, rs ++ [t])) (by rw [List.getElem?_set, if_pos rfl, if_pos hql])]
      have ef : va_up (fun j => (rs[j]?).map (eA E)) i.toNatClampNeg (some (eA E t)) = fun j => ((rs ++ [t])[j]?).map (eA E) := by
        funext k
        unfold va_up
        have hj2 : i.toNatClampNeg = rs.length := hj
        by_cases hk : k = i.toNatClampNeg
        · rw [if_pos hk, hk, hj2, List.getElem?_append_right (Nat.le_refl _), Nat.sub_self]
          rfl
        · rw [if_neg hk]
          by_cases hlt : k < rs.length
          · rw [List.getElem?_append_left hlt]
          · have h1 : (rs ++ [t])[k]? = none := List.getElem?_eq_none (by rw [List.length_append]; show rs.length + 1 ≤ k; omega)
            have h2 : rs[k]? = none := List.getElem?_eq_none (by omega)
            show (rs[k]?).map (eA E) = _
            rw [h1, h2]
      rw [ef]
      rfl
    · rw [if_neg hj']
      have hj2 : ((eH E).set q (.inl (3, N, rs ++ [t])))[j]? = (eH E)[j]? := by rw [List.getElem?_set, if_neg hj']
      show ((eH E).mapIdx (fun c z => (eA E c, cel (eA E) (eC E) M c z)))[j]? = (((eH E).set q (.inl (3, N, rs ++ [t]))).mapIdx (fun c z => (eA E c, cel (eA E) (eC E) M c z)))[j]?
      rw [List.getElem?_mapIdx, List.getElem?_mapIdx, hj2]
  rw [show (eW E M).set q (eA E q, Sum.inl (eC E 3, N, Sum.inr (Sum.inr (Sum.inr (Sum.inr (va_up (fun j => (rs[j]?).map (eA E)) i.toNatClampNeg (some (eA E t)))))))) = _ from e1] at hP1 hD1
  exact kk (C.to (Adr.ofD hD1)) H1 locs1 ls hP1 hS1 hl0
theorem rep_mapIdx {α β : Type} (N : Nat) (x : α) (h : Nat → α → β) : (List.replicate N x).mapIdx h = (List.range N).map (fun i => h i x) := by
  apply List.ext_getElem?
  intro i
  rw [List.getElem?_mapIdx, List.getElem?_map, List.getElem?_replicate]
  by_cases hi : i < N
  · simp [hi]
  · simp [hi]
theorem pl_up {f : Nat → va_E} {l : List Nat} {v : va_E} : va_pl l (vr_up f l v) = l.map (fun a => (a, v)) := by
  unfold va_pl
  exact List.map_congr_left (fun a ha => by rw [vr_up_in ha])
/-- new T[N][K] -/
theorem G.newM (C : Cx own cc nL p R s m args meth c E) (hH : eH E = sh) (hw : sh.all (wfZ sh.length) = true) {kO k0 N K : Nat} {ty : FieldType} {i k : Int32} {z : vp_A} {nm nmO : String} (hcl : Cond.classLink own index ("[" ++ (FieldType.array ty).toString) ∈ tblG) (hov : va_AOA ty s) (harr : Cond.arrayClass ty ∈ tblG) (hkO : ∀ cA : Nat → ClassId, (tysOf cA)[kO]? = some (cA kO, .array ty)) (hk0 : ∀ cA : Nat → ClassId, (tysOf cA)[k0]? = some (cA k0, ty)) (hnmO : ∀ x : ClassId, va_RA s x (.array ty) → s.vm.findClass nmO = some x) (hnm : ∀ x : ClassId, va_RA s x ty → s.vm.findClass (FieldType.array ty).toString = some x) (hacl : ∀ (ad : Nat → Nat) (c : Nat) (rs : List Nat), acl ad M c (kO, N, rs) = (N, .inr (.inr (.inr (.inr (fun j => (rs[j]?).map ad))))))
    (hz : ∀ (ad : Nat → Nat) (j : Nat), acl ad M (j + 1 + sh.length) (k0, K, []) = z) (hzc : ∀ c : ClassId, Jvm.Free.Multi.innerC c K (defaultValue ty) = vp_cell c z) (hn : ¬ i < 0) (hk : ¬ k < 0) (hN : i.toNatClampNeg = N) (hM : k.toNatClampNeg = K) (hb1 : N * 4 ≤ 536870912) (hb2 : K * componentBytes ty ≤ 536870912) (hb3 : K ≤ 536870912) (hdf : fits ty (defaultValue ty) = true) (hdd : (defaultValue ty).isDefault = true) (hc : cells + (1 + N) ≤ R.cells) (hs : slots + (N + N * K) ≤ R.slots) (hd : decode cc pc = .ok (.multianewarray index 2, 4))
    (kk : ∀ (q : Nat) (f : Nat → Nat), Cx own cc nL p R s m args meth c (eN E (.inl (kO, N, (List.range N).map (fun j => sh.length + 1 + j)) :: List.replicate N (.inl (k0, K, []))) f) → eH (eN E (.inl (kO, N, (List.range N).map (fun j => sh.length + 1 + j)) :: List.replicate N (.inl (k0, K, []))) f) = sh ++ (.inl (kO, N, (List.range N).map (fun j => sh.length + 1 + j)) :: List.replicate N (.inl (k0, K, []))) → (∀ i, i < sh.length → eA (eN E (.inl (kO, N, (List.range N).map (fun j => sh.length + 1 + j)) :: List.replicate N (.inl (k0, K, []))) f) i = eA E i) → eA (eN E (.inl (kO, N, (List.range N).map (fun j => sh.length + 1 + j)) :: List.replicate N (.inl (k0, K, []))) f) sh.length = q →
      G p l e R s m args below meth c (eN E (.inl (kO, N, (List.range N).map (fun j => sh.length + 1 + j)) :: List.replicate N (.inl (k0, K, []))) f) nL (cells + 1 + N) (slots + N + N * K) Q (pc + 4) L (.ref q :: st) M) : G p l e R s m args below meth c E nL cells slots Q pc L (.int k :: .int i :: st) M := by
  subst hH
  obtain ⟨hx, hb, hml, hown, hts, hlk, h7, hK, hA, hT, hN'⟩ := id C
  intro H locs ls hP hS hl0
  have hcy := hnm _ (hK.2 k0 _ (hk0 (eC E))).2
  refine va_mna (X := eW E M) (L := []) (f := fun _ => .inl (eC E k0, z)) hx hb hown (hts _ hcl) hov (hts _ harr) hcy hK (by rw [show va_pl [] (fun _ => (Sum.inl (eC E k0, z) : va_E)) = [] from rfl, List.append_nil]; exact hP) (by rw [show va_pl [] (fun _ => (Sum.inl (eC E k0, z) : va_E)) = [] from rfl, List.append_nil]; exact hA.D M) hS (fun q hq => Nat.le_trans h7 hq) hn hk hN hM hb1 hb2 hb3 hdf hdd hc hs hzc hd (fun q r cA H1 hr1 hr2 hK1 hP1 hD1 hS1 => ?_)
  have ec : cA = eC E kO := ra_eq hnmO (hK1.2 7 (cA, .array ty) rfl).2 (hK.2 kO _ (hkO (eC E))).2
  subst ec
  have e1 : eW (eN E (.inl (kO, N, (List.range N).map (fun j => (eH E).length + 1 + j)) :: List.replicate N (.inl (k0, K, []))) (fun j => if j = 0 then q else r (j - 1))) M = (eW E M ++ [(q, .inl (eC E kO, N, .inr (.inr (.inr (.inr (fun i => if i < N then some (r i) else none))))))]) ++ va_pl ([] ++ (List.range N).map r) (vr_up (fun _ => .inl (eC E k0, z)) ((List.range N).map r) (.inl (eC E k0, z))) := by
    show mkW (eH E ++ (.inl (kO, N, (List.range N).map (fun j => (eH E).length + 1 + j)) :: List.replicate N (.inl (k0, K, [])))) (extF (eA E) (eH E).length (fun j => if j = 0 then q else r (j - 1))) (eC E) M = _
    rw [mkW_ext hw, List.append_assoc]
    congr 1
    rw [List.nil_append, pl_up, List.mapIdx_cons, rep_mapIdx, List.map_map]
    show _ :: _ = _ :: _
    congr 1
    · show (q, Sum.inl (eC E kO, acl _ M _ (kO, N, _))) = _
      rw [hacl]
      congr 8
      funext j
      rw [List.getElem?_map]
      by_cases hj : j < N
      · rw [if_pos hj]
        rw [List.getElem?_range hj]
        show some (extF (eA E) (eH E).length (fun j => if j = 0 then q else r (j - 1)) ((eH E).length + 1 + j)) = some (r j)
        congr 1
        unfold extF
        have e9 : (eH E).length + 1 + j - (eH E).length = j + 1 := by omega
        rw [if_neg (by omega), e9]
        rfl
      · simp [hj]
    · apply List.map_congr_left
      intro j _
      show (r (j + 1 - 1), Sum.inl (eC E k0, acl _ M (j + 1 + (eH E).length) (k0, K, []))) = _
      rw [hz]
      rfl
  rw [← e1] at hP1 hD1
  exact kk q _ (C.to (Adr.ofD hD1)) rfl (fun k hk => extF_lt (ad := eA E) (f := (fun j => if j = 0 then q else r (j - 1))) (n := (eH E).length) hk) (show extF (eA E) (eH E).length (fun j => if j = 0 then q else r (j - 1)) (eH E).length = q by unfold extF; rw [if_neg (Nat.lt_irrefl _), Nat.sub_self]; rfl) H1 locs ls hP1 hS1 hl0
end GK2
