-- ===== constructors, with the surroundings as a variable =====
/-- from cell n on all is zero -/
def Zr (n : Nat) (M : Mm) : Prop := ∀ c, n ≤ c → ∀ i, M.1 c i = 0 ∧ M.2 c i = 0
theorem Zr.up {n k : Nat} {M : Mm} (h : Zr n M) (hk : n ≤ k) : Zr k M := fun c hc => h c (Nat.le_trans hk hc)
theorem Zr.w {n c i : Nat} {v : Int32} {M : Mm} (h : Zr n M) (hc : c < n) : Zr n (wI M c i v) := by
  intro a ha j
  refine ⟨?_, (h a ha j).2⟩
  show (if a = c ∧ j = i then v else M.1 a j) = 0
  rw [if_neg (by omega)]
  exact (h a ha j).1
theorem Zr.i {n : Nat} {M : Mm} (h : Zr n M) {c : Nat} (hc : n ≤ c) : M.1 c = fun _ => 0 := funext fun i => (h c hc i).1
theorem Zr.j {n : Nat} {M : Mm} (h : Zr n M) {c : Nat} (hc : n ≤ c) : M.2 c = fun _ => 0 := funext fun i => (h c hc i).2
def dfz (f : Nat × Nat) : Value := match f.1 with
  | 0 => .int 0
  | 1 => .long 0
  | 2 => .int 0
  | _ => .null
def nrf (z : List (Nat × Nat)) : Bool := z.all (fun f => !(f.1 == 3))
theorem blank_fs {ad : Nat → Nat} {M : Mm} {n : Nat} (h : Zr n M) {z : List (Nat × Nat)} (hz : nrf z = true) : z.mapIdx (fvl ad M n) = z.map dfz := by
  apply List.ext_getElem?
  intro j
  rw [List.getElem?_mapIdx, List.getElem?_map]
  cases hj : z[j]? with
  | none => rfl
  | some f =>
    have hf := List.all_eq_true.mp hz f (List.mem_of_getElem? hj)
    obtain ⟨k, t⟩ := f
    show some _ = some _
    congr 1
    have h1 := (h n (Nat.le_refl _) j)
    match k, hf with
    | 0, _ => show Value.int (M.1 n j) = .int 0; rw [h1.1]
    | 1, _ => show Value.long (M.2 n j) = .long 0; rw [h1.2]
    | 2, _ => show Value.int (M.1 n j) = .int 0; rw [h1.1]
    | 3, hf => exact Bool.noConfusion (show false = true from hf)
    | k + 4, _ => rfl
def okS (sh : List Shp) (n : Nat) : Bool := sh.length == n && sh.all (wfZ n)
theorem okS.l {sh : List Shp} {n : Nat} (h : okS sh n = true) : sh.length = n := by
  unfold okS at h
  rw [Bool.and_eq_true] at h
  exact eq_of_beq h.1
theorem okS.w {sh : List Shp} {n : Nat} (h : okS sh n = true) : sh.all (wfZ sh.length) = true := by
  rw [okS.l h]
  unfold okS at h
  rw [Bool.and_eq_true] at h
  exact h.2
/-- the same surroundings, but for shapes and for addresses from n on -/
def Sm (E E' : Ev) (n : Nat) : Prop := E'.1 = E.1 ∧ E'.2.1 = E.2.1 ∧ E'.2.2.1 = E.2.2.1 ∧ ∀ k, k < n → eA E' k = eA E k
theorem Sm.rf {E : Ev} {n : Nat} : Sm E E n := ⟨rfl, rfl, rfl, fun _ _ => rfl⟩
theorem Sm.tr {E E' E2 : Ev} {n k : Nat} (h : Sm E E' n) (g : Sm E' E2 k) (hk : n ≤ k) : Sm E E2 n := ⟨g.1.trans h.1, g.2.1.trans h.2.1, g.2.2.1.trans h.2.2.1, fun i hi => (g.2.2.2 i (Nat.lt_of_lt_of_le hi hk)).trans (h.2.2.2 i hi)⟩
theorem Sm.at {E E' : Ev} {n k a : Nat} (h : Sm E E' n) (hk : k < n) (ha : eA E k = a) : eA E' k = a := (h.2.2.2 k hk).trans ha
section GK3
variable {p : Program} {l : Launch} {e : Env} {R : Room} {s : State} {m : MethodId} {args : Array Value} {below : List Frame} {meth : Method} {c : Code} {E E0 : Ev} {nL cells slots : Nat} {Q : State → Prop} {own : String} {cc : ByteArray} {pc : Nat} {L : List (Nat × Value)} {st rest : List Value} {M M' : Mm} {sh sh2 : List Shp} {index d mc ms mL n n2 : Nat} {y : MethodName} {bytes : ByteArray}
theorem G.kO (C : Cx own cc nL p R s m args meth c E) (hH : eH E = sh) (ok : okS sh n = true) {ci N : Nat} {Cn : String} {T : u_T} {ty : Nat → FieldType} (K : Cls ci Cn T N ty) (z : List (Nat × Nat)) (hcl : Cond.classLink own index Cn ∈ tblG) (hin : Cond.instantiable Cn N ∈ tblG) (hini : Cond.initialized Cn ∈ tblG) (hZ : Zr n M) (hz : nrf z = true) (hfs : ∀ j, j < N → defaultValue (ty j) = vp_V (z.map dfz) j) (hc : cells + 1 ≤ R.cells) (hs : slots + N ≤ R.slots) (hd : decode cc pc = .ok (.new index, 3))
    (kk : ∀ (E' : Ev) (q : Nat), Cx own cc nL p R s m args meth c E' → eH E' = sh ++ [.inr (ci, z)] → Sm E E' n → eA E' n = q → G p l e R s m args below meth c E' nL (cells + 1) (slots + N) Q (pc + 3) L (.ref q :: st) M) : G p l e R s m args below meth c E nL cells slots Q pc L st M := by
  have hl := okS.l ok
  subst hl
  exact G.newO C hH (okS.w ok) K z (z.map dfz) hcl hin hini (fun ad => blank_fs hZ hz) hfs hc hs hd (fun q C' h1 h2 h3 => kk _ q C' h1 ⟨rfl, rfl, rfl, h2⟩ h3)
theorem G.kI (C : Cx own cc nL p R s m args meth c E) (hH : eH E = sh) (ok : okS sh n = true) {N : Nat} {i : Int32} (harr : Cond.arrayClass .int ∈ tblG) (hZ : Zr n M) (hn : ¬ i < 0) (hN : i.toNatClampNeg = N) (hby : N * 4 ≤ 536870912) (hc : cells + 1 ≤ R.cells) (hs : slots + N ≤ R.slots) (hd : decode cc pc = .ok (.newarray .int, 2))
    (kk : ∀ (E' : Ev) (q : Nat), Cx own cc nL p R s m args meth c E' → eH E' = sh ++ [.inl (0, N, [])] → Sm E E' n → eA E' n = q → G p l e R s m args below meth c E' nL (cells + 1) (slots + N) Q (pc + 2) L (.ref q :: st) M) : G p l e R s m args below meth c E nL cells slots Q pc L (.int i :: st) M := by
  have hl := okS.l ok
  subst hl
  exact G.newA (atype := .int) (ty := .int) (k := 0) (N := N) (nm := "[I") C hH (okS.w ok) (N, .inl (fun _ => 0)) harr rfl (fun _ => rfl) (fun _ h => va_nm_int h) (fun ad => by show (N, Sum.inl (M.1 sh.length)) = _; rw [hZ.i (Nat.le_refl _)]) (fun _ => rfl) hn hN hby hc hs hd (fun q C' h1 h2 h3 => kk _ q C' h1 ⟨rfl, rfl, rfl, h2⟩ h3)
theorem G.kJ (C : Cx own cc nL p R s m args meth c E) (hH : eH E = sh) (ok : okS sh n = true) {N : Nat} {i : Int32} (harr : Cond.arrayClass .long ∈ tblG) (hZ : Zr n M) (hn : ¬ i < 0) (hN : i.toNatClampNeg = N) (hby : N * 8 ≤ 536870912) (hc : cells + 1 ≤ R.cells) (hs : slots + N ≤ R.slots) (hd : decode cc pc = .ok (.newarray .long, 2))
    (kk : ∀ (E' : Ev) (q : Nat), Cx own cc nL p R s m args meth c E' → eH E' = sh ++ [.inl (1, N, [])] → Sm E E' n → eA E' n = q → G p l e R s m args below meth c E' nL (cells + 1) (slots + N) Q (pc + 2) L (.ref q :: st) M) : G p l e R s m args below meth c E nL cells slots Q pc L (.int i :: st) M := by
  have hl := okS.l ok
  subst hl
  exact G.newA (atype := .long) (ty := .long) (k := 1) (N := N) (nm := "[J") C hH (okS.w ok) (N, .inr (.inl (fun _ => 0))) harr rfl (fun _ => rfl) (fun _ h => va_nm_long h) (fun ad => by show (N, Sum.inr (Sum.inl (M.2 sh.length))) = _; rw [hZ.j (Nat.le_refl _)]) (fun _ => rfl) hn hN hby hc hs hd (fun q C' h1 h2 h3 => kk _ q C' h1 ⟨rfl, rfl, rfl, h2⟩ h3)
theorem G.kZ (C : Cx own cc nL p R s m args meth c E) (hH : eH E = sh) (ok : okS sh n = true) {N : Nat} {i : Int32} (harr : Cond.arrayClass .boolean ∈ tblG) (hZ : Zr n M) (hn : ¬ i < 0) (hN : i.toNatClampNeg = N) (hby : N * 1 ≤ 536870912) (hc : cells + 1 ≤ R.cells) (hs : slots + N ≤ R.slots) (hd : decode cc pc = .ok (.newarray .boolean, 2))
    (kk : ∀ (E' : Ev) (q : Nat), Cx own cc nL p R s m args meth c E' → eH E' = sh ++ [.inl (2, N, [])] → Sm E E' n → eA E' n = q → G p l e R s m args below meth c E' nL (cells + 1) (slots + N) Q (pc + 2) L (.ref q :: st) M) : G p l e R s m args below meth c E nL cells slots Q pc L (.int i :: st) M := by
  have hl := okS.l ok
  subst hl
  exact G.newA (atype := .boolean) (ty := .boolean) (k := 2) (N := N) (nm := "[Z") C hH (okS.w ok) (N, .inl (fun _ => 0)) harr rfl (fun _ => rfl) (fun _ h => va_nm_boolean h) (fun ad => by show (N, Sum.inl (M.1 sh.length)) = _; rw [hZ.i (Nat.le_refl _)]) (fun _ => rfl) hn hN hby hc hs hd (fun q C' h1 h2 h3 => kk _ q C' h1 ⟨rfl, rfl, rfl, h2⟩ h3)
theorem G.kQ (C : Cx own cc nL p R s m args meth c E) (hH : eH E = sh) (ok : okS sh n = true) {N : Nat} {i : Int32} (hcl : Cond.classLink own index RX0 ∈ tblG) (hn : ¬ i < 0) (hN : i.toNatClampNeg = N) (hby : N * 4 ≤ 536870912) (hc : cells + 1 ≤ R.cells) (hs : slots + N ≤ R.slots) (hd : decode cc pc = .ok (.anewarray index, 3))
    (kk : ∀ (E' : Ev) (q : Nat), Cx own cc nL p R s m args meth c E' → eH E' = sh ++ [.inl (3, N, [])] → Sm E E' n → eA E' n = q → G p l e R s m args below meth c E' nL (cells + 1) (slots + N) Q (pc + 3) L (.ref q :: st) M) : G p l e R s m args below meth c E nL cells slots Q pc L (.int i :: st) M := by
  have hl := okS.l ok
  subst hl
  exact G.newQ C hH (okS.w ok) hcl C.2.2.2.2.2.2.2.2.2.1.2.2.2.2.2.2.2.2.2.2.1 hn hN hby hc hs hd (fun q C' h1 h2 h3 => kk _ q C' h1 ⟨rfl, rfl, rfl, h2⟩ h3)
theorem G.kP (C : Cx own cc nL p R s m args meth c E) (hH : eH E = sh) {q ci k N t w : Nat} {Cn : String} {T : u_T} {ty : Nat → FieldType} {fs : List (Nat × Nat)} {a b : Nat} (K : Cls ci Cn T N ty) (hs : sh[q]? = some (.inr (ci, fs))) (hz : fs[k]? = some (4, w)) (hk : k < N) (hl : Cond.fieldLink own index Cn (T k).2.1 (T k).2.2.1 ∈ tblG) (hfin : (T k).2.2.2 = true) (hnm : meth.name = "<init>") (hown' : Cn = own) (hn : narrow (ty k) (.ref a) = .ref a) (hf : fits (ty k) (.ref a) = true) (ha : eA E t = a) (hb' : eA E q = b) (hsh : sh2 = sh.set q (.inr (ci, fs.set k (3, t)))) (hd : decode cc pc = .ok (.putfield index, 3))
    (kk : ∀ E' : Ev, Cx own cc nL p R s m args meth c E' → eH E' = sh2 → Sm E E' n → G p l e R s m args below meth c E' nL cells slots Q (pc + 3) L st M) : G p l e R s m args below meth c E nL cells slots Q pc L (.ref a :: .ref b :: st) M :=
  G.putR C hH K hs hz hk hl hfin hnm hown' hn hf ha hb' hsh hd (fun C' => kk _ C' rfl ⟨rfl, rfl, rfl, fun _ _ => rfl⟩)
theorem G.kA (C : Cx own cc nL p R s m args meth c E) (hH : eH E = sh) {q t N a b : Nat} {rs : List Nat} {fs : List (Nat × Nat)} {i : Int32} (hq : eA E q = b) (ht : eA E t = a) (hs : sh[q]? = some (.inl (3, N, rs))) (hst : sh[t]? = some (.inr (0, fs))) (hi : inb i N = true) (hj : ix i = rs.length) (hsh : sh2 = sh.set q (.inl (3, N, rs ++ [t]))) (hd : decode cc pc = .ok (.aastore, 1))
    (kk : ∀ E' : Ev, Cx own cc nL p R s m args meth c E' → eH E' = sh2 → Sm E E' n → G p l e R s m args below meth c E' nL cells slots Q (pc + 1) L st M) : G p l e R s m args below meth c E nL cells slots Q pc L (.ref a :: .int i :: .ref b :: st) M :=
  G.astR C hH hq ht hs hst hi hj hsh hd (fun C' => kk _ C' rfl ⟨rfl, rfl, rfl, fun _ _ => rfl⟩)
theorem G.kM (C : Cx own cc nL p R s m args meth c E) (hH : eH E = sh) (ok : okS sh n = true) {kO k0 N K : Nat} {ty : FieldType} {i k : Int32} {z : vp_A} {nm nmO : String} (zs : List Shp) (hcl : Cond.classLink own index ("[" ++ (FieldType.array ty).toString) ∈ tblG) (hov : va_AOA ty s) (harr : Cond.arrayClass ty ∈ tblG) (hkO : ∀ cA : Nat → ClassId, (tysOf cA)[kO]? = some (cA kO, .array ty)) (hk0 : ∀ cA : Nat → ClassId, (tysOf cA)[k0]? = some (cA k0, ty)) (hnmO : ∀ x : ClassId, va_RA s x (.array ty) → s.vm.findClass nmO = some x) (hnm : ∀ x : ClassId, va_RA s x ty → s.vm.findClass (FieldType.array ty).toString = some x) (hacl : ∀ (ad : Nat → Nat) (c : Nat) (rs : List Nat), acl ad M c (kO, N, rs) = (N, .inr (.inr (.inr (.inr (fun j => (rs[j]?).map ad))))))
    (hz : ∀ (ad : Nat → Nat) (c : Nat), n ≤ c → acl ad M c (k0, K, []) = z) (hzc : ∀ c : ClassId, Jvm.Free.Multi.innerC c K (defaultValue ty) = vp_cell c z) (hn : ¬ i < 0) (hk : ¬ k < 0) (hN : i.toNatClampNeg = N) (hM : k.toNatClampNeg = K) (hb1 : N * 4 ≤ 536870912) (hb2 : K * componentBytes ty ≤ 536870912) (hb3 : K ≤ 536870912) (hdf : fits ty (defaultValue ty) = true) (hdd : (defaultValue ty).isDefault = true) (hc : cells + (1 + N) ≤ R.cells) (hs : slots + (N + N * K) ≤ R.slots) (hd : decode cc pc = .ok (.multianewarray index 2, 4)) (hzs : .inl (kO, N, (List.range N).map (fun j => n + 1 + j)) :: List.replicate N (.inl (k0, K, [])) = zs)
    (kk : ∀ (E' : Ev) (q : Nat), Cx own cc nL p R s m args meth c E' → eH E' = sh ++ zs → Sm E E' n → eA E' n = q → G p l e R s m args below meth c E' nL (cells + 1 + N) (slots + N + N * K) Q (pc + 4) L (.ref q :: st) M) : G p l e R s m args below meth c E nL cells slots Q pc L (.int k :: .int i :: st) M := by
  have hl := okS.l ok
  subst hl; subst hzs
  exact G.newM (nm := "") C hH (okS.w ok) hcl hov harr hkO hk0 hnmO hnm hacl (fun ad j => hz ad _ (by omega)) hzc hn hk hN hM hb1 hb2 hb3 hdf hdd hc hs hd (fun q f C' h1 h2 h3 => kk _ q C' h1 ⟨rfl, rfl, rfl, h2⟩ h3)
/-- a constructor on the last of n cells: afterwards the shapes are sh2, the memory M' -/
def MetN (l : Launch) (y : MethodName) (cc : ByteArray) (mL d mc ms : Nat) (E : Ev) (As : List Value) (M : Mm) (n : Nat) (sh2 : List Shp) (M' : Mm) : Prop := MetK l y cc mL d mc ms E As M (sh2.take n) (sh2.drop n) M'
theorem G.kR (C : Cx own cc nL p R s m args meth c E) (sm : Sm E0 E n) (hH : eH E = sh) (ok : okS sh n2 = true) (hr : meth.sig.returnType = none) (hd : decode cc pc = .ok (.return_, 1)) : G p l e R s m args below meth c E nL cells slots (QKR below args s E0 cells slots (sh.take n) (sh.drop n) M) pc L [] M :=
  G.kret C sm.1 sm.2.1 sm.2.2.1 (by rw [List.take_append_drop]; exact hH) (by rw [List.take_append_drop]; exact okS.w ok) (fun k hk => sm.2.2.2 k (Nat.lt_of_lt_of_le hk (by rw [List.length_take]; exact Nat.min_le_left _ _))) hr hd
theorem G.kC {a : Nat} (C : Cx own cc nL p R s m args meth c E) (hM : MetN l y bytes mL d mc ms E [.ref a] M n sh2 M') (hH : eH E = sh) (ok : okS sh n = true) (ok2 : okS sh2 n2 = true) (hn : n ≤ n2) (hc : Cond.code y bytes mL none ∈ tblG ∧ Cond.initialized y.cls ∈ tblG ∧ okY y 0 = true ∧ d + 1 ≤ R.frames ∧ 8 + (mL + 11) + 64 * d ≤ R.locals) (hin : Cond.instanceMethod y ∈ tblG) (hnm : y.name = "<init>") (hl : Cond.methodLink own index y ∈ tblG ∨ ∃ host, Cond.methodLinkNest own index y host ∈ lw_tbl) (hcat : (rest.map fun v => v.category).sum ≤ 8) (hd : decode cc pc = .ok (.invokespecial index, 3)) (h0 : cells + mc ≤ R.cells ∧ slots + ms ≤ R.slots)
    (kk : ∀ E' : Ev, Cx own cc nL p R s m args meth c E' → eH E' = sh2 → Sm E E' n → G p l e R s m args below meth c E' nL (cells + mc) (slots + ms) Q (pc + 3) L rest M') : G p l e R s m args below meth c E nL cells slots Q pc L (.ref a :: rest) M := by
  have hlt : (sh2.take n).length = n := by rw [List.length_take, okS.l ok2]; exact Nat.min_eq_left hn
  refine G.callK C hM hc hin hnm hl hcat hd h0 (by rw [hlt, hH, okS.l ok]) (fun f C' h1 h2 => ?_)
  rw [hlt] at h2
  exact kk _ C' (h1.trans (List.take_append_drop n sh2)) ⟨rfl, rfl, rfl, h2⟩
end GK3
