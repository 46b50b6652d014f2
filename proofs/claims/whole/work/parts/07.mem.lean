section GM
variable {p : Program} {l : Launch} {e : Env} {R : Room} {s : State} {m : MethodId} {args : Array Value} {below : List Frame} {meth : Method} {c : Code} {E : Ev} {nL cells slots : Nat} {Q : State → Prop} {own : String} {cc : ByteArray} {pc : Nat} {L : List (Nat × Value)} {st : List Value} {M : Mm}
theorem cel_o {ad : Nat → Nat} {cA : Nat → ClassId} {q ci : Nat} {fs : List (Nat × Nat)} : cel ad cA M q (.inr (ci, fs)) = .inr (ci, fs.mapIdx (fvl ad M q)) := rfl
theorem fvl_get {ad : Nat → Nat} {q k : Nat} {fs : List (Nat × Nat)} {z : Nat × Nat} (h : fs[k]? = some z) : (fs.mapIdx (fvl ad M q))[k]? = some (fvl ad M q k z) := by
  rw [List.getElem?_mapIdx, h]
  rfl
/-- a class's rows: its place in vwCl, its table of fields, their types, its words -/
def Cls (ci : Nat) (Cn : String) (T : u_T) (N : Nat) (ty : Nat → FieldType) : Prop := vwCl[ci]? = some (Cn, T, N) ∧ (∀ w ∈ u_ws Cn T N, w ∈ tblG) ∧ (∀ k, k < N → parseFieldDescriptor (T k).2.2.1 = some (ty k)) ∧ (∀ a, a < N → ∀ b, b < N → a ≠ b → (T a).2.1 ≠ (T b).2.1) ∧ ∀ k, k < N → (T k).1 = Cn
theorem G.get (C : Cx own cc nL p R s m args meth c E) {q ci k N index : Nat} {Cn : String} {T : u_T} {ty : Nat → FieldType} {fs : List (Nat × Nat)} {z : Nat × Nat} (K : Cls ci Cn T N ty) (hs : (eH E)[q]? = some (.inr (ci, fs))) (hz : fs[k]? = some z) (hk : k < N) (hl : Cond.fieldLink own index Cn (T k).2.1 (T k).2.2.1 ∈ tblG) (hd : decode cc pc = .ok (.getfield index, 3))
    (kk : G p l e R s m args below meth c E nL cells slots Q (pc + 3) L (fvl (eA E) M q k z :: st) M) : G p l e R s m args below meth c E nL cells slots Q pc L (.ref (eA E q) :: st) M := by
  obtain ⟨hx, hb, -, hown, hts, -, -, hK, -⟩ := C
  intro H locs ls hP hS hl0
  exact va_get hx hb hts K.2.1 hown hK hP q (mkW_at hs) K.1 k hk (hts _ hl) (fun x h => by rw [K.2.2.2.2 k hk] at h; exact h) (fvl_get hz) hd (kk H locs ls hP hS hl0)
theorem G.getN (C : Cx own cc nL p R s m args meth c E) {q ci k N index : Nat} {Cn host : String} {T : u_T} {ty : Nat → FieldType} {fs : List (Nat × Nat)} {z : Nat × Nat} (K : Cls ci Cn T N ty) (hs : (eH E)[q]? = some (.inr (ci, fs))) (hz : fs[k]? = some z) (hk : k < N) (hl : Cond.fieldLinkNest own index Cn (T k).2.1 (T k).2.2.1 host ∈ lw_tbl) (hd : decode cc pc = .ok (.getfield index, 3))
    (kk : G p l e R s m args below meth c E nL cells slots Q (pc + 3) L (fvl (eA E) M q k z :: st) M) : G p l e R s m args below meth c E nL cells slots Q pc L (.ref (eA E q) :: st) M := by
  obtain ⟨hx, hb, -, hown, hts, -, -, hK, -, -, hN⟩ := C
  intro H locs ls hP hS hl0
  exact va_getN hx hb hts K.2.1 hown hK hP q (mkW_at hs) K.1 k hk (va_Nw.use rfl (hN _ hl rfl)) (fun x h => by rw [K.2.2.2.2 k hk] at h; exact h) (fvl_get hz) hd (kk H locs ls hP hS hl0)
/-- behind a store into a field -/
theorem put_after {q ci k : Nat} {fs : List (Nat × Nat)} {z : Nat × Nat} {v : Value} {M' : Mm} (hs : (eH E)[q]? = some (.inr (ci, fs))) (hz : fs[k]? = some z) (hv : v = fvl (eA E) M' q k z) (h1 : ∀ i y, i ≠ k → fvl (eA E) M q i y = fvl (eA E) M' q i y) (h2 : ∀ c' q', c' ≠ q → cel (eA E) (eC E) M c' q' = cel (eA E) (eC E) M' c' q') :
    (eW E M).set q (eA E q, .inr (ci, (fs.mapIdx (fvl (eA E) M q)).set k v)) = eW E M' :=
  mkW_set hs (by rw [fvl_set hz hv h1]; rfl) (fun c' q' hne _ => h2 c' q' hne)
theorem G.putI (C : Cx own cc nL p R s m args meth c E) {q ci k N index w : Nat} {Cn : String} {T : u_T} {ty : Nat → FieldType} {fs : List (Nat × Nat)} {v : Int32} {M' : Mm} (K : Cls ci Cn T N ty) (hs : (eH E)[q]? = some (.inr (ci, fs))) (hz : fs[k]? = some (0, w)) (hk : k < N) (hl : Cond.fieldLink own index Cn (T k).2.1 (T k).2.2.1 ∈ tblG) (hty : ty k = .int) (hfin : (T k).2.2.2 = false) (hd : decode cc pc = .ok (.putfield index, 3)) (hM : M' = wI M q k v)
    (kk : G p l e R s m args below meth c E nL cells slots Q (pc + 3) L st M') : G p l e R s m args below meth c E nL cells slots Q pc L (.int v :: .ref (eA E q) :: st) M := by
  subst hM
  obtain ⟨hx, hb, -, hown, hts, -, -, hK, hA, -⟩ := C
  intro H locs ls hP hS hl0
  refine va_put hx hb hts K.2.1 ty K.2.2.1 K.2.2.2.1 hown hK hP (hA.D M) hS q (mkW_at hs) K.1 k hk (hts _ hl) (fun x h => by rw [K.2.2.2.2 k hk] at h; exact h) hfin (hty ▸ K.2.2.1 k hk) rfl rfl (by rw [List.length_mapIdx]; exact (List.getElem?_eq_some_iff.mp hz).1) hd (fun H1 locs1 hP1 _ hS1 => ?_)
  rw [put_after (M' := wI M q k v) hs hz (by show _ = Value.int _; rw [wI_at]) (fun i y hi => fvl_wI hi) (fun c' q' hc => cel_wI hc)] at hP1
  exact kk H1 locs1 ls hP1 hS1 hl0
theorem G.putIN (C : Cx own cc nL p R s m args meth c E) {q ci k N index w : Nat} {Cn host : String} {T : u_T} {ty : Nat → FieldType} {fs : List (Nat × Nat)} {v : Int32} {M' : Mm} (K : Cls ci Cn T N ty) (hs : (eH E)[q]? = some (.inr (ci, fs))) (hz : fs[k]? = some (0, w)) (hk : k < N) (hl : Cond.fieldLinkNest own index Cn (T k).2.1 (T k).2.2.1 host ∈ lw_tbl) (hty : ty k = .int) (hfin : (T k).2.2.2 = false) (hd : decode cc pc = .ok (.putfield index, 3)) (hM : M' = wI M q k v)
    (kk : G p l e R s m args below meth c E nL cells slots Q (pc + 3) L st M') : G p l e R s m args below meth c E nL cells slots Q pc L (.int v :: .ref (eA E q) :: st) M := by
  subst hM
  obtain ⟨hx, hb, -, hown, hts, -, -, hK, hA, -, hN⟩ := C
  intro H locs ls hP hS hl0
  refine va_putN hx hb hts K.2.1 ty K.2.2.1 K.2.2.2.1 hown hK hP (hA.D M) hS q (mkW_at hs) K.1 k hk (va_Nw.use rfl (hN _ hl rfl)) (fun x h => by rw [K.2.2.2.2 k hk] at h; exact h) hfin (hty ▸ K.2.2.1 k hk) rfl rfl (by rw [List.length_mapIdx]; exact (List.getElem?_eq_some_iff.mp hz).1) hd (fun H1 locs1 hP1 _ hS1 => ?_)
  rw [put_after (M' := wI M q k v) hs hz (by show _ = Value.int _; rw [wI_at]) (fun i y hi => fvl_wI hi) (fun c' q' hc => cel_wI hc)] at hP1
  exact kk H1 locs1 ls hP1 hS1 hl0
/-- a boolean field: the value is 0 or 1 -/
theorem nz_ok {v : Int32} (h : v = 0 ∨ v = 1) : narrow .boolean (.int v) = .int v := by rcases h with rfl | rfl <;> rfl
theorem G.putZ (C : Cx own cc nL p R s m args meth c E) {q ci k N index w : Nat} {Cn : String} {T : u_T} {ty : Nat → FieldType} {fs : List (Nat × Nat)} {v : Int32} {M' : Mm} (K : Cls ci Cn T N ty) (hs : (eH E)[q]? = some (.inr (ci, fs))) (hz : fs[k]? = some (2, w)) (hk : k < N) (hl : Cond.fieldLink own index Cn (T k).2.1 (T k).2.2.1 ∈ tblG) (hty : ty k = .boolean) (hfin : (T k).2.2.2 = false) (hv : v = 0 ∨ v = 1) (hd : decode cc pc = .ok (.putfield index, 3)) (hM : M' = wI M q k v)
    (kk : G p l e R s m args below meth c E nL cells slots Q (pc + 3) L st M') : G p l e R s m args below meth c E nL cells slots Q pc L (.int v :: .ref (eA E q) :: st) M := by
  subst hM
  obtain ⟨hx, hb, -, hown, hts, -, -, hK, hA, -⟩ := C
  intro H locs ls hP hS hl0
  refine va_put hx hb hts K.2.1 ty K.2.2.1 K.2.2.2.1 hown hK hP (hA.D M) hS q (mkW_at hs) K.1 k hk (hts _ hl) (fun x h => by rw [K.2.2.2.2 k hk] at h; exact h) hfin (hty ▸ K.2.2.1 k hk) (nz_ok hv) (by rcases hv with rfl | rfl <;> rfl) (by rw [List.length_mapIdx]; exact (List.getElem?_eq_some_iff.mp hz).1) hd (fun H1 locs1 hP1 _ hS1 => ?_)
  rw [put_after (M' := wI M q k v) hs hz (by show _ = Value.int _; rw [wI_at]) (fun i y hi => fvl_wI hi) (fun c' q' hc => cel_wI hc)] at hP1
  exact kk H1 locs1 ls hP1 hS1 hl0
theorem G.putJ (C : Cx own cc nL p R s m args meth c E) {q ci k N index w : Nat} {Cn : String} {T : u_T} {ty : Nat → FieldType} {fs : List (Nat × Nat)} {v : Int64} {M' : Mm} (K : Cls ci Cn T N ty) (hs : (eH E)[q]? = some (.inr (ci, fs))) (hz : fs[k]? = some (1, w)) (hk : k < N) (hl : Cond.fieldLink own index Cn (T k).2.1 (T k).2.2.1 ∈ tblG) (hty : ty k = .long) (hfin : (T k).2.2.2 = false) (hd : decode cc pc = .ok (.putfield index, 3)) (hM : M' = wJ M q k v)
    (kk : G p l e R s m args below meth c E nL cells slots Q (pc + 3) L st M') : G p l e R s m args below meth c E nL cells slots Q pc L (.long v :: .ref (eA E q) :: st) M := by
  subst hM
  obtain ⟨hx, hb, -, hown, hts, -, -, hK, hA, -⟩ := C
  intro H locs ls hP hS hl0
  refine va_put hx hb hts K.2.1 ty K.2.2.1 K.2.2.2.1 hown hK hP (hA.D M) hS q (mkW_at hs) K.1 k hk (hts _ hl) (fun x h => by rw [K.2.2.2.2 k hk] at h; exact h) hfin (hty ▸ K.2.2.1 k hk) rfl rfl (by rw [List.length_mapIdx]; exact (List.getElem?_eq_some_iff.mp hz).1) hd (fun H1 locs1 hP1 _ hS1 => ?_)
  rw [put_after (M' := wJ M q k v) hs hz (by show _ = Value.long _; rw [wJ_at]) (fun i y hi => fvl_wJ hi) (fun c' q' hc => cel_wJ hc)] at hP1
  exact kk H1 locs1 ls hP1 hS1 hl0
-- ===== arrays =====
/-- is i a place of an array of length n -/
def inb (i : Int32) (n : Nat) : Bool := decide (0 ≤ i.toInt) && decide (i.toInt < n)
theorem inb_in {i : Int32} {n : Nat} (h : inb i n = true) : vp_in i n := by
  unfold inb at h
  rw [Bool.and_eq_true, decide_eq_true_eq, decide_eq_true_eq] at h
  exact vp_in_iff.mpr h
theorem G.iald (C : Cx own cc nL p R s m args meth c E) {q n : Nat} {rs : List Nat} {i : Int32} (hs : (eH E)[q]? = some (.inl (0, n, rs))) (hi : inb i n = true) (hd : decode cc pc = .ok (.iaload, 1))
    (kk : G p l e R s m args below meth c E nL cells slots Q (pc + 1) L (.int (M.1 q i.toNatClampNeg) :: st) M) : G p l e R s m args below meth c E nL cells slots Q pc L (.int i :: .ref (eA E q) :: st) M := by
  obtain ⟨hx, hb, -, hown, hts, -, -, hK, hA, -⟩ := C
  exact fun H locs ls hP hS hl0 => va_iald hx hb hK hP q 0 (mkW_at hs) rfl (inb_in hi) hd (kk H locs ls hP hS hl0)
theorem G.zald (C : Cx own cc nL p R s m args meth c E) {q n : Nat} {rs : List Nat} {i : Int32} (hs : (eH E)[q]? = some (.inl (2, n, rs))) (hi : inb i n = true) (hd : decode cc pc = .ok (.baload, 1))
    (kk : G p l e R s m args below meth c E nL cells slots Q (pc + 1) L (.int (M.1 q i.toNatClampNeg) :: st) M) : G p l e R s m args below meth c E nL cells slots Q pc L (.int i :: .ref (eA E q) :: st) M := by
  obtain ⟨hx, hb, -, hown, hts, -, -, hK, hA, -⟩ := C
  exact fun H locs ls hP hS hl0 => va_zald hx hb hK hP q 2 (mkW_at hs) rfl (inb_in hi) hd (kk H locs ls hP hS hl0)
theorem G.lald (C : Cx own cc nL p R s m args meth c E) {q n : Nat} {rs : List Nat} {i : Int32} (hs : (eH E)[q]? = some (.inl (1, n, rs))) (hi : inb i n = true) (hd : decode cc pc = .ok (.laload, 1))
    (kk : G p l e R s m args below meth c E nL cells slots Q (pc + 1) L (.long (M.2 q i.toNatClampNeg) :: st) M) : G p l e R s m args below meth c E nL cells slots Q pc L (.int i :: .ref (eA E q) :: st) M := by
  obtain ⟨hx, hb, -, hown, hts, -, -, hK, hA, -⟩ := C
  exact fun H locs ls hP hS hl0 => va_lald hx hb hK hP q 1 (mkW_at hs) rfl (inb_in hi) hd (kk H locs ls hP hS hl0)
theorem G.iast (C : Cx own cc nL p R s m args meth c E) {q n : Nat} {rs : List Nat} {i v : Int32} {M' : Mm} (hs : (eH E)[q]? = some (.inl (0, n, rs))) (hi : inb i n = true) (hd : decode cc pc = .ok (.iastore, 1)) (hM : M' = wI M q i.toNatClampNeg v)
    (kk : G p l e R s m args below meth c E nL cells slots Q (pc + 1) L st M') : G p l e R s m args below meth c E nL cells slots Q pc L (.int v :: .int i :: .ref (eA E q) :: st) M := by
  subst hM
  obtain ⟨hx, hb, -, hown, hts, -, -, hK, hA, -⟩ := C
  intro H locs ls hP hS hl0
  refine va_iast hx hb hK hP (hA.D M) hS q 0 (mkW_at hs) rfl (inb_in hi) hd (fun H1 locs1 hP1 _ hS1 => ?_)
  rw [mkW_set (M' := wI M q i.toNatClampNeg v) hs (by show _ = Sum.inl (_, _, Sum.inl ((wI M q i.toNatClampNeg v).1 q)); rw [wI_eq]) (fun c' q' hne _ => cel_wI hne)] at hP1
  exact kk H1 locs1 ls hP1 hS1 hl0
theorem G.zast (C : Cx own cc nL p R s m args meth c E) {q n : Nat} {rs : List Nat} {i v : Int32} {M' : Mm} (hs : (eH E)[q]? = some (.inl (2, n, rs))) (hi : inb i n = true) (hd : decode cc pc = .ok (.bastore, 1)) (hM : M' = wI M q i.toNatClampNeg (vp_nar .boolean v))
    (kk : G p l e R s m args below meth c E nL cells slots Q (pc + 1) L st M') : G p l e R s m args below meth c E nL cells slots Q pc L (.int v :: .int i :: .ref (eA E q) :: st) M := by
  subst hM
  obtain ⟨hx, hb, -, hown, hts, -, -, hK, hA, -⟩ := C
  intro H locs ls hP hS hl0
  refine va_zast hx hb hK hP (hA.D M) hS q 2 (mkW_at hs) rfl (inb_in hi) hd (fun H1 locs1 hP1 _ hS1 => ?_)
  rw [mkW_set (M' := wI M q i.toNatClampNeg (vp_nar .boolean v)) hs (by show _ = Sum.inl (_, _, Sum.inl ((wI M q i.toNatClampNeg (vp_nar .boolean v)).1 q)); rw [wI_eq]) (fun c' q' hne _ => cel_wI hne)] at hP1
  exact kk H1 locs1 ls hP1 hS1 hl0
theorem G.last (C : Cx own cc nL p R s m args meth c E) {q n : Nat} {rs : List Nat} {i : Int32} {v : Int64} {M' : Mm} (hs : (eH E)[q]? = some (.inl (1, n, rs))) (hi : inb i n = true) (hd : decode cc pc = .ok (.lastore, 1)) (hM : M' = wJ M q i.toNatClampNeg v)
    (kk : G p l e R s m args below meth c E nL cells slots Q (pc + 1) L st M') : G p l e R s m args below meth c E nL cells slots Q pc L (.long v :: .int i :: .ref (eA E q) :: st) M := by
  subst hM
  obtain ⟨hx, hb, -, hown, hts, -, -, hK, hA, -⟩ := C
  intro H locs ls hP hS hl0
  refine va_last hx hb hK hP (hA.D M) hS q 1 (mkW_at hs) rfl (inb_in hi) hd (fun H1 locs1 hP1 _ hS1 => ?_)
  rw [mkW_set (M' := wJ M q i.toNatClampNeg v) hs (by show _ = Sum.inl (_, _, Sum.inr (Sum.inl ((wJ M q i.toNatClampNeg v).2 q))); rw [wJ_eq]) (fun c' q' hne _ => cel_wJ hne)] at hP1
  exact kk H1 locs1 ls hP1 hS1 hl0
/-- the length of an array of kind 0, 1 or 2 -/
theorem G.alen (C : Cx own cc nL p R s m args meth c E) {q n k : Nat} {rs : List Nat} {v : Int32} {ty : FieldType} (hs : (eH E)[q]? = some (.inl (k, n, rs))) (ht : (tysOf (eC E))[k]? = some (eC E k, ty)) (hv : Int32.ofNat n = v) (hd : decode cc pc = .ok (.arraylength, 1))
    (kk : G p l e R s m args below meth c E nL cells slots Q (pc + 1) L (.int v :: st) M) : G p l e R s m args below meth c E nL cells slots Q pc L (.ref (eA E q) :: st) M := by
  obtain ⟨hx, hb, -, hown, hts, -, -, hK, hA, -⟩ := C
  refine fun H locs ls hP hS hl0 => va_alen hx hb hK hP q k (mkW_at hs) ht ?_ hd (kk H locs ls hP hS hl0)
  rw [← hv]
  unfold acl
  split <;> rfl
/-- a row out of an array of rows or of objects -/
theorem aald_q {q n k t : Nat} {rs : List Nat} {i : Int32} {ty : FieldType} (C : Cx own cc nL p R s m args meth c E) (hs : (eH E)[q]? = some (.inl (k + 3, n, rs))) (ht : (tysOf (eC E))[k + 3]? = some (eC E (k + 3), ty)) (hr : ty.isReference = true) (hi : inb i n = true) (hq : rs[i.toNatClampNeg]? = some t) (hd : decode cc pc = .ok (.aaload, 1))
    (kk : G p l e R s m args below meth c E nL cells slots Q (pc + 1) L (.ref (eA E t) :: st) M) : G p l e R s m args below meth c E nL cells slots Q pc L (.int i :: .ref (eA E q) :: st) M := by
  obtain ⟨hx, hb, -, hown, hts, -, -, hK, hA, -⟩ := C
  intro H locs ls hP hS hl0
  have hin := inb_in hi
  have hlt : i.toNatClampNeg < n := Nat.not_le.mp fun q => hin (Or.inr q)
  have hcell : H[eA E q]? = some (arrV (eC E (k + 3)) n (fun j => va_rf ((rs[j]?).map (eA E)))) := hP q _ (mkW_at hs)
  refine W.aald (v := .ref (eA E t)) (ty := ty) hx hb hcell ((hK.2 (k + 3) _ ht).1 n _) hr (fun q => by cases q) (by show ¬ (i < 0 ∨ (arrV _ _ _).slots.size ≤ _); rw [arrV_size]; exact hin) (by show (arrV _ _ _).slots[_]? = _; rw [arrV_read _ _ hlt, hq]; rfl) rfl rfl hd (kk H locs ls hP hS hl0)
theorem G.pow (C : Cx own cc nL p R s m args meth c E) {index : Nat} (hl : Cond.fieldLink own index RX6 "POWERS" "[I" ∈ tblG) (hd : decode cc pc = .ok (.getstatic index, 3))
    (kk : G p l e R s m args below meth c E nL cells slots Q (pc + 3) L (.ref (eX E 0) :: st) M) : G p l e R s m args below meth c E nL cells slots Q pc L st M := by
  obtain ⟨hx, hb, -, hown, hts, -, -, hK, hA, hT, -⟩ := C
  exact fun H locs ls hP hS hl0 => va_gets hx hb hT.1 hS hown (hts _ hl) (fun x h => h) hd (kk H locs ls hP hS hl0)
theorem G.powld (C : Cx own cc nL p R s m args meth c E) {i : Int32} (hi : inb i 10 = true) (hd : decode cc pc = .ok (.iaload, 1))
    (kk : G p l e R s m args below meth c E nL cells slots Q (pc + 1) L (.int (powF i.toNatClampNeg) :: st) M) : G p l e R s m args below meth c E nL cells slots Q pc L (.int i :: .ref (eX E 0) :: st) M := by
  obtain ⟨hx, hb, -, hown, hts, -, -, hK, hA, hT, -⟩ := C
  intro H locs ls hP hS hl0
  obtain ⟨cell, h1, h2, h3, h4, h5, h6, h7⟩ := hT.2.1
  have hin := inb_in hi
  have hlt : i.toNatClampNeg < 10 := Nat.not_le.mp fun q => hin (Or.inr q)
  have hsz : eX E 0 < s.heap.size := (Array.getElem?_eq_some_iff.mp h1).1
  exact W.iald (v := .int (powF i.toNatClampNeg)) hx hb (by rw [hS.2.1 _ hsz h7]; exact h1) h2 h3 (fun z => z.elim (fun y => hin (Or.inl y)) (fun y => by omega)) (h6 _ hlt) rfl rfl hd (kk H locs ls hP hS hl0)
end GM
