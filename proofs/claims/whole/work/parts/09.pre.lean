def ltv {α β : Type} (e : α) (f : α → Option β) : Option β := f e
def gd {β : Type} (c : Bool) (x : Option β) : Option β := if c = true then x else none
def bd {α β : Type} (x : Option α) (f : α → Option β) : Option β := x.bind f
def bd2 {α γ β : Type} (x : Option (α × γ)) (f : α → γ → Option β) : Option β := x.bind (fun r => f r.1 r.2)
theorem ltv_ex {α β : Type} {e : α} {f : α → Option β} {r : β} (h : ltv e f = some r) : ∃ x, x = e ∧ f x = some r := ⟨e, rfl, h⟩
theorem gd_ex {β : Type} {c : Bool} {x : Option β} {r : β} (h : gd c x = some r) : c = true ∧ x = some r := by
  unfold gd at h
  split at h
  · exact ⟨by assumption, h⟩
  · cases h
theorem bd_ex {α β : Type} {x : Option α} {f : α → Option β} {r : β} (h : bd x f = some r) : ∃ v, x = some v ∧ f v = some r := by
  cases x with
  | none => cases h
  | some v => exact ⟨v, rfl, h⟩
theorem bd2_ex {α γ β : Type} {x : Option (α × γ)} {f : α → γ → Option β} {r : β} (h : bd2 x f = some r) : ∃ v w, x = some (v, w) ∧ f v w = some r := by
  cases x with
  | none => cases h
  | some v => exact ⟨v.1, v.2, rfl, h⟩
theorem it_t {α : Type} {c : Prop} [Decidable c] {a b r : α} (h : (if c then a else b) = r) (hc : c) : a = r := by rwa [if_pos hc] at h
theorem it_f {α : Type} {c : Prop} [Decidable c] {a b r : α} (h : (if c then a else b) = r) (hc : ¬ c) : b = r := by rwa [if_neg hc] at h
/-- more than any loop here needs -/
def FU : Nat := 200000
abbrev ix (i : Int32) : Nat := i.toNatClampNeg
def shL (x : Int64) (y : Int32) : Int64 := x <<< (y.toInt64 &&& 63)
def ushL (x : Int64) (y : Int32) : Int64 := (x.toUInt64 >>> (y.toInt64.toUInt64 &&& Int64.toUInt64 63)).toInt64
def ushI (x y : Int32) : Int32 := (x.toUInt32 >>> (y.toUInt32 &&& Int32.toUInt32 31)).toInt32
def shI (x y : Int32) : Int32 := x <<< (y &&& 31)
def shrI (x y : Int32) : Int32 := x >>> (y &&& 31)
def rmI (x y : Int32) : Int32 := x - x / y * y
def mxI (x y : Int32) : Int32 := if x < y then y else x
def mnI (x y : Int32) : Int32 := if y < x then y else x
def cpI (M : Mm) (a b n : Nat) : Mm := (fun c i => if c = b ∧ i < n then M.1 a i else M.1 c i, M.2)
def cpJ (M : Mm) (a b n : Nat) : Mm := (M.1, fun c i => if c = b ∧ i < n then M.2 a i else M.2 c i)
theorem cpI_ne {M : Mm} {a b n d : Nat} (h : d ≠ b) : (cpI M a b n).1 d = M.1 d := by
  funext i
  show (if d = b ∧ i < n then M.1 a i else M.1 d i) = M.1 d i
  rw [if_neg (fun y => h y.1)]
theorem cpJ_ne {M : Mm} {a b n d : Nat} (h : d ≠ b) : (cpJ M a b n).2 d = M.2 d := by
  funext i
  show (if d = b ∧ i < n then M.2 a i else M.2 d i) = M.2 d i
  rw [if_neg (fun y => h y.1)]
theorem lgc_eq {x y : Int64} : lg_cmp x y = 0 ↔ x = y := by
  unfold lg_cmp
  by_cases h : x > y
  · have hn : ¬ x = y := fun e => by subst e; exact Int64.lt_irrefl h
    simp [h, hn]
  · by_cases e : x = y <;> simp [h, e]
theorem lgc_lt {x y : Int64} : lg_cmp x y < 0 ↔ x < y := by
  unfold lg_cmp
  by_cases h : x > y
  · have hn : ¬ x < y := Int64.lt_asymm h
    simp only [h, if_true, hn, iff_false]; decide
  · by_cases e : x = y
    · subst e; simp only [h, if_false, if_true, Int64.lt_irrefl, iff_false]; decide
    · have hl : x < y := by
        rcases Int64.lt_or_lt_of_ne e with q | q
        · exact q
        · exact absurd q h
      simp only [h, e, if_false, hl, iff_true]; decide
theorem lgc_gt {x y : Int64} : 0 < lg_cmp x y ↔ y < x := by
  unfold lg_cmp
  by_cases h : x > y
  · have h' : y < x := h
    simp only [h, if_true, h', iff_true]; decide
  · have h' : ¬ y < x := h
    by_cases e : x = y
    · simp only [h, e, if_false, if_true, Int64.lt_irrefl, iff_false]; simp
    · simp only [h, e, if_false, h', iff_false]; decide
theorem lgc_ne {x y : Int64} : ¬ lg_cmp x y = 0 ↔ ¬ x = y := not_congr lgc_eq
theorem lgc_ge {x y : Int64} : 0 ≤ lg_cmp x y ↔ y ≤ x := by
  rw [← Int32.not_lt, ← Int64.not_lt]; exact not_congr lgc_lt
theorem lgc_le {x y : Int64} : lg_cmp x y ≤ 0 ↔ x ≤ y := by
  rw [← Int32.not_lt, ← Int64.not_lt]; exact not_congr lgc_gt
def isB (v : Int32) : Bool := decide (v = 0) || decide (v = 1)
theorem isB_s {v : Int32} (h : isB v = true) : v = 0 ∨ v = 1 := by
  simp only [isB, Bool.or_eq_true, decide_eq_true_eq] at h
  exact h
theorem ne_toInt {x k : Int32} {z : Int} (hz : k.toInt = z) (h : ¬ x = k) : x.toInt ≠ z := fun e => h (Int32.toInt_inj.mp (e.trans hz.symm))
/-- the shapes begin so -/
def Has (a b : List Shp) : Prop := ∀ (q : Nat) (z : Shp), a[q]? = some z → b[q]? = some z
section GP
variable {p : Program} {l : Launch} {e : Env} {R : Room} {s : State} {m : MethodId} {args : Array Value} {below : List Frame} {meth : Method} {c : Code} {E : Ev} {nL cells slots : Nat} {Q : State → Prop} {own : String} {cc : ByteArray} {pc : Nat} {L : List (Nat × Value)} {st : List Value} {M : Mm}
theorem G.getI (C : Cx own cc nL p R s m args meth c E) {q ci k N index w : Nat} {Cn : String} {T : u_T} {ty : Nat → FieldType} {fs : List (Nat × Nat)} (K : Cls ci Cn T N ty) (hs : (eH E)[q]? = some (.inr (ci, fs))) (hz : fs[k]? = some (0, w)) (hk : k < N) (hl : Cond.fieldLink own index Cn (T k).2.1 (T k).2.2.1 ∈ tblG) (hd : decode cc pc = .ok (.getfield index, 3)) (kk : G p l e R s m args below meth c E nL cells slots Q (pc + 3) L (.int (M.1 q k) :: st) M) : G p l e R s m args below meth c E nL cells slots Q pc L (.ref (eA E q) :: st) M := G.get C K hs hz hk hl hd kk
theorem G.getZ (C : Cx own cc nL p R s m args meth c E) {q ci k N index w : Nat} {Cn : String} {T : u_T} {ty : Nat → FieldType} {fs : List (Nat × Nat)} (K : Cls ci Cn T N ty) (hs : (eH E)[q]? = some (.inr (ci, fs))) (hz : fs[k]? = some (2, w)) (hk : k < N) (hl : Cond.fieldLink own index Cn (T k).2.1 (T k).2.2.1 ∈ tblG) (hd : decode cc pc = .ok (.getfield index, 3)) (kk : G p l e R s m args below meth c E nL cells slots Q (pc + 3) L (.int (M.1 q k) :: st) M) : G p l e R s m args below meth c E nL cells slots Q pc L (.ref (eA E q) :: st) M := G.get C K hs hz hk hl hd kk
theorem G.getJ (C : Cx own cc nL p R s m args meth c E) {q ci k N index w : Nat} {Cn : String} {T : u_T} {ty : Nat → FieldType} {fs : List (Nat × Nat)} (K : Cls ci Cn T N ty) (hs : (eH E)[q]? = some (.inr (ci, fs))) (hz : fs[k]? = some (1, w)) (hk : k < N) (hl : Cond.fieldLink own index Cn (T k).2.1 (T k).2.2.1 ∈ tblG) (hd : decode cc pc = .ok (.getfield index, 3)) (kk : G p l e R s m args below meth c E nL cells slots Q (pc + 3) L (.long (M.2 q k) :: st) M) : G p l e R s m args below meth c E nL cells slots Q pc L (.ref (eA E q) :: st) M := G.get C K hs hz hk hl hd kk
theorem G.getR (C : Cx own cc nL p R s m args meth c E) {q ci k N index w : Nat} {Cn : String} {T : u_T} {ty : Nat → FieldType} {fs : List (Nat × Nat)} (K : Cls ci Cn T N ty) (hs : (eH E)[q]? = some (.inr (ci, fs))) (hz : fs[k]? = some (3, w)) (hk : k < N) (hl : Cond.fieldLink own index Cn (T k).2.1 (T k).2.2.1 ∈ tblG) (hd : decode cc pc = .ok (.getfield index, 3)) (kk : G p l e R s m args below meth c E nL cells slots Q (pc + 3) L (.ref (eA E w) :: st) M) : G p l e R s m args below meth c E nL cells slots Q pc L (.ref (eA E q) :: st) M := G.get C K hs hz hk hl hd kk
theorem G.getIN (C : Cx own cc nL p R s m args meth c E) {q ci k N index w : Nat} {Cn host : String} {T : u_T} {ty : Nat → FieldType} {fs : List (Nat × Nat)} (K : Cls ci Cn T N ty) (hs : (eH E)[q]? = some (.inr (ci, fs))) (hz : fs[k]? = some (0, w)) (hk : k < N) (hl : Cond.fieldLinkNest own index Cn (T k).2.1 (T k).2.2.1 host ∈ lw_tbl) (hd : decode cc pc = .ok (.getfield index, 3)) (kk : G p l e R s m args below meth c E nL cells slots Q (pc + 3) L (.int (M.1 q k) :: st) M) : G p l e R s m args below meth c E nL cells slots Q pc L (.ref (eA E q) :: st) M := G.getN C K hs hz hk hl hd kk
theorem G.getZN (C : Cx own cc nL p R s m args meth c E) {q ci k N index w : Nat} {Cn host : String} {T : u_T} {ty : Nat → FieldType} {fs : List (Nat × Nat)} (K : Cls ci Cn T N ty) (hs : (eH E)[q]? = some (.inr (ci, fs))) (hz : fs[k]? = some (2, w)) (hk : k < N) (hl : Cond.fieldLinkNest own index Cn (T k).2.1 (T k).2.2.1 host ∈ lw_tbl) (hd : decode cc pc = .ok (.getfield index, 3)) (kk : G p l e R s m args below meth c E nL cells slots Q (pc + 3) L (.int (M.1 q k) :: st) M) : G p l e R s m args below meth c E nL cells slots Q pc L (.ref (eA E q) :: st) M := G.getN C K hs hz hk hl hd kk
theorem G.getJN (C : Cx own cc nL p R s m args meth c E) {q ci k N index w : Nat} {Cn host : String} {T : u_T} {ty : Nat → FieldType} {fs : List (Nat × Nat)} (K : Cls ci Cn T N ty) (hs : (eH E)[q]? = some (.inr (ci, fs))) (hz : fs[k]? = some (1, w)) (hk : k < N) (hl : Cond.fieldLinkNest own index Cn (T k).2.1 (T k).2.2.1 host ∈ lw_tbl) (hd : decode cc pc = .ok (.getfield index, 3)) (kk : G p l e R s m args below meth c E nL cells slots Q (pc + 3) L (.long (M.2 q k) :: st) M) : G p l e R s m args below meth c E nL cells slots Q pc L (.ref (eA E q) :: st) M := G.getN C K hs hz hk hl hd kk
theorem G.getRN (C : Cx own cc nL p R s m args meth c E) {q ci k N index w : Nat} {Cn host : String} {T : u_T} {ty : Nat → FieldType} {fs : List (Nat × Nat)} (K : Cls ci Cn T N ty) (hs : (eH E)[q]? = some (.inr (ci, fs))) (hz : fs[k]? = some (3, w)) (hk : k < N) (hl : Cond.fieldLinkNest own index Cn (T k).2.1 (T k).2.2.1 host ∈ lw_tbl) (hd : decode cc pc = .ok (.getfield index, 3)) (kk : G p l e R s m args below meth c E nL cells slots Q (pc + 3) L (.ref (eA E w) :: st) M) : G p l e R s m args below meth c E nL cells slots Q pc L (.ref (eA E q) :: st) M := G.getN C K hs hz hk hl hd kk
theorem G.aI (C : Cx own cc nL p R s m args meth c E) {q n j : Nat} {rs : List Nat} {i : Int32} (hs : (eH E)[q]? = some (.inl (0, n, rs))) (hi : inb i n = true) (hj : ix i = j) (hd : decode cc pc = .ok (.iaload, 1)) (kk : G p l e R s m args below meth c E nL cells slots Q (pc + 1) L (.int (M.1 q j) :: st) M) : G p l e R s m args below meth c E nL cells slots Q pc L (.int i :: .ref (eA E q) :: st) M := by
  subst hj
  exact G.iald C hs hi hd kk
theorem G.aZ (C : Cx own cc nL p R s m args meth c E) {q n j : Nat} {rs : List Nat} {i : Int32} (hs : (eH E)[q]? = some (.inl (2, n, rs))) (hi : inb i n = true) (hj : ix i = j) (hd : decode cc pc = .ok (.baload, 1)) (kk : G p l e R s m args below meth c E nL cells slots Q (pc + 1) L (.int (M.1 q j) :: st) M) : G p l e R s m args below meth c E nL cells slots Q pc L (.int i :: .ref (eA E q) :: st) M := by
  subst hj
  exact G.zald C hs hi hd kk
theorem G.aJ (C : Cx own cc nL p R s m args meth c E) {q n j : Nat} {rs : List Nat} {i : Int32} (hs : (eH E)[q]? = some (.inl (1, n, rs))) (hi : inb i n = true) (hj : ix i = j) (hd : decode cc pc = .ok (.laload, 1)) (kk : G p l e R s m args below meth c E nL cells slots Q (pc + 1) L (.long (M.2 q j) :: st) M) : G p l e R s m args below meth c E nL cells slots Q pc L (.int i :: .ref (eA E q) :: st) M := by
  subst hj
  exact G.lald C hs hi hd kk
theorem G.sI (C : Cx own cc nL p R s m args meth c E) {q n j : Nat} {rs : List Nat} {i : Int32} {v : Int32} {M' : Mm} (hs : (eH E)[q]? = some (.inl (0, n, rs))) (hi : inb i n = true) (hj : ix i = j) (hd : decode cc pc = .ok (.iastore, 1)) (hM : M' = wI M q j v) (kk : G p l e R s m args below meth c E nL cells slots Q (pc + 1) L st M') : G p l e R s m args below meth c E nL cells slots Q pc L (.int v :: .int i :: .ref (eA E q) :: st) M := by
  subst hj
  exact G.iast C hs hi hd hM kk
theorem G.sZ (C : Cx own cc nL p R s m args meth c E) {q n j : Nat} {rs : List Nat} {i : Int32} {v : Int32} {M' : Mm} (hs : (eH E)[q]? = some (.inl (2, n, rs))) (hi : inb i n = true) (hj : ix i = j) (hd : decode cc pc = .ok (.bastore, 1)) (hM : M' = wI M q j (vp_nar .boolean v)) (kk : G p l e R s m args below meth c E nL cells slots Q (pc + 1) L st M') : G p l e R s m args below meth c E nL cells slots Q pc L (.int v :: .int i :: .ref (eA E q) :: st) M := by
  subst hj
  exact G.zast C hs hi hd hM kk
theorem G.sJ (C : Cx own cc nL p R s m args meth c E) {q n j : Nat} {rs : List Nat} {i : Int32} {v : Int64} {M' : Mm} (hs : (eH E)[q]? = some (.inl (1, n, rs))) (hi : inb i n = true) (hj : ix i = j) (hd : decode cc pc = .ok (.lastore, 1)) (hM : M' = wJ M q j v) (kk : G p l e R s m args below meth c E nL cells slots Q (pc + 1) L st M') : G p l e R s m args below meth c E nL cells slots Q pc L (.long v :: .int i :: .ref (eA E q) :: st) M := by
  subst hj
  exact G.last C hs hi hd hM kk
theorem G.mabs (C : Cx own cc nL p R s m args meth c E) {x : Int32} {index : Nat} {rest : List Value} (hl : Cond.methodLink own index Lib.Math.abs.name ∈ tblG) (h1 : Cond.static Lib.Math.abs.name ∈ tblG) (h2 : Cond.initialized "java/lang/Math" ∈ tblG) (h3 : Cond.code Lib.Math.abs.name Lib.Math.abs.code 1 (some .int) ∈ tblG) (hR : 1 ≤ R.frames ∧ 32 ≤ R.locals) (hcat : (rest.map fun v => v.category).sum ≤ 8) (h0 : cells ≤ R.cells ∧ slots ≤ R.slots) (hd : decode cc pc = .ok (.invokestatic index, 3))
    (kk : G p l e R s m args below meth c E nL cells slots Q (pc + 3) L (.int (if 0 ≤ x then x else 0 - x) :: rest) M) : G p l e R s m args below meth c E nL cells slots Q pc L (.int x :: rest) M := by
  obtain ⟨hx, hb, hml, hown, hts, -⟩ := C
  exact fun H locs ls hP hS hl0 => va_mabs hx hb (hml.trans hl0.1.symm) hown (hts _ hl) (hts _ h1) (hts _ h2) (hts _ h3) hR.1 (by omega) h0.1 h0.2 hd (kk H locs ls hP hS hl0)
theorem G.mmaxL (C : Cx own cc nL p R s m args meth c E) {x y : Int64} {index : Nat} {rest : List Value} (hl : Cond.methodLink own index Lib.MathLoose.max_long.x ∈ tblG) (h1 : Cond.static Lib.MathLoose.max_long.x ∈ tblG) (h2 : Cond.initialized "java/lang/Math" ∈ tblG) (h3 : Cond.code Lib.MathLoose.max_long.x Lib.MathLoose.max_long.code 4 (some .long) ∈ tblG) (hR : 1 ≤ R.frames ∧ 32 ≤ R.locals) (hcat : (rest.map fun v => v.category).sum ≤ 8) (h0 : cells ≤ R.cells ∧ slots ≤ R.slots) (hd : decode cc pc = .ok (.invokestatic index, 3))
    (kk : G p l e R s m args below meth c E nL cells slots Q (pc + 3) L (.long (if y < x then x else y) :: rest) M) : G p l e R s m args below meth c E nL cells slots Q pc L (.long y :: .long x :: rest) M := by
  obtain ⟨hx, hb, hml, hown, hts, -⟩ := C
  exact fun H locs ls hP hS hl0 => va_mmax_long hx hb (hml.trans hl0.1.symm) hown (hts _ hl) (hts _ h1) (hts _ h2) (hts _ h3) hR.1 (by omega) h0.1 h0.2 hd (kk H locs ls hP hS hl0)
theorem G.copyI (C : Cx own cc nL p R s m args meth c E) {q0 q1 n0 n1 index n : Nat} {r0 r1 : List Nat} {z : Int32} {rest : List Value} {M' : Mm} (hs0 : (eH E)[q0]? = some (.inl (0, n0, r0))) (hs1 : (eH E)[q1]? = some (.inl (0, n1, r1))) (hl : Cond.methodLink own index arraycopyName ∈ tblG) (h1 : Cond.native arraycopyName ∈ tblG) (h2 : Cond.static arraycopyName ∈ tblG) (h3 : Cond.initialized "java/lang/System" ∈ tblG) (hz : ¬ z < 0) (hn : ix z = n) (hn0 : n ≤ n0) (hn1 : n ≤ n1) (hR : 1 ≤ R.frames ∧ 64 ≤ R.locals) (hcat : (rest.map fun v => v.category).sum ≤ 8) (hd : decode cc pc = .ok (.invokestatic index, 3)) (hM : M' = cpI M q0 q1 n)
    (kk : G p l e R s m args below meth c E nL cells slots Q (pc + 3) L rest M') : G p l e R s m args below meth c E nL cells slots Q pc L (.int z :: .int 0 :: .ref (eA E q1) :: .int 0 :: .ref (eA E q0) :: rest) M := by
  subst hM; subst hn
  obtain ⟨hx, hb, hml, hown, hts, -, -, hK, hA, -⟩ := C
  intro H locs ls hP hS hl0
  have hzx : ix z = z.toNatClampNeg := rfl
  have hnw : nativeFrameWords "java/lang/System" "arraycopy" 5 ≤ 40 := by decide
  refine va_copyi (sp := 0) (dp := 0) hx hb (hml.trans hl0.1.symm) hown (hts _ hl) (hts _ h1) (hts _ h2) (hts _ h3) hK hP (hA.D M) hS q0 q1 0 0 (ty := .int) (mkW_at hs0) (mkW_at hs1) rfl rfl rfl (by decide) (by decide) hz (by show 0 + z.toNatClampNeg ≤ n0; omega) (by show 0 + z.toNatClampNeg ≤ n1; omega) (fun _ _ => rfl) hR.1 (by omega) hd (fun H1 locs1 hP1 _ hS1 => ?_)
  refine kk H1 locs1 ls ?_ hS1 hl0
  have e : va_cpy (M.1 q0) (M.1 q1) (0 : Int32).toNatClampNeg (0 : Int32).toNatClampNeg z.toNatClampNeg = (cpI M q0 q1 (ix z)).1 q1 := by
    funext i
    show (if 0 ≤ i ∧ i < 0 + z.toNatClampNeg then M.1 q0 (0 + (i - 0)) else M.1 q1 i) = if q1 = q1 ∧ i < ix z then M.1 q0 i else M.1 q1 i
    by_cases h : i < ix z
    · rw [if_pos ⟨Nat.zero_le _, by omega⟩, if_pos ⟨rfl, h⟩, Nat.zero_add, Nat.sub_zero]
    · rw [if_neg (fun y => h (by omega)), if_neg (fun y => h y.2)]
  rw [mkW_set (M := M) (M' := cpI M q0 q1 (ix z)) hs1 (by show _ = Sum.inl (_, _, Sum.inl ((cpI M q0 q1 (ix z)).1 q1)); rw [← e]) (fun c' q' hne _ => cel_off (cpI_ne hne).symm rfl)] at hP1
  exact hP1
theorem G.copyJ (C : Cx own cc nL p R s m args meth c E) {q0 q1 n0 n1 index n : Nat} {r0 r1 : List Nat} {z : Int32} {rest : List Value} {M' : Mm} (hs0 : (eH E)[q0]? = some (.inl (1, n0, r0))) (hs1 : (eH E)[q1]? = some (.inl (1, n1, r1))) (hl : Cond.methodLink own index arraycopyName ∈ tblG) (h1 : Cond.native arraycopyName ∈ tblG) (h2 : Cond.static arraycopyName ∈ tblG) (h3 : Cond.initialized "java/lang/System" ∈ tblG) (hz : ¬ z < 0) (hn : ix z = n) (hn0 : n ≤ n0) (hn1 : n ≤ n1) (hR : 1 ≤ R.frames ∧ 64 ≤ R.locals) (hcat : (rest.map fun v => v.category).sum ≤ 8) (hd : decode cc pc = .ok (.invokestatic index, 3)) (hM : M' = cpJ M q0 q1 n)
    (kk : G p l e R s m args below meth c E nL cells slots Q (pc + 3) L rest M') : G p l e R s m args below meth c E nL cells slots Q pc L (.int z :: .int 0 :: .ref (eA E q1) :: .int 0 :: .ref (eA E q0) :: rest) M := by
  subst hM; subst hn
  obtain ⟨hx, hb, hml, hown, hts, -, -, hK, hA, -⟩ := C
  intro H locs ls hP hS hl0
  have hzx : ix z = z.toNatClampNeg := rfl
  have hnw : nativeFrameWords "java/lang/System" "arraycopy" 5 ≤ 40 := by decide
  refine va_copyl (sp := 0) (dp := 0) hx hb (hml.trans hl0.1.symm) hown (hts _ hl) (hts _ h1) (hts _ h2) (hts _ h3) hK hP (hA.D M) hS q0 q1 1 1 (ty := .long) (mkW_at hs0) (mkW_at hs1) rfl rfl rfl (by decide) (by decide) hz (by show 0 + z.toNatClampNeg ≤ n0; omega) (by show 0 + z.toNatClampNeg ≤ n1; omega) (fun _ _ => rfl) hR.1 (by omega) hd (fun H1 locs1 hP1 _ hS1 => ?_)
  refine kk H1 locs1 ls ?_ hS1 hl0
  have e : va_cpy (M.2 q0) (M.2 q1) (0 : Int32).toNatClampNeg (0 : Int32).toNatClampNeg z.toNatClampNeg = (cpJ M q0 q1 (ix z)).2 q1 := by
    funext i
    show (if 0 ≤ i ∧ i < 0 + z.toNatClampNeg then M.2 q0 (0 + (i - 0)) else M.2 q1 i) = if q1 = q1 ∧ i < ix z then M.2 q0 i else M.2 q1 i
    by_cases h : i < ix z
    · rw [if_pos ⟨Nat.zero_le _, by omega⟩, if_pos ⟨rfl, h⟩, Nat.zero_add, Nat.sub_zero]
    · rw [if_neg (fun y => h (by omega)), if_neg (fun y => h y.2)]
  rw [mkW_set (M := M) (M' := cpJ M q0 q1 (ix z)) hs1 (by show _ = Sum.inl (_, _, Sum.inr (Sum.inl ((cpJ M q0 q1 (ix z)).2 q1))); rw [← e]) (fun c' q' hne _ => cel_off rfl (cpJ_ne hne).symm)] at hP1
  exact hP1
end GP
section
variable {p : Program} {l : Launch} {e : Env} {R : Room} {s : State} {m : MethodId} {args : Array Value} {below : List Frame} {meth : Method} {c : Code} {E : Ev} {nL cells slots : Nat} {Q : State → Prop} {own : String} {cc : ByteArray} {pc : Nat} {L : List (Nat × Value)} {st : List Value} {M : Mm}
theorem G.irm (C : Cx own cc nL p R s m args meth c E) {x y : Int32} (hd : decode cc pc = .ok (.irem, 1)) (hne : ¬ y = 0) (kk : G p l e R s m args below meth c E nL cells slots Q (pc + 1) L (.int (rmI x y) :: st) M) : G p l e R s m args below meth c E nL cells slots Q pc L (.int y :: .int x :: st) M := G.irem C hd hne kk
theorem G.isl (C : Cx own cc nL p R s m args meth c E) {x y : Int32} (hd : decode cc pc = .ok (.ishl, 1)) (kk : G p l e R s m args below meth c E nL cells slots Q (pc + 1) L (.int (shI x y) :: st) M) : G p l e R s m args below meth c E nL cells slots Q pc L (.int y :: .int x :: st) M := G.ishl C hd kk
theorem G.isr (C : Cx own cc nL p R s m args meth c E) {x y : Int32} (hd : decode cc pc = .ok (.ishr, 1)) (kk : G p l e R s m args below meth c E nL cells slots Q (pc + 1) L (.int (shrI x y) :: st) M) : G p l e R s m args below meth c E nL cells slots Q pc L (.int y :: .int x :: st) M := G.ishr C hd kk
end

def shC : List Shp := [.inr (8, [(3, 1), (3, 11), (0, 0), (3, 19), (3, 24), (3, 30), (3, 34), (3, 44), (3, 50), (3, 54), (0, 0)]), .inr (7, [(3, 2), (3, 3), (0, 0), (0, 0), (0, 0), (0, 0), (0, 0)]), .inl (0, 500, []), .inr (6, [(3, 4), (3, 5), (3, 6), (3, 7), (3, 8), (3, 9), (3, 10), (0, 0), (0, 0), (0, 0)]), .inl (1, 10, []), .inl (1, 10, []), .inl (0, 48, []), .inl (0, 6, []), .inl (0, 10, []), .inl (1, 16, []), .inl (0, 16, []), .inr (6, [(3, 12), (3, 13), (3, 14), (3, 15), (3, 16), (3, 17), (3, 18), (0, 0), (0, 0), (0, 0)]), .inl (1, 10, []), .inl (1, 10, []), .inl (0, 48, []), .inl (0, 6, []), .inl (0, 10, []), .inl (1, 16, []), .inl (0, 16, []), .inr (3, [(3, 20), (3, 21), (3, 22), (3, 23)]), .inl (1, 32, []), .inl (0, 16, []), .inl (0, 16, []), .inl (0, 16, []), .inr (1, [(3, 25), (3, 26), (3, 27), (3, 28), (3, 29), (0, 0)]), .inl (1, 128, []), .inl (1, 8, []), .inl (0, 16, []), .inl (0, 16, []), .inl (0, 130, []), .inr (2, [(3, 31), (3, 32), (3, 33), (0, 0), (0, 0), (2, 0)]), .inl (0, 11, []), .inl (0, 11, []), .inl (0, 11, []), .inr (5, [(0, 0), (0, 0), (3, 35), (3, 36), (3, 37), (3, 38), (3, 39), (3, 40), (3, 41), (3, 42), (3, 43), (0, 0), (0, 0)]), .inl (0, 10, []), .inl (0, 10, []), .inl (0, 10, []), .inl (0, 17, []), .inl (0, 6, []), .inl (0, 6, []), .inl (0, 6, []), .inl (0, 36, []), .inl (0, 60, []), .inr (4, [(3, 45), (3, 46), (3, 47), (3, 48), (3, 49), (0, 0)]), .inl (1, 64, []), .inl (0, 8, []), .inl (2, 256, []), .inl (0, 256, []), .inl (0, 256, []), .inr (0, [(0, 0), (1, 0), (2, 0), (3, 51), (3, 52), (0, 0), (3, 53), (0, 0)]), .inl (0, 40, []), .inl (1, 40, []), .inl (1, 8, []), .inl (3, 3, [55, 59, 63]), .inr (0, [(0, 0), (1, 0), (2, 0), (3, 56), (3, 57), (0, 0), (3, 58), (0, 0)]), .inl (0, 40, []), .inl (1, 40, []), .inl (1, 8, []), .inr (0, [(0, 0), (1, 0), (2, 0), (3, 60), (3, 61), (0, 0), (3, 62), (0, 0)]), .inl (0, 40, []), .inl (1, 40, []), .inl (1, 8, []), .inr (0, [(0, 0), (1, 0), (2, 0), (3, 64), (3, 65), (0, 0), (3, 66), (0, 0)]), .inl (0, 40, []), .inl (1, 40, []), .inl (1, 8, [])]
def shM : List Shp := [.inr (8, [(3, 1), (3, 11), (0, 0), (3, 19), (3, 24), (3, 30), (3, 34), (3, 44), (3, 50), (3, 54), (0, 0)]), .inr (7, [(3, 2), (3, 3), (0, 0), (0, 0), (0, 0), (0, 0), (0, 0)]), .inl (0, 500, []), .inr (6, [(3, 4), (3, 5), (3, 6), (3, 7), (3, 8), (3, 9), (3, 10), (0, 0), (0, 0), (0, 0)]), .inl (1, 10, []), .inl (1, 10, []), .inl (0, 48, []), .inl (0, 6, []), .inl (0, 10, []), .inl (1, 16, []), .inl (0, 16, []), .inr (6, [(3, 12), (3, 13), (3, 14), (3, 15), (3, 16), (3, 17), (3, 18), (0, 0), (0, 0), (0, 0)]), .inl (1, 10, []), .inl (1, 10, []), .inl (0, 48, []), .inl (0, 6, []), .inl (0, 10, []), .inl (1, 16, []), .inl (0, 16, []), .inr (3, [(3, 20), (3, 21), (3, 22), (3, 23)]), .inl (1, 32, []), .inl (0, 16, []), .inl (0, 16, []), .inl (0, 16, []), .inr (1, [(3, 25), (3, 26), (3, 27), (3, 28), (3, 29), (0, 0)]), .inl (1, 128, []), .inl (1, 8, []), .inl (0, 16, []), .inl (0, 16, []), .inl (0, 130, []), .inr (2, [(3, 31), (3, 32), (3, 33), (0, 0), (0, 0), (2, 0)]), .inl (0, 11, []), .inl (0, 11, []), .inl (0, 11, []), .inr (5, [(0, 0), (0, 0), (3, 35), (3, 36), (3, 37), (3, 38), (3, 39), (3, 40), (3, 41), (3, 42), (3, 43), (0, 0), (0, 0)]), .inl (0, 10, []), .inl (0, 10, []), .inl (0, 10, []), .inl (0, 17, []), .inl (0, 6, []), .inl (0, 6, []), .inl (0, 6, []), .inl (0, 36, []), .inl (0, 60, []), .inr (4, [(3, 45), (3, 46), (3, 47), (3, 48), (3, 49), (0, 0)]), .inl (1, 64, []), .inl (0, 8, []), .inl (2, 256, []), .inl (0, 256, []), .inl (0, 256, []), .inr (0, [(0, 0), (1, 0), (2, 0), (3, 51), (3, 52), (0, 0), (3, 53), (0, 0)]), .inl (0, 40, []), .inl (1, 40, []), .inl (1, 8, []), .inl (3, 3, [55, 59, 63]), .inr (0, [(0, 0), (1, 0), (2, 0), (3, 56), (3, 57), (0, 0), (3, 58), (0, 0)]), .inl (0, 40, []), .inl (1, 40, []), .inl (1, 8, []), .inr (0, [(0, 0), (1, 0), (2, 0), (3, 60), (3, 61), (0, 0), (3, 62), (0, 0)]), .inl (0, 40, []), .inl (1, 40, []), .inl (1, 8, []), .inr (0, [(0, 0), (1, 0), (2, 0), (3, 64), (3, 65), (0, 0), (3, 66), (0, 0)]), .inl (0, 40, []), .inl (1, 40, []), .inl (1, 8, []), .inr (9, [(0, 0), (0, 0), (0, 0), (0, 0), (0, 0), (0, 0), (0, 0), (0, 0), (3, 68), (3, 69), (3, 70), (3, 71), (3, 72), (3, 73), (3, 80), (3, 87), (3, 88), (3, 89), (3, 90), (0, 0), (3, 91), (3, 92), (1, 0), (0, 0), (0, 0), (0, 0), (0, 0), (0, 0), (3, 93), (3, 94), (3, 95), (0, 0), (3, 99), (3, 100), (3, 101), (3, 102), (3, 103), (0, 0), (3, 104), (3, 105), (3, 106), (0, 0), (3, 107), (0, 0), (0, 0), (0, 0), (3, 108), (3, 109), (3, 110), (3, 111)]), .inl (0, 500, []), .inl (0, 2, []), .inl (0, 2, []), .inl (1, 10, []), .inl (1, 10, []), .inl (4, 6, [74, 75, 76, 77, 78, 79]), .inl (0, 8, []), .inl (0, 8, []), .inl (0, 8, []), .inl (0, 8, []), .inl (0, 8, []), .inl (0, 8, []), .inl (4, 6, [81, 82, 83, 84, 85, 86]), .inl (0, 8, []), .inl (0, 8, []), .inl (0, 8, []), .inl (0, 8, []), .inl (0, 8, []), .inl (0, 8, []), .inl (0, 6, []), .inl (0, 6, []), .inl (0, 10, []), .inl (0, 10, []), .inl (1, 16, []), .inl (0, 16, []), .inl (0, 40, []), .inl (1, 8, []), .inl (5, 3, [96, 97, 98]), .inl (1, 60, []), .inl (1, 60, []), .inl (1, 60, []), .inl (1, 32, []), .inl (0, 64, []), .inl (0, 64, []), .inl (0, 32, []), .inl (2, 32, []), .inl (0, 64, []), .inl (0, 64, []), .inl (0, 64, []), .inl (0, 8, []), .inl (0, 16, []), .inl (0, 10, []), .inl (0, 10, []), .inl (6, 8, [112, 113, 114, 115, 116, 117, 118, 119]), .inl (2, 8, []), .inl (2, 8, []), .inl (2, 8, []), .inl (2, 8, []), .inl (2, 8, []), .inl (2, 8, []), .inl (2, 8, []), .inl (2, 8, [])]
def shA : List Shp := [.inr (8, [(3, 1), (3, 11), (0, 0), (3, 19), (3, 24), (3, 30), (3, 34), (3, 44), (3, 50), (3, 54), (0, 0)]), .inr (7, [(3, 2), (3, 3), (0, 0), (0, 0), (0, 0), (0, 0), (0, 0)]), .inl (0, 500, []), .inr (6, [(3, 4), (3, 5), (3, 6), (3, 7), (3, 8), (3, 9), (3, 10), (0, 0), (0, 0), (0, 0)]), .inl (1, 10, []), .inl (1, 10, []), .inl (0, 48, []), .inl (0, 6, []), .inl (0, 10, []), .inl (1, 16, []), .inl (0, 16, []), .inr (6, [(3, 12), (3, 13), (3, 14), (3, 15), (3, 16), (3, 17), (3, 18), (0, 0), (0, 0), (0, 0)]), .inl (1, 10, []), .inl (1, 10, []), .inl (0, 48, []), .inl (0, 6, []), .inl (0, 10, []), .inl (1, 16, []), .inl (0, 16, []), .inr (3, [(3, 20), (3, 21), (3, 22), (3, 23)]), .inl (1, 32, []), .inl (0, 16, []), .inl (0, 16, []), .inl (0, 16, []), .inr (1, [(3, 25), (3, 26), (3, 27), (3, 28), (3, 29), (0, 0)]), .inl (1, 128, []), .inl (1, 8, []), .inl (0, 16, []), .inl (0, 16, []), .inl (0, 130, []), .inr (2, [(3, 31), (3, 32), (3, 33), (0, 0), (0, 0), (2, 0)]), .inl (0, 11, []), .inl (0, 11, []), .inl (0, 11, []), .inr (5, [(0, 0), (0, 0), (3, 35), (3, 36), (3, 37), (3, 38), (3, 39), (3, 40), (3, 41), (3, 42), (3, 43), (0, 0), (0, 0)]), .inl (0, 10, []), .inl (0, 10, []), .inl (0, 10, []), .inl (0, 17, []), .inl (0, 6, []), .inl (0, 6, []), .inl (0, 6, []), .inl (0, 36, []), .inl (0, 60, []), .inr (4, [(3, 45), (3, 46), (3, 47), (3, 48), (3, 49), (0, 0)]), .inl (1, 64, []), .inl (0, 8, []), .inl (2, 256, []), .inl (0, 256, []), .inl (0, 256, []), .inr (0, [(0, 0), (1, 0), (2, 0), (3, 51), (3, 52), (0, 0), (3, 53), (0, 0)]), .inl (0, 40, []), .inl (1, 40, []), .inl (1, 8, []), .inl (3, 3, [55, 59, 63]), .inr (0, [(0, 0), (1, 0), (2, 0), (3, 56), (3, 57), (0, 0), (3, 58), (0, 0)]), .inl (0, 40, []), .inl (1, 40, []), .inl (1, 8, []), .inr (0, [(0, 0), (1, 0), (2, 0), (3, 60), (3, 61), (0, 0), (3, 62), (0, 0)]), .inl (0, 40, []), .inl (1, 40, []), .inl (1, 8, []), .inr (0, [(0, 0), (1, 0), (2, 0), (3, 64), (3, 65), (0, 0), (3, 66), (0, 0)]), .inl (0, 40, []), .inl (1, 40, []), .inl (1, 8, []), .inr (9, [(0, 0), (0, 0), (0, 0), (0, 0), (0, 0), (0, 0), (0, 0), (0, 0), (3, 68), (3, 69), (3, 70), (3, 71), (3, 72), (3, 73), (3, 80), (3, 87), (3, 88), (3, 89), (3, 90), (0, 0), (3, 91), (3, 92), (1, 0), (0, 0), (0, 0), (0, 0), (0, 0), (0, 0), (3, 93), (3, 94), (3, 95), (0, 0), (3, 99), (3, 100), (3, 101), (3, 102), (3, 103), (0, 0), (3, 104), (3, 105), (3, 106), (0, 0), (3, 107), (0, 0), (0, 0), (0, 0), (3, 108), (3, 109), (3, 110), (3, 111)]), .inl (0, 500, []), .inl (0, 2, []), .inl (0, 2, []), .inl (1, 10, []), .inl (1, 10, []), .inl (4, 6, [74, 75, 76, 77, 78, 79]), .inl (0, 8, []), .inl (0, 8, []), .inl (0, 8, []), .inl (0, 8, []), .inl (0, 8, []), .inl (0, 8, []), .inl (4, 6, [81, 82, 83, 84, 85, 86]), .inl (0, 8, []), .inl (0, 8, []), .inl (0, 8, []), .inl (0, 8, []), .inl (0, 8, []), .inl (0, 8, []), .inl (0, 6, []), .inl (0, 6, []), .inl (0, 10, []), .inl (0, 10, []), .inl (1, 16, []), .inl (0, 16, []), .inl (0, 40, []), .inl (1, 8, []), .inl (5, 3, [96, 97, 98]), .inl (1, 60, []), .inl (1, 60, []), .inl (1, 60, []), .inl (1, 32, []), .inl (0, 64, []), .inl (0, 64, []), .inl (0, 32, []), .inl (2, 32, []), .inl (0, 64, []), .inl (0, 64, []), .inl (0, 64, []), .inl (0, 8, []), .inl (0, 16, []), .inl (0, 10, []), .inl (0, 10, []), .inl (6, 8, [112, 113, 114, 115, 116, 117, 118, 119]), .inl (2, 8, []), .inl (2, 8, []), .inl (2, 8, []), .inl (2, 8, []), .inl (2, 8, []), .inl (2, 8, []), .inl (2, 8, []), .inl (2, 8, []), .inl (1, 1, [])]
theorem sc_0 {sh : List Shp} (h : Has shC sh) : sh[0]? = some (.inr (8, [(3, 1), (3, 11), (0, 0), (3, 19), (3, 24), (3, 30), (3, 34), (3, 44), (3, 50), (3, 54), (0, 0)])) := h 0 _ rfl
theorem sc_1 {sh : List Shp} (h : Has shC sh) : sh[1]? = some (.inr (7, [(3, 2), (3, 3), (0, 0), (0, 0), (0, 0), (0, 0), (0, 0)])) := h 1 _ rfl
theorem sc_2 {sh : List Shp} (h : Has shC sh) : sh[2]? = some (.inl (0, 500, [])) := h 2 _ rfl
theorem sc_3 {sh : List Shp} (h : Has shC sh) : sh[3]? = some (.inr (6, [(3, 4), (3, 5), (3, 6), (3, 7), (3, 8), (3, 9), (3, 10), (0, 0), (0, 0), (0, 0)])) := h 3 _ rfl
theorem sc_4 {sh : List Shp} (h : Has shC sh) : sh[4]? = some (.inl (1, 10, [])) := h 4 _ rfl
theorem sc_5 {sh : List Shp} (h : Has shC sh) : sh[5]? = some (.inl (1, 10, [])) := h 5 _ rfl
theorem sc_6 {sh : List Shp} (h : Has shC sh) : sh[6]? = some (.inl (0, 48, [])) := h 6 _ rfl
theorem sc_7 {sh : List Shp} (h : Has shC sh) : sh[7]? = some (.inl (0, 6, [])) := h 7 _ rfl
theorem sc_8 {sh : List Shp} (h : Has shC sh) : sh[8]? = some (.inl (0, 10, [])) := h 8 _ rfl
theorem sc_9 {sh : List Shp} (h : Has shC sh) : sh[9]? = some (.inl (1, 16, [])) := h 9 _ rfl
theorem sc_10 {sh : List Shp} (h : Has shC sh) : sh[10]? = some (.inl (0, 16, [])) := h 10 _ rfl
theorem sc_11 {sh : List Shp} (h : Has shC sh) : sh[11]? = some (.inr (6, [(3, 12), (3, 13), (3, 14), (3, 15), (3, 16), (3, 17), (3, 18), (0, 0), (0, 0), (0, 0)])) := h 11 _ rfl
theorem sc_12 {sh : List Shp} (h : Has shC sh) : sh[12]? = some (.inl (1, 10, [])) := h 12 _ rfl
theorem sc_13 {sh : List Shp} (h : Has shC sh) : sh[13]? = some (.inl (1, 10, [])) := h 13 _ rfl
theorem sc_14 {sh : List Shp} (h : Has shC sh) : sh[14]? = some (.inl (0, 48, [])) := h 14 _ rfl
theorem sc_15 {sh : List Shp} (h : Has shC sh) : sh[15]? = some (.inl (0, 6, [])) := h 15 _ rfl
theorem sc_16 {sh : List Shp} (h : Has shC sh) : sh[16]? = some (.inl (0, 10, [])) := h 16 _ rfl
theorem sc_17 {sh : List Shp} (h : Has shC sh) : sh[17]? = some (.inl (1, 16, [])) := h 17 _ rfl
theorem sc_18 {sh : List Shp} (h : Has shC sh) : sh[18]? = some (.inl (0, 16, [])) := h 18 _ rfl
theorem sc_19 {sh : List Shp} (h : Has shC sh) : sh[19]? = some (.inr (3, [(3, 20), (3, 21), (3, 22), (3, 23)])) := h 19 _ rfl
theorem sc_20 {sh : List Shp} (h : Has shC sh) : sh[20]? = some (.inl (1, 32, [])) := h 20 _ rfl
theorem sc_21 {sh : List Shp} (h : Has shC sh) : sh[21]? = some (.inl (0, 16, [])) := h 21 _ rfl
theorem sc_22 {sh : List Shp} (h : Has shC sh) : sh[22]? = some (.inl (0, 16, [])) := h 22 _ rfl
theorem sc_23 {sh : List Shp} (h : Has shC sh) : sh[23]? = some (.inl (0, 16, [])) := h 23 _ rfl
theorem sc_24 {sh : List Shp} (h : Has shC sh) : sh[24]? = some (.inr (1, [(3, 25), (3, 26), (3, 27), (3, 28), (3, 29), (0, 0)])) := h 24 _ rfl
theorem sc_25 {sh : List Shp} (h : Has shC sh) : sh[25]? = some (.inl (1, 128, [])) := h 25 _ rfl
theorem sc_26 {sh : List Shp} (h : Has shC sh) : sh[26]? = some (.inl (1, 8, [])) := h 26 _ rfl
theorem sc_27 {sh : List Shp} (h : Has shC sh) : sh[27]? = some (.inl (0, 16, [])) := h 27 _ rfl
theorem sc_28 {sh : List Shp} (h : Has shC sh) : sh[28]? = some (.inl (0, 16, [])) := h 28 _ rfl
theorem sc_29 {sh : List Shp} (h : Has shC sh) : sh[29]? = some (.inl (0, 130, [])) := h 29 _ rfl
theorem sc_30 {sh : List Shp} (h : Has shC sh) : sh[30]? = some (.inr (2, [(3, 31), (3, 32), (3, 33), (0, 0), (0, 0), (2, 0)])) := h 30 _ rfl
theorem sc_31 {sh : List Shp} (h : Has shC sh) : sh[31]? = some (.inl (0, 11, [])) := h 31 _ rfl
theorem sc_32 {sh : List Shp} (h : Has shC sh) : sh[32]? = some (.inl (0, 11, [])) := h 32 _ rfl
theorem sc_33 {sh : List Shp} (h : Has shC sh) : sh[33]? = some (.inl (0, 11, [])) := h 33 _ rfl
theorem sc_34 {sh : List Shp} (h : Has shC sh) : sh[34]? = some (.inr (5, [(0, 0), (0, 0), (3, 35), (3, 36), (3, 37), (3, 38), (3, 39), (3, 40), (3, 41), (3, 42), (3, 43), (0, 0), (0, 0)])) := h 34 _ rfl
theorem sc_35 {sh : List Shp} (h : Has shC sh) : sh[35]? = some (.inl (0, 10, [])) := h 35 _ rfl
theorem sc_36 {sh : List Shp} (h : Has shC sh) : sh[36]? = some (.inl (0, 10, [])) := h 36 _ rfl
theorem sc_37 {sh : List Shp} (h : Has shC sh) : sh[37]? = some (.inl (0, 10, [])) := h 37 _ rfl
theorem sc_38 {sh : List Shp} (h : Has shC sh) : sh[38]? = some (.inl (0, 17, [])) := h 38 _ rfl
theorem sc_39 {sh : List Shp} (h : Has shC sh) : sh[39]? = some (.inl (0, 6, [])) := h 39 _ rfl
theorem sc_40 {sh : List Shp} (h : Has shC sh) : sh[40]? = some (.inl (0, 6, [])) := h 40 _ rfl
theorem sc_41 {sh : List Shp} (h : Has shC sh) : sh[41]? = some (.inl (0, 6, [])) := h 41 _ rfl
theorem sc_42 {sh : List Shp} (h : Has shC sh) : sh[42]? = some (.inl (0, 36, [])) := h 42 _ rfl
theorem sc_43 {sh : List Shp} (h : Has shC sh) : sh[43]? = some (.inl (0, 60, [])) := h 43 _ rfl
theorem sc_44 {sh : List Shp} (h : Has shC sh) : sh[44]? = some (.inr (4, [(3, 45), (3, 46), (3, 47), (3, 48), (3, 49), (0, 0)])) := h 44 _ rfl
theorem sc_45 {sh : List Shp} (h : Has shC sh) : sh[45]? = some (.inl (1, 64, [])) := h 45 _ rfl
theorem sc_46 {sh : List Shp} (h : Has shC sh) : sh[46]? = some (.inl (0, 8, [])) := h 46 _ rfl
theorem sc_47 {sh : List Shp} (h : Has shC sh) : sh[47]? = some (.inl (2, 256, [])) := h 47 _ rfl
theorem sc_48 {sh : List Shp} (h : Has shC sh) : sh[48]? = some (.inl (0, 256, [])) := h 48 _ rfl
theorem sc_49 {sh : List Shp} (h : Has shC sh) : sh[49]? = some (.inl (0, 256, [])) := h 49 _ rfl
theorem sc_50 {sh : List Shp} (h : Has shC sh) : sh[50]? = some (.inr (0, [(0, 0), (1, 0), (2, 0), (3, 51), (3, 52), (0, 0), (3, 53), (0, 0)])) := h 50 _ rfl
theorem sc_51 {sh : List Shp} (h : Has shC sh) : sh[51]? = some (.inl (0, 40, [])) := h 51 _ rfl
theorem sc_52 {sh : List Shp} (h : Has shC sh) : sh[52]? = some (.inl (1, 40, [])) := h 52 _ rfl
theorem sc_53 {sh : List Shp} (h : Has shC sh) : sh[53]? = some (.inl (1, 8, [])) := h 53 _ rfl
theorem sc_54 {sh : List Shp} (h : Has shC sh) : sh[54]? = some (.inl (3, 3, [55, 59, 63])) := h 54 _ rfl
theorem sc_55 {sh : List Shp} (h : Has shC sh) : sh[55]? = some (.inr (0, [(0, 0), (1, 0), (2, 0), (3, 56), (3, 57), (0, 0), (3, 58), (0, 0)])) := h 55 _ rfl
theorem sc_56 {sh : List Shp} (h : Has shC sh) : sh[56]? = some (.inl (0, 40, [])) := h 56 _ rfl
theorem sc_57 {sh : List Shp} (h : Has shC sh) : sh[57]? = some (.inl (1, 40, [])) := h 57 _ rfl
theorem sc_58 {sh : List Shp} (h : Has shC sh) : sh[58]? = some (.inl (1, 8, [])) := h 58 _ rfl
theorem sc_59 {sh : List Shp} (h : Has shC sh) : sh[59]? = some (.inr (0, [(0, 0), (1, 0), (2, 0), (3, 60), (3, 61), (0, 0), (3, 62), (0, 0)])) := h 59 _ rfl
theorem sc_60 {sh : List Shp} (h : Has shC sh) : sh[60]? = some (.inl (0, 40, [])) := h 60 _ rfl
theorem sc_61 {sh : List Shp} (h : Has shC sh) : sh[61]? = some (.inl (1, 40, [])) := h 61 _ rfl
theorem sc_62 {sh : List Shp} (h : Has shC sh) : sh[62]? = some (.inl (1, 8, [])) := h 62 _ rfl
theorem sc_63 {sh : List Shp} (h : Has shC sh) : sh[63]? = some (.inr (0, [(0, 0), (1, 0), (2, 0), (3, 64), (3, 65), (0, 0), (3, 66), (0, 0)])) := h 63 _ rfl
theorem sc_64 {sh : List Shp} (h : Has shC sh) : sh[64]? = some (.inl (0, 40, [])) := h 64 _ rfl
theorem sc_65 {sh : List Shp} (h : Has shC sh) : sh[65]? = some (.inl (1, 40, [])) := h 65 _ rfl
theorem sc_66 {sh : List Shp} (h : Has shC sh) : sh[66]? = some (.inl (1, 8, [])) := h 66 _ rfl
theorem sm_67 {sh : List Shp} (h : Has shM sh) : sh[67]? = some (.inr (9, [(0, 0), (0, 0), (0, 0), (0, 0), (0, 0), (0, 0), (0, 0), (0, 0), (3, 68), (3, 69), (3, 70), (3, 71), (3, 72), (3, 73), (3, 80), (3, 87), (3, 88), (3, 89), (3, 90), (0, 0), (3, 91), (3, 92), (1, 0), (0, 0), (0, 0), (0, 0), (0, 0), (0, 0), (3, 93), (3, 94), (3, 95), (0, 0), (3, 99), (3, 100), (3, 101), (3, 102), (3, 103), (0, 0), (3, 104), (3, 105), (3, 106), (0, 0), (3, 107), (0, 0), (0, 0), (0, 0), (3, 108), (3, 109), (3, 110), (3, 111)])) := h 67 _ rfl
theorem sm_68 {sh : List Shp} (h : Has shM sh) : sh[68]? = some (.inl (0, 500, [])) := h 68 _ rfl
theorem sm_69 {sh : List Shp} (h : Has shM sh) : sh[69]? = some (.inl (0, 2, [])) := h 69 _ rfl
theorem sm_70 {sh : List Shp} (h : Has shM sh) : sh[70]? = some (.inl (0, 2, [])) := h 70 _ rfl
theorem sm_71 {sh : List Shp} (h : Has shM sh) : sh[71]? = some (.inl (1, 10, [])) := h 71 _ rfl
theorem sm_72 {sh : List Shp} (h : Has shM sh) : sh[72]? = some (.inl (1, 10, [])) := h 72 _ rfl
theorem sm_73 {sh : List Shp} (h : Has shM sh) : sh[73]? = some (.inl (4, 6, [74, 75, 76, 77, 78, 79])) := h 73 _ rfl
theorem sm_74 {sh : List Shp} (h : Has shM sh) : sh[74]? = some (.inl (0, 8, [])) := h 74 _ rfl
theorem sm_75 {sh : List Shp} (h : Has shM sh) : sh[75]? = some (.inl (0, 8, [])) := h 75 _ rfl
theorem sm_76 {sh : List Shp} (h : Has shM sh) : sh[76]? = some (.inl (0, 8, [])) := h 76 _ rfl
theorem sm_77 {sh : List Shp} (h : Has shM sh) : sh[77]? = some (.inl (0, 8, [])) := h 77 _ rfl
theorem sm_78 {sh : List Shp} (h : Has shM sh) : sh[78]? = some (.inl (0, 8, [])) := h 78 _ rfl
theorem sm_79 {sh : List Shp} (h : Has shM sh) : sh[79]? = some (.inl (0, 8, [])) := h 79 _ rfl
theorem sm_80 {sh : List Shp} (h : Has shM sh) : sh[80]? = some (.inl (4, 6, [81, 82, 83, 84, 85, 86])) := h 80 _ rfl
theorem sm_81 {sh : List Shp} (h : Has shM sh) : sh[81]? = some (.inl (0, 8, [])) := h 81 _ rfl
theorem sm_82 {sh : List Shp} (h : Has shM sh) : sh[82]? = some (.inl (0, 8, [])) := h 82 _ rfl
theorem sm_83 {sh : List Shp} (h : Has shM sh) : sh[83]? = some (.inl (0, 8, [])) := h 83 _ rfl
theorem sm_84 {sh : List Shp} (h : Has shM sh) : sh[84]? = some (.inl (0, 8, [])) := h 84 _ rfl
theorem sm_85 {sh : List Shp} (h : Has shM sh) : sh[85]? = some (.inl (0, 8, [])) := h 85 _ rfl
theorem sm_86 {sh : List Shp} (h : Has shM sh) : sh[86]? = some (.inl (0, 8, [])) := h 86 _ rfl
theorem sm_87 {sh : List Shp} (h : Has shM sh) : sh[87]? = some (.inl (0, 6, [])) := h 87 _ rfl
theorem sm_88 {sh : List Shp} (h : Has shM sh) : sh[88]? = some (.inl (0, 6, [])) := h 88 _ rfl
theorem sm_89 {sh : List Shp} (h : Has shM sh) : sh[89]? = some (.inl (0, 10, [])) := h 89 _ rfl
theorem sm_90 {sh : List Shp} (h : Has shM sh) : sh[90]? = some (.inl (0, 10, [])) := h 90 _ rfl
theorem sm_91 {sh : List Shp} (h : Has shM sh) : sh[91]? = some (.inl (1, 16, [])) := h 91 _ rfl
theorem sm_92 {sh : List Shp} (h : Has shM sh) : sh[92]? = some (.inl (0, 16, [])) := h 92 _ rfl
theorem sm_93 {sh : List Shp} (h : Has shM sh) : sh[93]? = some (.inl (0, 40, [])) := h 93 _ rfl
theorem sm_94 {sh : List Shp} (h : Has shM sh) : sh[94]? = some (.inl (1, 8, [])) := h 94 _ rfl
theorem sm_95 {sh : List Shp} (h : Has shM sh) : sh[95]? = some (.inl (5, 3, [96, 97, 98])) := h 95 _ rfl
theorem sm_96 {sh : List Shp} (h : Has shM sh) : sh[96]? = some (.inl (1, 60, [])) := h 96 _ rfl
theorem sm_97 {sh : List Shp} (h : Has shM sh) : sh[97]? = some (.inl (1, 60, [])) := h 97 _ rfl
theorem sm_98 {sh : List Shp} (h : Has shM sh) : sh[98]? = some (.inl (1, 60, [])) := h 98 _ rfl
theorem sm_99 {sh : List Shp} (h : Has shM sh) : sh[99]? = some (.inl (1, 32, [])) := h 99 _ rfl
theorem sm_100 {sh : List Shp} (h : Has shM sh) : sh[100]? = some (.inl (0, 64, [])) := h 100 _ rfl
theorem sm_101 {sh : List Shp} (h : Has shM sh) : sh[101]? = some (.inl (0, 64, [])) := h 101 _ rfl
theorem sm_102 {sh : List Shp} (h : Has shM sh) : sh[102]? = some (.inl (0, 32, [])) := h 102 _ rfl
theorem sm_103 {sh : List Shp} (h : Has shM sh) : sh[103]? = some (.inl (2, 32, [])) := h 103 _ rfl
theorem sm_104 {sh : List Shp} (h : Has shM sh) : sh[104]? = some (.inl (0, 64, [])) := h 104 _ rfl
theorem sm_105 {sh : List Shp} (h : Has shM sh) : sh[105]? = some (.inl (0, 64, [])) := h 105 _ rfl
theorem sm_106 {sh : List Shp} (h : Has shM sh) : sh[106]? = some (.inl (0, 64, [])) := h 106 _ rfl
theorem sm_107 {sh : List Shp} (h : Has shM sh) : sh[107]? = some (.inl (0, 8, [])) := h 107 _ rfl
theorem sm_108 {sh : List Shp} (h : Has shM sh) : sh[108]? = some (.inl (0, 16, [])) := h 108 _ rfl
theorem sm_109 {sh : List Shp} (h : Has shM sh) : sh[109]? = some (.inl (0, 10, [])) := h 109 _ rfl
theorem sm_110 {sh : List Shp} (h : Has shM sh) : sh[110]? = some (.inl (0, 10, [])) := h 110 _ rfl
theorem sm_111 {sh : List Shp} (h : Has shM sh) : sh[111]? = some (.inl (6, 8, [112, 113, 114, 115, 116, 117, 118, 119])) := h 111 _ rfl
theorem sm_112 {sh : List Shp} (h : Has shM sh) : sh[112]? = some (.inl (2, 8, [])) := h 112 _ rfl
theorem sm_113 {sh : List Shp} (h : Has shM sh) : sh[113]? = some (.inl (2, 8, [])) := h 113 _ rfl
theorem sm_114 {sh : List Shp} (h : Has shM sh) : sh[114]? = some (.inl (2, 8, [])) := h 114 _ rfl
theorem sm_115 {sh : List Shp} (h : Has shM sh) : sh[115]? = some (.inl (2, 8, [])) := h 115 _ rfl
theorem sm_116 {sh : List Shp} (h : Has shM sh) : sh[116]? = some (.inl (2, 8, [])) := h 116 _ rfl
theorem sm_117 {sh : List Shp} (h : Has shM sh) : sh[117]? = some (.inl (2, 8, [])) := h 117 _ rfl
theorem sm_118 {sh : List Shp} (h : Has shM sh) : sh[118]? = some (.inl (2, 8, [])) := h 118 _ rfl
theorem sm_119 {sh : List Shp} (h : Has shM sh) : sh[119]? = some (.inl (2, 8, [])) := h 119 _ rfl
set_option maxRecDepth 100000 in
theorem k_X0 : Cls 0 RX0 TX0 8 tyX0 := ⟨rfl, inG_of [383, 385, 387, 389, 391, 393, 395, 397] (by decide +kernel) (by decide +kernel), tyX0_ok, nmX0, by decide +kernel⟩
set_option maxRecDepth 100000 in
theorem k_X1 : Cls 1 RX1 TX1 6 tyX1 := ⟨rfl, inG_of [252, 254, 256, 258, 260, 262] (by decide +kernel) (by decide +kernel), tyX1_ok, nmX1, by decide +kernel⟩
set_option maxRecDepth 100000 in
theorem k_X2 : Cls 2 RX2 TX2 6 tyX2 := ⟨rfl, inG_of [277, 279, 281, 283, 285, 287] (by decide +kernel) (by decide +kernel), tyX2_ok, nmX2, by decide +kernel⟩
set_option maxRecDepth 100000 in
theorem k_X3 : Cls 3 RX3 TX3 4 tyX3 := ⟨rfl, inG_of [231, 233, 235, 237] (by decide +kernel) (by decide +kernel), tyX3_ok, nmX3, by decide +kernel⟩
set_option maxRecDepth 100000 in
theorem k_X5 : Cls 4 RX5 TX5 6 tyX5 := ⟨rfl, inG_of [348, 350, 352, 354, 356, 358] (by decide +kernel) (by decide +kernel), tyX5_ok, nmX5, by decide +kernel⟩
set_option maxRecDepth 100000 in
theorem k_X6 : Cls 5 RX6 TX6 13 tyX6 := ⟨rfl, inG_of [309, 311, 313, 315, 317, 319, 321, 323, 325, 327, 329, 331, 333] (by decide +kernel) (by decide +kernel), tyX6_ok, nmX6, by decide +kernel⟩
set_option maxRecDepth 100000 in
theorem k_X7 : Cls 6 RX7 TX7 10 tyX7 := ⟨rfl, inG_of [171, 173, 175, 177, 179, 181, 183, 185, 187, 189] (by decide +kernel) (by decide +kernel), tyX7_ok, nmX7, by decide +kernel⟩
set_option maxRecDepth 100000 in
theorem k_X8 : Cls 7 RX8 TX8 7 tyX8 := ⟨rfl, inG_of [204, 206, 208, 210, 212, 214, 216] (by decide +kernel) (by decide +kernel), tyX8_ok, nmX8, by decide +kernel⟩
set_option maxRecDepth 100000 in
theorem k_X9 : Cls 8 RX9 TX9 11 tyX9 := ⟨rfl, inG_of [490, 492, 494, 496, 498, 500, 502, 504, 506, 508, 510] (by decide +kernel) (by decide +kernel), tyX9_ok, nmX9, by decide +kernel⟩
set_option maxRecDepth 100000 in
theorem k_X10 : Cls 9 RX10 TX10 50 tyX10 := ⟨rfl, inG_of [1481, 1483, 1485, 1487, 1489, 1491, 1493, 1495, 1497, 1499, 1501, 1503, 1505, 1507, 1509, 1511, 1513, 1515, 1517, 1519, 1521, 1523, 1525, 1527, 1529, 1531, 1533, 1535, 1537, 1539, 1541, 1543, 1545, 1547, 1549, 1551, 1553, 1555, 1557, 1559, 1561, 1563, 1565, 1567, 1569, 1571, 1573, 1575, 1577, 1579] (by decide +kernel) (by decide +kernel), tyX10_ok, nmX10, by decide +kernel⟩
