-- ===== memory, shapes, the world out of them =====
abbrev Mm : Type := (Nat → Nat → Int32) × (Nat → Nat → Int64)
def wI (M : Mm) (c i : Nat) (v : Int32) : Mm := (fun a b => if a = c ∧ b = i then v else M.1 a b, M.2)
def wJ (M : Mm) (c i : Nat) (v : Int64) : Mm := (M.1, fun a b => if a = c ∧ b = i then v else M.2 a b)
/-- an array (kind, length, the cells that it holds, if it holds cells), or an object (its place in vwCl, its fields: kind, the cell that it holds); kinds: 0 int, 1 long, 2 boolean, 3 and on: references -/
abbrev Shp : Type := (Nat × Nat × List Nat) ⊕ (Nat × List (Nat × Nat))
def fvl (ad : Nat → Nat) (M : Mm) (c i : Nat) (q : Nat × Nat) : Value := match q.1 with
  | 0 => .int (M.1 c i)
  | 1 => .long (M.2 c i)
  | 2 => .int (M.1 c i)
  | 3 => .ref (ad q.2)
  | _ => .null
def acl (ad : Nat → Nat) (M : Mm) (c : Nat) (q : Nat × Nat × List Nat) : vp_A := match q.1 with
  | 0 => (q.2.1, .inl (M.1 c))
  | 1 => (q.2.1, .inr (.inl (M.2 c)))
  | 2 => (q.2.1, .inl (M.1 c))
  | _ => (q.2.1, .inr (.inr (.inr (.inr (fun j => (q.2.2[j]?).map ad)))))
def cel (ad : Nat → Nat) (cA : Nat → ClassId) (M : Mm) (c : Nat) (q : Shp) : va_E := match q with
  | .inl a => .inl (cA a.1, acl ad M c a)
  | .inr o => .inr (o.1, o.2.mapIdx (fvl ad M c))
def mkW (sh : List Shp) (ad : Nat → Nat) (cA : Nat → ClassId) (M : Mm) : va_W := sh.mapIdx (fun c q => (ad c, cel ad cA M c q))
theorem mkW_at {sh : List Shp} {ad : Nat → Nat} {cA : Nat → ClassId} {M : Mm} {c : Nat} {q : Shp} (h : sh[c]? = some q) : (mkW sh ad cA M)[c]? = some (ad c, cel ad cA M c q) := by
  unfold mkW
  rw [List.getElem?_mapIdx, h]
  rfl
theorem mkW_len {sh : List Shp} {ad : Nat → Nat} {cA : Nat → ClassId} {M : Mm} : (mkW sh ad cA M).length = sh.length := by simp [mkW]
theorem mkW_set {sh : List Shp} {ad : Nat → Nat} {cA : Nat → ClassId} {M M' : Mm} {c : Nat} {q : Shp} {x : va_E} (h : sh[c]? = some q) (hx : x = cel ad cA M' c q) (ho : ∀ c' q', c' ≠ c → sh[c']? = some q' → cel ad cA M c' q' = cel ad cA M' c' q') : (mkW sh ad cA M).set c (ad c, x) = mkW sh ad cA M' := by
  apply List.ext_getElem?
  intro k
  rw [List.getElem?_set]
  have hc : c < (mkW sh ad cA M).length := by
    rw [mkW_len]
    exact (List.getElem?_eq_some_iff.mp h).1
  by_cases e : c = k
  · subst e
    rw [if_pos rfl, if_pos hc, mkW_at h, hx]
  · rw [if_neg e]
    cases hk : sh[k]? with
    | none =>
      have h1 : (mkW sh ad cA M)[k]? = none := by
        unfold mkW
        rw [List.getElem?_mapIdx, hk]
        rfl
      have h2 : (mkW sh ad cA M')[k]? = none := by
        unfold mkW
        rw [List.getElem?_mapIdx, hk]
        rfl
      rw [h1, h2]
    | some q' => rw [mkW_at hk, mkW_at hk, ho k q' (fun z => e z.symm) hk]
theorem wI_ne {M : Mm} {c i a : Nat} {v : Int32} (h : a ≠ c) : (wI M c i v).1 a = M.1 a := by
  funext b
  show (if a = c ∧ b = i then v else M.1 a b) = M.1 a b
  rw [if_neg (fun z => h z.1)]
theorem wI_eq {M : Mm} {c i : Nat} {v : Int32} : (wI M c i v).1 c = upd (M.1 c) i v := by
  funext b
  show (if c = c ∧ b = i then v else M.1 c b) = if b = i then v else M.1 c b
  by_cases h : b = i
  · rw [if_pos ⟨rfl, h⟩, if_pos h]
  · rw [if_neg (fun z => h z.2), if_neg h]
theorem wJ_ne {M : Mm} {c i a : Nat} {v : Int64} (h : a ≠ c) : (wJ M c i v).2 a = M.2 a := by
  funext b
  show (if a = c ∧ b = i then v else M.2 a b) = M.2 a b
  rw [if_neg (fun z => h z.1)]
theorem wJ_eq {M : Mm} {c i : Nat} {v : Int64} : (wJ M c i v).2 c = vp_updL (M.2 c) i v := by
  funext b
  show (if c = c ∧ b = i then v else M.2 c b) = if b = i then v else M.2 c b
  by_cases h : b = i
  · rw [if_pos ⟨rfl, h⟩, if_pos h]
  · rw [if_neg (fun z => h z.2), if_neg h]
theorem cel_off {ad : Nat → Nat} {cA : Nat → ClassId} {M M' : Mm} {c : Nat} {q : Shp} (h1 : M.1 c = M'.1 c) (h2 : M.2 c = M'.2 c) : cel ad cA M c q = cel ad cA M' c q := by
  have e1 : acl ad M c = acl ad M' c := by
    funext a
    unfold acl
    rw [h1, h2]
  have e2 : fvl ad M c = fvl ad M' c := by
    funext i q
    unfold fvl
    rw [h1, h2]
  unfold cel
  rw [e1, e2]
theorem cel_wI {ad : Nat → Nat} {cA : Nat → ClassId} {M : Mm} {c i : Nat} {v : Int32} {c' : Nat} {q' : Shp} (h : c' ≠ c) : cel ad cA M c' q' = cel ad cA (wI M c i v) c' q' := cel_off (wI_ne h).symm rfl
theorem cel_wJ {ad : Nat → Nat} {cA : Nat → ClassId} {M : Mm} {c i : Nat} {v : Int64} {c' : Nat} {q' : Shp} (h : c' ≠ c) : cel ad cA M c' q' = cel ad cA (wJ M c i v) c' q' := cel_off rfl (wJ_ne h).symm
theorem fvl_set {ad : Nat → Nat} {M M' : Mm} {c k : Nat} {fs : List (Nat × Nat)} {q : Nat × Nat} {x : Value} (hk : fs[k]? = some q) (hx : x = fvl ad M' c k q) (ho : ∀ i q, i ≠ k → fvl ad M c i q = fvl ad M' c i q) : (fs.mapIdx (fvl ad M c)).set k x = fs.mapIdx (fvl ad M' c) := by
  apply List.ext_getElem?
  intro j
  have hl : k < fs.length := (List.getElem?_eq_some_iff.mp hk).1
  rw [List.getElem?_set, List.getElem?_mapIdx, List.getElem?_mapIdx]
  by_cases e : k = j
  · subst e
    rw [if_pos rfl, if_pos (by simpa using hl), hk, hx]
    rfl
  · rw [if_neg e]
    cases fs[j]? with
    | none => rfl
    | some q' =>
      show some _ = some _
      rw [ho j q' (fun z => e z.symm)]
theorem fvl_wI {ad : Nat → Nat} {M : Mm} {c k i : Nat} {v : Int32} {q : Nat × Nat} (h : i ≠ k) : fvl ad M c i q = fvl ad (wI M c k v) c i q := by
  have e : (wI M c k v).1 c i = M.1 c i := by
    show (if c = c ∧ i = k then v else M.1 c i) = M.1 c i
    rw [if_neg (fun z => h z.2)]
  unfold fvl
  rw [e]
  rfl
theorem fvl_wJ {ad : Nat → Nat} {M : Mm} {c k i : Nat} {v : Int64} {q : Nat × Nat} (h : i ≠ k) : fvl ad M c i q = fvl ad (wJ M c k v) c i q := by
  have e : (wJ M c k v).2 c i = M.2 c i := by
    show (if c = c ∧ i = k then v else M.2 c i) = M.2 c i
    rw [if_neg (fun z => h z.2)]
  unfold fvl
  rw [e]
  rfl
theorem wI_at {M : Mm} {c i : Nat} {v : Int32} : (wI M c i v).1 c i = v := if_pos ⟨rfl, rfl⟩
theorem wJ_at {M : Mm} {c i : Nat} {v : Int64} : (wJ M c i v).2 c i = v := if_pos ⟨rfl, rfl⟩
-- ===== the surroundings: (classes and slots), the array classes, the first address, the shapes, the addresses, the addresses of what is given =====
abbrev Ev : Type := va_G × (Nat → ClassId) × Nat × List Shp × (Nat → Nat) × (Nat → Nat)
abbrev eD (E : Ev) : va_G := E.1
abbrev eC (E : Ev) : Nat → ClassId := E.2.1
abbrev eS (E : Ev) : Nat := E.2.2.1
abbrev eH (E : Ev) : List Shp := E.2.2.2.1
abbrev eA (E : Ev) : Nat → Nat := E.2.2.2.2.1
abbrev eX (E : Ev) : Nat → Nat := E.2.2.2.2.2
abbrev eF (E : Ev) : Nat → Prop := fun q => eS E ≤ q
abbrev eW (E : Ev) (M : Mm) : va_W := mkW (eH E) (eA E) (eC E) M
def tysOf (cA : Nat → ClassId) : List (ClassId × FieldType) := [(cA 0, .int), (cA 1, .long), (cA 2, .boolean), (cA 3, .object RX0), (cA 4, .array .int), (cA 5, .array .long), (cA 6, .array .boolean)]
/-- the addresses are apart and new -/
def Adr (E : Ev) : Prop := (∀ i j, i < (eH E).length → j < (eH E).length → eA E i = eA E j → i = j) ∧ ∀ i, i < (eH E).length → eS E ≤ eA E i
theorem Adr.D {E : Ev} (h : Adr E) (M : Mm) : va_D (eF E) (eW E M) := by
  have at' : ∀ (k : Nat) (q : Nat × va_E), (eW E M)[k]? = some q → k < (eH E).length ∧ q.1 = eA E k := by
    intro k q hq
    have hk : k < (eH E).length := by
      have := (List.getElem?_eq_some_iff.mp hq).1
      rwa [mkW_len] at this
    obtain ⟨z, hz⟩ : ∃ z, (eH E)[k]? = some z := ⟨_, List.getElem?_eq_getElem hk⟩
    rw [mkW_at hz] at hq
    cases hq
    exact ⟨hk, rfl⟩
  refine ⟨fun i j p q hp hq hpq => ?_, fun k q hq => ?_⟩
  · obtain ⟨h1, e1⟩ := at' i p hp
    obtain ⟨h2, e2⟩ := at' j q hq
    exact h.1 i j h1 h2 (by rw [← e1, ← e2]; exact hpq)
  · obtain ⟨h1, e1⟩ := at' k q hq
    show eS E ≤ q.1
    rw [e1]
    exact h.2 k h1
-- ===== the words =====
def nestW : Cond → Bool
  | .fieldLinkNest .. => true
  | .methodLinkNest .. => true
  | .castable .. => true
  | .declares _ => true
  | _ => false
def NW (U : State) : Prop := ∀ w ∈ lw_tbl, nestW w = true → va_Nw w U
theorem NW.warm {s U : State} (hW : s.WarmedH U.vm) (h : NW s) : NW U := by
  intro w hw hn
  cases w <;> first | exact va_Nw.warmF hW (h _ hw hn) | exact va_Nw.warmM hW (h _ hw hn) | exact va_Nw.warmC hW (h _ hw hn) | exact va_Nw.warmD hW (h _ hw hn) | (simp [nestW] at hn; done)
theorem NW.frames {u U : State} (hvm : u.vm = U.vm) (h : NW u) : NW U := by
  intro w hw hn
  cases w <;> first | exact va_Nw.same rfl hvm (h _ hw hn) | (simp [nestW] at hn; done)
