theorem ite_ex {α : Type} {c : Prop} [Decidable c] {a b r : α} (h : (if c then a else b) = r) : (c ∧ a = r) ∨ (¬ c ∧ b = r) := by
  by_cases hc : c
  · exact Or.inl ⟨hc, it_t h hc⟩
  · exact Or.inr ⟨hc, it_f h hc⟩
-- ===== what a function may change: cells (999: all places), or single fields of a cell =====
def inW (L : List (Nat × Nat)) (c i : Nat) : Bool := L.any fun q => q.1 == c && (q.2 == 999 || q.2 == i)
def Fr (L : List (Nat × Nat)) (M M' : Mm) : Prop := ∀ c i, inW L c i = false → M'.1 c i = M.1 c i ∧ M'.2 c i = M.2 c i
theorem Fr.refl {L : List (Nat × Nat)} {M : Mm} : Fr L M M := fun _ _ _ => ⟨rfl, rfl⟩
theorem Fr.tr {L : List (Nat × Nat)} {M M1 M2 : Mm} (h1 : Fr L M M1) (h2 : Fr L M1 M2) : Fr L M M2 := fun c i h => ⟨(h2 c i h).1.trans (h1 c i h).1, (h2 c i h).2.trans (h1 c i h).2⟩
def coverW (L1 L2 : List (Nat × Nat)) : Bool := L1.all fun q => L2.any fun r => r.1 == q.1 && (r.2 == 999 || r.2 == q.2)
theorem inW_sub {L1 L2 : List (Nat × Nat)} (hs : coverW L1 L2 = true) {c i : Nat} (h : inW L1 c i = true) : inW L2 c i = true := by
  unfold inW at h ⊢
  rw [List.any_eq_true] at h ⊢
  obtain ⟨q, hq, h1⟩ := h
  unfold coverW at hs
  rw [List.all_eq_true] at hs
  have h2 := hs q hq
  rw [List.any_eq_true] at h2
  obtain ⟨r, hr, h3⟩ := h2
  refine ⟨r, hr, ?_⟩
  simp only [Bool.and_eq_true, Bool.or_eq_true, beq_iff_eq] at h1 h3 ⊢
  obtain ⟨e1, e2⟩ := h1
  obtain ⟨e3, e4⟩ := h3
  refine ⟨by omega, ?_⟩
  rcases e4 with e4 | e4
  · exact Or.inl e4
  · rcases e2 with e2 | e2
    · exact Or.inl (by omega)
    · exact Or.inr (by omega)
theorem Fr.sub {L1 L2 : List (Nat × Nat)} {M M' : Mm} (h : Fr L1 M M') (hs : coverW L1 L2 = true) : Fr L2 M M' := by
  intro c i hi
  apply h
  cases e : inW L1 c i with
  | false => rfl
  | true =>
    rw [inW_sub hs e] at hi
    cases hi
theorem Fr.wrI {L : List (Nat × Nat)} {M : Mm} {c i : Nat} {v : Int32} (hL : inW L c i = true) : Fr L M (wI M c i v) := by
  intro a b h
  refine ⟨?_, rfl⟩
  show (if a = c ∧ b = i then v else M.1 a b) = M.1 a b
  rw [if_neg]
  rintro ⟨rfl, rfl⟩
  rw [hL] at h
  cases h
theorem Fr.wrJ {L : List (Nat × Nat)} {M : Mm} {c i : Nat} {v : Int64} (hL : inW L c i = true) : Fr L M (wJ M c i v) := by
  intro a b h
  refine ⟨rfl, ?_⟩
  show (if a = c ∧ b = i then v else M.2 a b) = M.2 a b
  rw [if_neg]
  rintro ⟨rfl, rfl⟩
  rw [hL] at h
  cases h
theorem inW_all {L : List (Nat × Nat)} {c : Nat} (hL : (L.any fun q => q.1 == c && q.2 == 999) = true) (i : Nat) : inW L c i = true := by
  unfold inW
  rw [List.any_eq_true] at hL ⊢
  obtain ⟨q, hq, h⟩ := hL
  refine ⟨q, hq, ?_⟩
  simp only [Bool.and_eq_true, Bool.or_eq_true, beq_iff_eq] at h ⊢
  exact ⟨h.1, Or.inl h.2⟩
theorem Fr.wIa {L : List (Nat × Nat)} {M : Mm} {c i : Nat} {v : Int32} (hL : (L.any fun q => q.1 == c && q.2 == 999) = true) : Fr L M (wI M c i v) := Fr.wrI (inW_all hL i)
theorem Fr.wJa {L : List (Nat × Nat)} {M : Mm} {c i : Nat} {v : Int64} (hL : (L.any fun q => q.1 == c && q.2 == 999) = true) : Fr L M (wJ M c i v) := Fr.wrJ (inW_all hL i)
theorem inb_ix {x : Int32} {n : Nat} (h : inb x n = true) : ix x < n := by
  unfold inb at h
  simp only [Bool.and_eq_true, decide_eq_true_eq] at h
  show x.toNatClampNeg < n
  unfold Int32.toNatClampNeg
  omega
theorem Fr.wIv {L : List (Nat × Nat)} {M : Mm} {b n i : Nat} {x v : Int32} (hx : inb x n = true) (hL : ((List.range n).all fun j => L.any fun q => q.1 == b + j && q.2 == 999) = true) : Fr L M (wI M (b + ix x) i v) := by
  apply Fr.wrI
  apply inW_all
  rw [List.all_eq_true] at hL
  exact hL (ix x) (List.mem_range.mpr (inb_ix hx))
theorem Fr.cpI {L : List (Nat × Nat)} {M : Mm} {a b n : Nat} (hL : (L.any fun q => q.1 == b && q.2 == 999) = true) : Fr L M (cpI M a b n) := by
  intro c i h
  refine ⟨?_, rfl⟩
  show (if c = b ∧ i < n then M.1 a i else M.1 c i) = M.1 c i
  rw [if_neg]
  rintro ⟨rfl, _⟩
  rw [inW_all hL i] at h
  cases h
theorem Fr.cpJ {L : List (Nat × Nat)} {M : Mm} {a b n : Nat} (hL : (L.any fun q => q.1 == b && q.2 == 999) = true) : Fr L M (cpJ M a b n) := by
  intro c i h
  refine ⟨rfl, ?_⟩
  show (if c = b ∧ i < n then M.2 a i else M.2 c i) = M.2 c i
  rw [if_neg]
  rintro ⟨rfl, _⟩
  rw [inW_all hL i] at h
  cases h
