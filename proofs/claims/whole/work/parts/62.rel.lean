-- ===== views of memory: what a picture reads of it =====
def vw (L : List (Nat × Nat)) (M : Mm) : Mm := (fun c i => if inW L c i then M.1 c i else 0, fun c i => if inW L c i then M.2 c i else 0)
def disjW (L1 L2 : List (Nat × Nat)) : Bool := L1.all fun q => L2.all fun r => !(q.1 == r.1 && ((q.2 == 999 || r.2 == 999) || q.2 == r.2))
theorem disj_out {L1 L2 : List (Nat × Nat)} (h : disjW L1 L2 = true) {c i : Nat} (h2 : inW L2 c i = true) : inW L1 c i = false := by
  apply Bool.eq_false_iff.mpr
  intro h1
  unfold inW at h1 h2
  rw [List.any_eq_true] at h1 h2
  obtain ⟨q, hq, e1⟩ := h1
  obtain ⟨r, hr, e2⟩ := h2
  unfold disjW at h
  rw [List.all_eq_true] at h
  have := h q hq
  rw [List.all_eq_true] at this
  have := this r hr
  simp only [Bool.and_eq_true, Bool.or_eq_true, beq_iff_eq, Bool.not_eq_true', Bool.and_eq_false_iff, Bool.or_eq_false_iff, beq_eq_false_iff_ne, ne_eq] at e1 e2 this
  omega
theorem vw_fr {L L0 : List (Nat × Nat)} {M M' : Mm} (hf : Fr L M M') (hd : disjW L L0 = true) : vw L0 M' = vw L0 M := by
  unfold vw
  congr 1
  · funext c i
    by_cases h : inW L0 c i = true
    · rw [if_pos h, if_pos h, (hf c i (disj_out hd h)).1]
    · rw [if_neg h, if_neg h]
  · funext c i
    by_cases h : inW L0 c i = true
    · rw [if_pos h, if_pos h, (hf c i (disj_out hd h)).2]
    · rw [if_neg h, if_neg h]
-- ===== a sheet, as a value: letters, words, ink, lengths, letters of words, spreads, hollows, their squares, whose they are =====
abbrev Sg : Type := Nat × Nat × (Nat → Int64) × (Nat → Nat) × (Nat → Nat → Nat) × (Nat → Nat) × Nat × (Nat → Int64) × (Nat → Nat)
abbrev sL (σ : Sg) : Nat := σ.1
abbrev sW (σ : Sg) : Nat := σ.2.1
abbrev sInk (σ : Sg) : Nat → Int64 := σ.2.2.1
abbrev sLen (σ : Sg) : Nat → Nat := σ.2.2.2.1
abbrev sWl (σ : Sg) : Nat → Nat → Nat := σ.2.2.2.2.1
abbrev sSpr (σ : Sg) : Nat → Nat := σ.2.2.2.2.2.1
abbrev sH (σ : Sg) : Nat := σ.2.2.2.2.2.2.1
abbrev sHol (σ : Sg) : Nat → Int64 := σ.2.2.2.2.2.2.2.1
abbrev sOwn (σ : Sg) : Nat → Nat := σ.2.2.2.2.2.2.2.2
def Good (σ : Sg) : Prop := sL σ ≤ 10 ∧ sW σ ≤ 6 ∧ (∀ w, w < sW σ → 1 ≤ sLen σ w ∧ sLen σ w ≤ 8 ∧ ∀ k, k < sLen σ w → sWl σ w k < sL σ) ∧ (∀ z, z < 10 → sSpr σ z ≤ 16) ∧ sH σ ≤ 16 ∧ ∀ h, h < sH σ → sOwn σ h < sL σ ∧ sHol σ h ≠ 0
/-- the class's sheet -/
def LSC : List (Nat × Nat) := [(11, 7), (11, 8), (11, 9), (12, 999), (14, 999), (15, 999), (16, 999), (17, 999), (18, 999)]
def SC0 (σ : Sg) (M : Mm) : Prop := M.1 11 7 = nI (sL σ) ∧ M.1 11 8 = nI (sW σ) ∧ M.1 11 9 = nI (sH σ) ∧ (∀ i, i < sL σ → M.2 12 i = sInk σ i) ∧ (∀ w, w < sW σ → M.1 15 w = nI (sLen σ w) ∧ ∀ k, k < sLen σ w → M.1 14 (8 * w + k) = nI (sWl σ w k)) ∧ (∀ z, z < 10 → M.1 16 z = nI (sSpr σ z)) ∧ ∀ h, h < sH σ → M.2 17 h = sHol σ h ∧ M.1 18 h = nI (sOwn σ h)
def SC (σ : Sg) (M : Mm) : Prop := SC0 σ (vw LSC M)
theorem SC.fr {σ : Sg} {L : List (Nat × Nat)} {M M' : Mm} (h : SC σ M) (hf : Fr L M M') (hd : disjW L LSC = true) : SC σ M' := by
  unfold SC
  rw [vw_fr hf hd]
  exact h
theorem SC.of {σ : Sg} {M : Mm} (h : SC σ M) : SC0 σ M := h
theorem SC.mk {σ : Sg} {M : Mm} (h : SC0 σ M) : SC σ M := h
/-- the model's sheet -/
def LSM : List (Nat × Nat) := [(70, 999), (67, 19), (72, 999), (81, 999), (82, 999), (83, 999), (84, 999), (85, 999), (86, 999), (88, 999), (90, 999), (91, 999), (92, 999)]
def SM0 (σ : Sg) (M : Mm) : Prop := M.1 70 0 = nI (sL σ) ∧ M.1 70 1 = nI (sW σ) ∧ M.1 67 19 = nI (sH σ) ∧ (∀ i, i < sL σ → M.2 72 i = sInk σ i) ∧ ((∀ w, w < sW σ → M.1 88 w = nI (sLen σ w)) ∧ (∀ k, 0 < sW σ → k < sLen σ 0 → M.1 81 k = nI (sWl σ 0 k)) ∧ (∀ k, 1 < sW σ → k < sLen σ 1 → M.1 82 k = nI (sWl σ 1 k)) ∧ (∀ k, 2 < sW σ → k < sLen σ 2 → M.1 83 k = nI (sWl σ 2 k)) ∧ (∀ k, 3 < sW σ → k < sLen σ 3 → M.1 84 k = nI (sWl σ 3 k)) ∧ (∀ k, 4 < sW σ → k < sLen σ 4 → M.1 85 k = nI (sWl σ 4 k)) ∧ (∀ k, 5 < sW σ → k < sLen σ 5 → M.1 86 k = nI (sWl σ 5 k))) ∧ (∀ z, z < 10 → M.1 90 z = nI (sSpr σ z)) ∧ ∀ h, h < sH σ → M.2 91 h = sHol σ h ∧ M.1 92 h = nI (sOwn σ h)
def SM (σ : Sg) (M : Mm) : Prop := SM0 σ (vw LSM M)
theorem SM.fr {σ : Sg} {L : List (Nat × Nat)} {M M' : Mm} (h : SM σ M) (hf : Fr L M M') (hd : disjW L LSM = true) : SM σ M' := by
  unfold SM
  rw [vw_fr hf hd]
  exact h
theorem SM.of {σ : Sg} {M : Mm} (h : SM σ M) : SM0 σ M := h
theorem SM.mk {σ : Sg} {M : Mm} (h : SM0 σ M) : SM σ M := h
theorem SM.wl {σ : Sg} {M : Mm} (h : SM σ M) {w k : Nat} (h6 : sW σ ≤ 6) (hw : w < sW σ) (hk : k < sLen σ w) : M.1 (81 + w) k = nI (sWl σ w k) := by
  obtain ⟨_, h0, h1, h2, h3, h4, h5⟩ := h.of.2.2.2.2.1
  rcases w with _ | _ | _ | _ | _ | _ | w
  · exact h0 k hw hk
  · exact h1 k hw hk
  · exact h2 k hw hk
  · exact h3 k hw hk
  · exact h4 k hw hk
  · exact h5 k hw hk
  · omega
-- ===== a bench, as a value: whose punch, its steel, whether it burst, acts, prints =====
/-- an act: a blow of a hollow, or a file from a side on a line, so many squares -/
abbrev Ac : Type := Nat ⊕ (Nat × Nat × Nat)
abbrev Bn : Type := Int32 × Int64 × Int32 × Nat × (Nat → Ac) × Nat × (Nat → Int64)
abbrev bP (β : Bn) : Int32 := β.1
abbrev bS (β : Bn) : Int64 := β.2.1
abbrev bB (β : Bn) : Int32 := β.2.2.1
abbrev bA (β : Bn) : Nat := β.2.2.2.1
abbrev bAc (β : Bn) : Nat → Ac := β.2.2.2.2.1
abbrev bN (β : Bn) : Nat := β.2.2.2.2.2.1
abbrev bPr (β : Bn) : Nat → Int64 := β.2.2.2.2.2.2
/-- what a file takes -/
def flB (s l n i : Nat) : Bool := match s with
  | 0 => decide (i / 8 = l) && decide (i % 8 < n)
  | 1 => decide (i / 8 = l) && decide (8 ≤ i % 8 + n)
  | 2 => decide (i % 8 = l) && decide (i / 8 < n)
  | _ => decide (i % 8 = l) && decide (8 ≤ i / 8 + n)
def Fil (s l n : Nat) : Int64 := ofB (flB s l n) 64
def AcOk (σ : Sg) : Ac → Prop
  | .inl h => h < sH σ
  | .inr q => q.1 < 4 ∧ q.2.1 < 8 ∧ 1 ≤ q.2.2 ∧ q.2.2 ≤ 8
def AcC (x : Int32) (y : Int64) : Ac → Prop
  | .inl h => x = nI h
  | .inr q => x = -1 ∧ y = Fil q.1 q.2.1 q.2.2
def AcM (x : Int32) : Ac → Prop
  | .inl h => x = nI h
  | .inr q => x = nI (100 + 64 * q.1 + 8 * q.2.1 + q.2.2 - 1)
def GoodB (σ : Sg) (β : Bn) : Prop := (bP β = -1 ∨ ∃ p, p < sL σ ∧ bP β = nI p) ∧ (bB β = 0 ∨ bB β = 1) ∧ bA β ≤ 40 ∧ (∀ k, k < bA β → AcOk σ (bAc β k)) ∧ bN β ≤ 8 ∧ ∀ k, k < bN β → bPr β k ≠ 0
def LBC (b : Nat) : List (Nat × Nat) := [(b, 0), (b, 1), (b, 2), (b, 5), (b, 7), (b + 1, 999), (b + 2, 999), (b + 3, 999)]
def BC0 (β : Bn) (b : Nat) (M : Mm) : Prop := M.1 b 0 = bP β ∧ (isB (M.1 b 2) = true ∧ (bP β ≠ -1 → M.2 b 1 = bS β ^^^ -1 ∧ M.1 b 2 = bB β)) ∧ M.1 b 5 = nI (bA β) ∧ (∀ k, k < bA β → AcC (M.1 (b + 1) k) (M.2 (b + 2) k) (bAc β k)) ∧ M.1 b 7 = nI (bN β) ∧ ∀ k, k < bN β → M.2 (b + 3) k = bPr β k
def LBM : List (Nat × Nat) := [(67, 22), (67, 23), (67, 24), (67, 25), (67, 26), (93, 999), (94, 999)]
def BM0 (β : Bn) (M : Mm) : Prop := M.1 67 23 = bP β ∧ (bP β ≠ -1 → M.2 67 22 = bS β ∧ M.1 67 24 = bB β) ∧ M.1 67 25 = nI (bA β) ∧ (∀ k, k < bA β → AcM (M.1 93 k) (bAc β k)) ∧ M.1 67 26 = nI (bN β) ∧ ∀ k, k < bN β → M.2 94 k = bPr β k
def BC (β : Bn) (b : Nat) (M : Mm) : Prop := BC0 β b (vw (LBC b) M)
def BM (β : Bn) (M : Mm) : Prop := BM0 β (vw LBM M)
theorem BC.fr {β : Bn} {b : Nat} {L : List (Nat × Nat)} {M M' : Mm} (h : BC β b M) (hf : Fr L M M') (hd : disjW L (LBC b) = true) : BC β b M' := by
  unfold BC
  rw [vw_fr hf hd]
  exact h
theorem BM.fr {β : Bn} {L : List (Nat × Nat)} {M M' : Mm} (h : BM β M) (hf : Fr L M M') (hd : disjW L LBM = true) : BM β M' := by
  unfold BM
  rw [vw_fr hf hd]
  exact h
theorem BM.of {β : Bn} {M : Mm} (h : BM β M) : BM0 β M := h
theorem BM.mk {β : Bn} {M : Mm} (h : BM0 β M) : BM β M := h
/-- an image that the model keeps, cell 96, 97 or 98 -/
def KM0 (β : Bn) (c : Nat) (M : Mm) : Prop := (M.2 c 1).toInt32 = bP β ∧ (bP β ≠ -1 → M.2 c 0 = bS β ∧ (M.2 c 2).toInt32 = bB β) ∧ (M.2 c 3).toInt32 = nI (bA β) ∧ (∀ k, k < bA β → AcM (M.2 c (5 + k)).toInt32 (bAc β k)) ∧ (M.2 c 4).toInt32 = nI (bN β) ∧ ∀ k, k < bN β → M.2 c (45 + k) = bPr β k
def KM (β : Bn) (c : Nat) (M : Mm) : Prop := KM0 β c (vw [(c, 999)] M)
theorem KM.fr {β : Bn} {c : Nat} {L : List (Nat × Nat)} {M M' : Mm} (h : KM β c M) (hf : Fr L M M') (hd : disjW L [(c, 999)] = true) : KM β c M' := by
  unfold KM
  rw [vw_fr hf hd]
  exact h
-- ===== tape =====
def LTP : List (Nat × Nat) := [(1, 2), (67, 1), (2, 999), (68, 999), (0, 2), (67, 3)]
def TP0 (M : Mm) : Prop := (∃ b, b ≤ 500 ∧ M.1 1 2 = nI b) ∧ M.1 67 1 = M.1 1 2 ∧ (∀ i, i < 500 → M.1 68 i = M.1 2 i) ∧ M.1 67 3 = M.1 0 2
def TP (M : Mm) : Prop := TP0 (vw LTP M)
theorem TP.fr {L : List (Nat × Nat)} {M M' : Mm} (h : TP M) (hf : Fr L M M') (hd : disjW L LTP = true) : TP M' := by
  unfold TP
  rw [vw_fr hf hd]
  exact h
theorem TP.of {M : Mm} (h : TP M) : TP0 M := h
-- ===== images =====
def LIM : List (Nat × Nat) := [(0, 10), (67, 27), (55, 0), (55, 1), (55, 2), (55, 5), (55, 7), (56, 999), (57, 999), (58, 999), (59, 0), (59, 1), (59, 2), (59, 5), (59, 7), (60, 999), (61, 999), (62, 999), (63, 0), (63, 1), (63, 2), (63, 5), (63, 7), (64, 999), (65, 999), (66, 999), (96, 999), (97, 999), (98, 999)]
def IM0 (σ : Sg) (M : Mm) : Prop := ∃ n, n ≤ 3 ∧ M.1 0 10 = nI n ∧ M.1 67 27 = nI n ∧ (0 < n → ∃ β, GoodB σ β ∧ BC0 β 55 M ∧ KM0 β 96 M) ∧ (1 < n → ∃ β, GoodB σ β ∧ BC0 β 59 M ∧ KM0 β 97 M) ∧ (2 < n → ∃ β, GoodB σ β ∧ BC0 β 63 M ∧ KM0 β 98 M)
def IM (σ : Sg) (M : Mm) : Prop := IM0 σ (vw LIM M)
theorem IM.fr {σ : Sg} {L : List (Nat × Nat)} {M M' : Mm} (h : IM σ M) (hf : Fr L M M') (hd : disjW L LIM = true) : IM σ M' := by
  unfold IM
  rw [vw_fr hf hd]
  exact h
theorem IM.of {σ : Sg} {M : Mm} (h : IM σ M) : IM0 σ M := h
-- ===== turns of the hollows =====
def trn (x : Int64) : Nat → Int64
  | 0 => x
  | k + 1 => Qrt (trn x k)
/-- the shape of x turned k times; from 4 on of its mirror image -/
def tur (x : Int64) (k : Nat) : Int64 := if k < 4 then Cor (trn x k) else Cor (trn (Mir x) (k - 4))
/-- the least of 64 and what n turns of a differ from shape b -/
def apN (a b : Int64) : Nat → Nat
  | 0 => 64
  | k + 1 => min (apN a b k) (pop (tur a k ^^^ b))
def Apt (a b : Int64) (m : Bool) : Nat := apN a (Cor b) (if m then 8 else 4)
theorem apN_le (a b : Int64) : ∀ n, apN a b n ≤ 64
  | 0 => Nat.le_refl _
  | n + 1 => Nat.le_trans (Nat.min_le_left _ _) (apN_le a b n)
