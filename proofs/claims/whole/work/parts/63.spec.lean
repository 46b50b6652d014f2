-- ===== what is looked for: lines, punches, room =====
def rwL (ink : Int64) (i : Nat) : Nat := if opn ink 0 i then i / 8 else if opn ink 1 i then 8 + i / 8 else 99
def clL (ink : Int64) (i : Nat) : Nat := if opn ink 2 i then 16 + i % 8 else if opn ink 3 i then 24 + i % 8 else 99
/-- the lines of S take the squares sq -/
def Cov (ink sq : Int64) (S : Nat) : Prop := ∀ i, i < 64 → lb sq i = true → S.testBit (rwL ink i) = true ∨ S.testBit (clL ink i) = true
def popN (S : Nat) : Nat := bcn S.testBit 32
/-- the fewest lines that take sq -/
def IsFew (ink sq : Int64) (n : Nat) : Prop := (∃ S, S < 2 ^ 32 ∧ Cov ink sq S ∧ popN S = n) ∧ ∀ S, S < 2 ^ 32 → Cov ink sq S → n ≤ popN S
def IsLns (ink : Int64) (S : Nat) : Prop := S < 2 ^ 32 ∧ Cov ink (Rch ink) S ∧ (∀ T, T < 2 ^ 32 → Cov ink (Rch ink) T → popN S ≤ popN T) ∧ ∀ T, T < 2 ^ 32 → Cov ink (Rch ink) T → popN T = popN S → S ≤ T
theorem IsLns.uniq {ink : Int64} {S T : Nat} (h1 : IsLns ink S) (h2 : IsLns ink T) : S = T := by
  obtain ⟨a1, a2, a3, a4⟩ := h1
  obtain ⟨b1, b2, b3, b4⟩ := h2
  have e : popN S = popN T := Nat.le_antisymm (a3 T b1 b2) (b3 S a1 a2)
  exact Nat.le_antisymm (a4 T b1 b2 e.symm) (b4 S a1 a2 e)
theorem IsLns.few {ink : Int64} {S : Nat} (h : IsLns ink S) : IsFew ink (Rch ink) (popN S) := ⟨⟨S, h.1, h.2.1, rfl⟩, h.2.2.1⟩
theorem IsFew.uniq {ink sq : Int64} {m n : Nat} (h1 : IsFew ink sq m) (h2 : IsFew ink sq n) : m = n := by
  obtain ⟨⟨S, a1, a2, rfl⟩, a3⟩ := h1
  obtain ⟨⟨T, b1, b2, rfl⟩, b3⟩ := h2
  exact Nat.le_antisymm (a3 T b1 b2) (b3 S a1 a2)
/-- the hollows of S serve all -/
def Srv (σ : Sg) (t : Nat) (m : Bool) (S : Nat) : Prop := ∀ o, o < sH σ → ∃ h, h < sH σ ∧ S.testBit h = true ∧ Apt (sHol σ h) (sHol σ o) m ≤ t
def popH (S : Nat) : Nat := bcn S.testBit 32
def IsPun (σ : Sg) (t : Nat) (m : Bool) (S : Nat) : Prop := S < 2 ^ sH σ ∧ Srv σ t m S ∧ (∀ T, T < 2 ^ sH σ → Srv σ t m T → popN S ≤ popN T) ∧ ∀ T, T < 2 ^ sH σ → Srv σ t m T → popN T = popN S → S ≤ T
theorem IsPun.uniq {σ : Sg} {t : Nat} {m : Bool} {S T : Nat} (h1 : IsPun σ t m S) (h2 : IsPun σ t m T) : S = T := by
  obtain ⟨a1, a2, a3, a4⟩ := h1
  obtain ⟨b1, b2, b3, b4⟩ := h2
  have e : popN S = popN T := Nat.le_antisymm (a3 T b1 b2) (b3 S a1 a2)
  exact Nat.le_antisymm (a4 T b1 b2 e.symm) (b4 S a1 a2 e)
-- words
def brN (x : Int64) : Nat := (Brd x).toNatClampNeg
theorem brN_le (x : Int64) : brN x ≤ 8 := by
  unfold brN
  have h := Brd_is x
  by_cases e : x = 0
  · rw [h.1 e]
    decide
  · obtain ⟨f, l, h1, h2, _, _, _, h3⟩ := h.2 e
    rw [h3, nI_clamp (by omega)]
    omega
theorem Brd_nI (x : Int64) : Brd x = nI (brN x) := by
  unfold brN
  have h := Brd_is x
  by_cases e : x = 0
  · rw [h.1 e]
    decide
  · obtain ⟨f, l, h1, h2, _, _, _, h3⟩ := h.2 e
    rw [h3, nI_clamp (by omega)]
theorem brN_0 {x : Int64} (h : brN x = 0) : x = 0 := by
  apply Classical.byContradiction
  intro e
  obtain ⟨f, l, h1, h2, _, _, _, h3⟩ := (Brd_is x).2 e
  unfold brN at h
  rw [h3, nI_clamp (by omega)] at h
  omega
def Blk (σ : Sg) (g l : Nat) : Nat := 16 * pop (sInk σ l) + g * pop (Bes (sInk σ l))
def Wid (σ : Sg) (r l : Nat) : Nat := brN (sInk σ l) + r / 5 ^ l % 5
def smW (σ : Sg) (w : Nat) (f : Nat → Nat) : Nat := smN (fun k => f (sWl σ w k)) (sLen σ w)
def clB (b s : Nat) : Nat := if s = 0 then 0 else 1000 * b / (16 * s)
def Col (σ : Sg) (g w r : Nat) : Nat := clB (smW σ w (Blk σ g)) (smW σ w (Wid σ r))
def mxN (f : Nat → Nat) : Nat → Nat
  | 0 => 0
  | n + 1 => max (mxN f n) (f n)
/-- the least of f, where there is one -/
def mnN (f : Nat → Nat) : Nat → Nat
  | 0 => 0
  | 1 => f 0
  | n + 2 => min (mnN f (n + 1)) (f (n + 1))
def Unv (σ : Sg) (g r : Nat) : Nat := mxN (fun w => Col σ g w r) (sW σ) - mnN (fun w => Col σ g w r) (sW σ)
def Use (σ : Sg) (l : Nat) : Bool := anB (fun w => anB (fun k => decide (sWl σ w k = l)) (sLen σ w)) (sW σ)
def RmOk (σ : Sg) (r : Nat) : Prop := r < 5 ^ 10 ∧ ∀ l, l < 10 → Use σ l = false → r / 5 ^ l % 5 = 0
def IsEvn (σ : Sg) (g : Nat) (v : Int32) : Prop := (6 < bcn (Use σ) 10 → v = -1) ∧ (bcn (Use σ) 10 ≤ 6 → ∃ r, v = nI r ∧ RmOk σ r ∧ ∀ r', RmOk σ r' → Unv σ g r ≤ Unv σ g r' ∧ (Unv σ g r' = Unv σ g r → r ≤ r'))
theorem RmOk.lt {σ : Sg} {r : Nat} (h : RmOk σ r) : r < 2 ^ 31 := by
  have := h.1
  omega
theorem IsEvn.uniq {σ : Sg} {g : Nat} {v w : Int32} (h1 : IsEvn σ g v) (h2 : IsEvn σ g w) : v = w := by
  by_cases h : 6 < bcn (Use σ) 10
  · rw [h1.1 h, h2.1 h]
  · obtain ⟨r, rfl, a1, a2⟩ := h1.2 (by omega)
    obtain ⟨s, rfl, b1, b2⟩ := h2.2 (by omega)
    have e1 := a2 s b1
    have e2 := b2 r a1
    have e : Unv σ g r = Unv σ g s := Nat.le_antisymm e1.1 e2.1
    congr 1
    exact Nat.le_antisymm (e1.2 e.symm) (e2.2 e)
-- ===== what the class has laid by =====
def LC1 : List (Nat × Nat) := [(13, 999)]
def C10 (σ : Sg) (M : Mm) : Prop := ∀ l, l < sL σ → M.2 13 l = -1 ∨ ∃ S, IsLns (sInk σ l) S ∧ M.2 13 l = lN S
def C1 (σ : Sg) (M : Mm) : Prop := C10 σ (vw LC1 M)
theorem C1.fr {σ : Sg} {L : List (Nat × Nat)} {M M' : Mm} (h : C1 σ M) (hf : Fr L M M') (hd : disjW L LC1 = true) : C1 σ M' := by
  unfold C1
  rw [vw_fr hf hd]
  exact h
def LC2 : List (Nat × Nat) := [(24, 5), (25, 999)]
def C20 (σ : Sg) (M : Mm) : Prop := M.1 24 5 = nI (sH σ) ∧ ∀ h, h < sH σ → ∀ k, k < 8 → M.2 25 (8 * h + k) = tur (sHol σ h) k
def C2 (σ : Sg) (M : Mm) : Prop := C20 σ (vw LC2 M)
theorem C2.fr {σ : Sg} {L : List (Nat × Nat)} {M M' : Mm} (h : C2 σ M) (hf : Fr L M M') (hd : disjW L LC2 = true) : C2 σ M' := by
  unfold C2
  rw [vw_fr hf hd]
  exact h
def LC3 : List (Nat × Nat) := [(29, 999)]
def C30 (σ : Sg) (M : Mm) : Prop := ∀ t, t ≤ 64 → (M.1 29 (2 * t) = -2 ∨ ∃ S, IsPun σ t false S ∧ M.1 29 (2 * t) = nI S) ∧ (M.1 29 (2 * t + 1) = -2 ∨ ∃ S, IsPun σ t true S ∧ M.1 29 (2 * t + 1) = nI S)
def C3 (σ : Sg) (M : Mm) : Prop := C30 σ (vw LC3 M)
theorem C3.fr {σ : Sg} {L : List (Nat × Nat)} {M M' : Mm} (h : C3 σ M) (hf : Fr L M M') (hd : disjW L LC3 = true) : C3 σ M' := by
  unfold C3
  rw [vw_fr hf hd]
  exact h
def cntW (σ : Sg) (w l : Nat) : Nat := bcn (fun k => decide (sWl σ w k = l)) (sLen σ w)
def LC4 : List (Nat × Nat) := [(34, 0), (34, 1), (35, 999), (36, 999), (37, 999), (43, 999)]
def C40 (σ : Sg) (M : Mm) : Prop := M.1 34 0 = nI (sL σ) ∧ M.1 34 1 = nI (sW σ) ∧ (∀ l, l < sL σ → M.1 35 l = nI (pop (sInk σ l)) ∧ M.1 36 l = nI (pop (Bes (sInk σ l))) ∧ M.1 37 l = nI (brN (sInk σ l))) ∧ ∀ w, w < sW σ → ∀ l, l < 10 → M.1 43 (10 * w + l) = nI (cntW σ w l)
def C4 (σ : Sg) (M : Mm) : Prop := C40 σ (vw LC4 M)
theorem C4.fr {σ : Sg} {L : List (Nat × Nat)} {M M' : Mm} (h : C4 σ M) (hf : Fr L M M') (hd : disjW L LC4 = true) : C4 σ M' := by
  unfold C4
  rw [vw_fr hf hd]
  exact h
def LC5 : List (Nat × Nat) := [(38, 999)]
def C50 (σ : Sg) (M : Mm) : Prop := ∀ g, g ≤ 16 → M.1 38 g = -2 ∨ (IsEvn σ g (M.1 38 g))
def C5 (σ : Sg) (M : Mm) : Prop := C50 σ (vw LC5 M)
theorem C5.fr {σ : Sg} {L : List (Nat × Nat)} {M M' : Mm} (h : C5 σ M) (hf : Fr L M M') (hd : disjW L LC5 = true) : C5 σ M' := by
  unfold C5
  rw [vw_fr hf hd]
  exact h
/-- the class's side alone, the model's side alone, and all -/
def RC (σ : Sg) (M : Mm) : Prop := SC σ M ∧ C1 σ M ∧ C2 σ M ∧ C3 σ M ∧ C4 σ M ∧ C5 σ M
def Rl (σ : Sg) (β : Bn) (M : Mm) : Prop := Good σ ∧ GoodB σ β ∧ RC σ M ∧ SM σ M ∧ BC β 50 M ∧ BM β M ∧ TP M ∧ IM σ M
def Rel (M : Mm) : Prop := ∃ σ β, Rl σ β M
def LRC : List (Nat × Nat) := LSC ++ LC1 ++ LC2 ++ LC3 ++ LC4 ++ LC5
def LRl : List (Nat × Nat) := LRC ++ LSM ++ LBC 50 ++ LBM ++ LTP ++ LIM
theorem disj_app {L A B : List (Nat × Nat)} (h : disjW L (A ++ B) = true) : disjW L A = true ∧ disjW L B = true := by
  unfold disjW at h ⊢
  simp only [List.all_eq_true] at h ⊢
  exact ⟨fun q hq r hr => h q hq r (List.mem_append_left _ hr), fun q hq r hr => h q hq r (List.mem_append_right _ hr)⟩
theorem RC.fr {σ : Sg} {L : List (Nat × Nat)} {M M' : Mm} (h : RC σ M) (hf : Fr L M M') (hd : disjW L LRC = true) : RC σ M' := by
  obtain ⟨h1, h2, h3, h4, h5, h6⟩ := h
  obtain ⟨hd, d6⟩ := disj_app hd
  obtain ⟨hd, d5⟩ := disj_app hd
  obtain ⟨hd, d4⟩ := disj_app hd
  obtain ⟨hd, d3⟩ := disj_app hd
  obtain ⟨d1, d2⟩ := disj_app hd
  exact ⟨h1.fr hf d1, h2.fr hf d2, h3.fr hf d3, h4.fr hf d4, h5.fr hf d5, h6.fr hf d6⟩
theorem Rl.fr {σ : Sg} {β : Bn} {L : List (Nat × Nat)} {M M' : Mm} (h : Rl σ β M) (hf : Fr L M M') (hd : disjW L LRl = true) : Rl σ β M' := by
  obtain ⟨h1, h2, h3, h4, h5, h6, h7, h8⟩ := h
  obtain ⟨hd, d8⟩ := disj_app hd
  obtain ⟨hd, d7⟩ := disj_app hd
  obtain ⟨hd, d6⟩ := disj_app hd
  obtain ⟨hd, d5⟩ := disj_app hd
  obtain ⟨d3, d4⟩ := disj_app hd
  exact ⟨h1, h2, h3.fr hf d3, h4.fr hf d4, h5.fr hf d5, h6.fr hf d6, h7.fr hf d7, h8.fr hf d8⟩
theorem Rel.fr {L : List (Nat × Nat)} {M M' : Mm} (h : Rel M) (hf : Fr L M M') (hd : disjW L LRl = true) : Rel M' := by
  obtain ⟨σ, β, h⟩ := h
  exact ⟨σ, β, h.fr hf hd⟩
-- ===== what a step of the law asks of a call =====
def AnsI (cl : Option (Int32 × Mm)) (md : Mm → Option (Int32 × Mm)) : Prop := ∃ v M1 w M2, cl = some (v, M1) ∧ md M1 = some (w, M2) ∧ M2.1 67 0 = v ∧ (v = 0 → M2.2 120 0 = w.toInt64) ∧ Rel M2
def AnsJ (cl : Option (Int32 × Mm)) (md : Mm → Option (Int64 × Mm)) : Prop := ∃ v M1 w M2, cl = some (v, M1) ∧ md M1 = some (w, M2) ∧ M2.1 67 0 = v ∧ (v = 0 → M2.2 120 0 = w) ∧ Rel M2
-- ===== ranges =====
def inI (a b c : Int32) : Bool := decide (b ≤ a) && decide (a ≤ c)
theorem nle_lt {a b : Int32} (h : ¬ a ≤ b) : b < a := by
  rw [Int32.le_iff_toInt_le] at h
  rw [Int32.lt_iff_toInt_lt]
  omega
theorem lt_nle {a b : Int32} (h : b < a) : ¬ a ≤ b := by
  rw [Int32.lt_iff_toInt_lt] at h
  rw [Int32.le_iff_toInt_le]
  omega
theorem f_inI (a b c : Int32) : f_X10_in a b c = some (if inI a b c then 1 else 0) := by
  show (if a < b then (some (0 : Int32)) else (if c < a then (some (0 : Int32)) else (some (1 : Int32)))) = _
  unfold inI
  by_cases h1 : b ≤ a
  · by_cases h2 : a ≤ c
    · rw [if_neg (fun q => lt_nle q h1), if_neg (fun q => lt_nle q h2)]
      simp [h1, h2]
    · rw [if_neg (fun q => lt_nle q h1), if_pos (nle_lt h2)]
      simp [h2]
  · rw [if_pos (nle_lt h1)]
    simp [h1]
theorem f_needR {a b c : Int32} (h : inI a b c = true) : f_X9_needRange a b c = some () := by
  unfold inI at h
  simp only [Bool.and_eq_true, decide_eq_true_eq] at h
  show (if a < b then none else (if a ≤ c then (some ()) else none)) = _
  rw [if_neg (fun q => lt_nle q h.1), if_pos h.2]
theorem t_needR_t {a b c : Int32} (h : inI a b c = true) : t_X9_needRange a b c = none := by
  unfold inI at h
  simp only [Bool.and_eq_true, decide_eq_true_eq] at h
  show (if a < b then (some 2) else (if a ≤ c then none else (some 2))) = _
  rw [if_neg (fun q => lt_nle q h.1), if_pos h.2]
theorem t_needR_f {a b c : Int32} (h : inI a b c = false) : t_X9_needRange a b c = some 2 := by
  unfold inI at h
  show (if a < b then (some 2) else (if a ≤ c then none else (some 2))) = _
  by_cases h1 : b ≤ a
  · have h2 : ¬ a ≤ c := by
      intro q
      simp [h1, q] at h
    rw [if_neg (fun q => lt_nle q h1), if_neg h2]
  · rw [if_pos (nle_lt h1)]
theorem inI_nI {a : Int32} {b c : Nat} (hc : c < 2 ^ 31) (h : inI a (nI b) (nI c) = true) (hb : b ≤ c) : ∃ k, a = nI k ∧ b ≤ k ∧ k ≤ c := by
  unfold inI at h
  simp only [Bool.and_eq_true, decide_eq_true_eq] at h
  have h0 : ¬ a < 0 := by
    intro q
    have q1 := h.1
    rw [Int32.le_iff_toInt_le, nI_toInt (by omega)] at q1
    rw [Int32.lt_iff_toInt_lt] at q
    have e : (0 : Int32).toInt = 0 := rfl
    omega
  obtain ⟨j, hj, rfl⟩ := nI_of h0
  exact ⟨j, rfl, (nI_leI (by omega) hj).mp h.1, (nI_leI hj hc).mp h.2⟩
theorem bad0 {k : Int32} {M : Mm} (h : M.1 67 0 = 0) : f_X10_bad_67 0 k M = some (0, M) := by
  unfold f_X10_bad_67 bb_X10_bad_67_0
  rw [if_pos rfl, if_pos h]
theorem bad1 {k : Int32} {M : Mm} (h : M.1 67 0 = 0) (hk : k ≠ 0) : f_X10_bad_67 1 k M = some (1, wI M 67 0 k) := by
  unfold f_X10_bad_67 bb_X10_bad_67_0
  rw [if_neg (by decide), if_pos h, ltv_eq, if_neg]
  exact hk
theorem Fr.two {L : List (Nat × Nat)} {M : Mm} {a b : Int32} (hL : inW L 67 0 = true) : Fr L M (wI (wI M 67 0 a) 67 0 b) := Fr.tr (Fr.wrI hL) (Fr.wrI hL)
