-- ===== the text, and what stands in it =====
def Tx (h : Nat → Int32) (n : Nat) : Prop := n ≤ 500 ∧ ∀ i, n ≤ i → h i = -1
def rn (P : Nat → Bool) : Nat → Nat → Nat
  | 0, a => a
  | d + 1, a => if P a then rn P d (a + 1) else a
theorem rn_ok {P : Nat → Bool} {n : Nat} (hP : ∀ i, n ≤ i → P i = false) : ∀ d a, n ≤ a + d → a ≤ rn P d a ∧ (∀ i, a ≤ i → i < rn P d a → P i = true) ∧ P (rn P d a) = false
  | 0, a, h => ⟨Nat.le_refl _, fun i h1 h2 => absurd (show i < a from h2) (by omega), hP a h⟩
  | d + 1, a, h => by
    show a ≤ (if P a then rn P d (a + 1) else a) ∧ (∀ i, a ≤ i → i < (if P a then rn P d (a + 1) else a) → P i = true) ∧ P (if P a then rn P d (a + 1) else a) = false
    cases e : P a with
    | false =>
      rw [if_neg (by decide)]
      exact ⟨Nat.le_refl _, fun i h1 h2 => absurd h2 (by omega), e⟩
    | true =>
      rw [if_pos rfl]
      have q := rn_ok hP d (a + 1) (by omega)
      refine ⟨by omega, fun i h1 h2 => ?_, q.2.2⟩
      by_cases z : i = a
      · rw [z]
        exact e
      · exact q.2.1 i (by omega) h2
theorem rn_u {P : Nat → Bool} {n a j : Nat} (hn : n ≤ 500) (hP : ∀ i, n ≤ i → P i = false) (h1 : a ≤ j) (h2 : ∀ i, a ≤ i → i < j → P i = true) (h3 : P j = false) : rn P 500 a = j := by
  obtain ⟨q1, q2, q3⟩ := rn_ok hP 500 a (by omega)
  rcases Nat.lt_trichotomy (rn P 500 a) j with z | z | z
  · rw [h2 _ q1 z] at q3
    cases q3
  · exact z
  · rw [q2 j h1 z] at h3
    cases h3
theorem rn_le {P : Nat → Bool} {n a : Nat} (hn : n ≤ 500) (hP : ∀ i, n ≤ i → P i = false) (ha : a ≤ n) : rn P 500 a ≤ n := by
  obtain ⟨q1, q2, q3⟩ := rn_ok hP 500 a (by omega)
  apply Classical.byContradiction
  intro z
  have := q2 n ha (by omega)
  rw [hP n (Nat.le_refl _)] at this
  cases this
def sk (h : Nat → Int32) (a : Nat) : Nat := rn (fun i => decide (h i = 32)) 500 a
def dE (h : Nat → Int32) (a : Nat) : Nat := rn (fun i => inI (h i) 48 57) 500 a
def aE (h : Nat → Int32) (a : Nat) : Nat := rn (fun i => inI (h i) 97 122) 500 a
theorem Tx.b {h : Nat → Int32} {n : Nat} (t : Tx h n) : ∀ i, n ≤ i → decide (h i = 32) = false := fun i hi => by rw [t.2 i hi]; decide
theorem Tx.d {h : Nat → Int32} {n : Nat} (t : Tx h n) : ∀ i, n ≤ i → inI (h i) 48 57 = false := fun i hi => by rw [t.2 i hi]; decide
theorem Tx.a {h : Nat → Int32} {n : Nat} (t : Tx h n) : ∀ i, n ≤ i → inI (h i) 97 122 = false := fun i hi => by rw [t.2 i hi]; decide
theorem sk_ok {h : Nat → Int32} {n : Nat} (t : Tx h n) (a : Nat) : a ≤ sk h a ∧ ¬ h (sk h a) = 32 := by
  have := rn_ok t.b 500 a (by have := t.1; omega)
  exact ⟨this.1, of_decide_eq_false this.2.2⟩
theorem sk_id {h : Nat → Int32} {n a : Nat} (t : Tx h n) (ha : ¬ h a = 32) : sk h a = a := rn_u t.1 t.b (Nat.le_refl _) (fun i h1 h2 => absurd h2 (by omega)) (decide_eq_false ha)
theorem sk_le {h : Nat → Int32} {n a : Nat} (t : Tx h n) (ha : a ≤ n) : sk h a ≤ n := rn_le t.1 t.b ha
theorem dE_le {h : Nat → Int32} {n a : Nat} (t : Tx h n) (ha : a ≤ n) : dE h a ≤ n := rn_le t.1 t.d ha
theorem aE_le {h : Nat → Int32} {n a : Nat} (t : Tx h n) (ha : a ≤ n) : aE h a ≤ n := rn_le t.1 t.a ha
theorem dE_ok {h : Nat → Int32} {n : Nat} (t : Tx h n) (a : Nat) : a ≤ dE h a ∧ (∀ i, a ≤ i → i < dE h a → inI (h i) 48 57 = true) ∧ inI (h (dE h a)) 48 57 = false := rn_ok t.d 500 a (by have := t.1; omega)
theorem aE_ok {h : Nat → Int32} {n : Nat} (t : Tx h n) (a : Nat) : a ≤ aE h a ∧ (∀ i, a ≤ i → i < aE h a → inI (h i) 97 122 = true) ∧ inI (h (aE h a)) 97 122 = false := rn_ok t.a 500 a (by have := t.1; omega)
-- ===== the class's reader =====
theorem inI_f1 {v b c : Int32} (h : v < b) : inI v b c = false := by
  unfold inI
  rw [decide_eq_false (lt_nle h)]
  rfl
theorem inI_f2 {v b c : Int32} (h : c < v) : inI v b c = false := by
  unfold inI
  rw [decide_eq_false (lt_nle h), Bool.and_false]
theorem inI_t {v b c : Int32} (h1 : ¬ v < b) (h2 : ¬ c < v) : inI v b c = true := by
  unfold inI
  rw [decide_eq_true (Classical.byContradiction fun z => h1 (nle_lt z)), decide_eq_true (Classical.byContradiction fun z => h2 (nle_lt z))]
  rfl
theorem inI_t1 {v b c : Int32} (h : inI v b c = true) : ¬ v < b ∧ ¬ c < v := by
  constructor
  · intro z
    rw [inI_f1 z] at h
    cases h
  · intro z
    rw [inI_f2 z] at h
    cases h
def TC (h : Nat → Int32) (n : Nat) (M : Mm) : Prop := M.1 1 3 = nI n ∧ ∀ i, i < n → M.1 2 i = h i
theorem TC.f4 {h : Nat → Int32} {n : Nat} {M M' : Mm} (t : TC h n M) (f : Fr [(1, 4)] M M') : TC h n M' := ⟨((f 1 3 rfl).1).trans t.1, fun i hi => ((f 2 i rfl).1).trans (t.2 i hi)⟩
theorem here_c {h : Nat → Int32} {n a : Nat} {M : Mm} (t : Tx h n) (hT : TC h n M) (ha : M.1 1 4 = nI a) (hl : a ≤ n) : f_X8_here_1 M = some (h a) := by
  have h5 := t.1
  unfold f_X8_here_1 bb_X8_here_1_0
  rw [ha, hT.1, if_neg (nI_pos (by omega))]
  by_cases c : a < n
  · rw [if_neg (nI_ge c (by omega)), gd_of (inb_nI (by omega) (by decide)), ix_nI (by omega), hT.2 a c]
  · rw [if_pos (nI_le (by omega) (by omega)), t.2 a (by omega)]
theorem skip_c {h : Nat → Int32} {n a : Nat} {M : Mm} (t : Tx h n) (hT : TC h n M) (ha : M.1 1 4 = nI a) (hl : a ≤ n) : ∃ M', f_X8_skipBlanks_1 M = some M' ∧ Fr [(1, 4)] M M' ∧ M'.1 1 4 = nI (sk h a) := by
  have h5 := t.1
  have fin : ∀ k (x : Mm), Fr [(1, 4)] M x ∧ a + k ≤ n ∧ x.1 1 4 = nI (a + k) ∧ (∀ i, a ≤ i → i < a + k → h i = 32) → ¬ h (a + k) = 32 → ∃ M', some x = some M' ∧ Fr [(1, 4)] M M' ∧ M'.1 1 4 = nI (sk h a) := by
    rintro k x ⟨f1, l1, x4, hb⟩ hk
    refine ⟨x, rfl, f1, ?_⟩
    rw [x4]
    congr 1
    exact (rn_u t.1 t.b (by omega) (fun i h1 h2 => decide_eq_true (hb i h1 h2)) (decide_eq_false hk)).symm
  refine for_q (fun q k (x : Mm) => b_X8_skipBlanks_1_2 q (nI k) x) 500 (fun k x => Fr [(1, 4)] M x ∧ a + k ≤ n ∧ x.1 1 4 = nI (a + k) ∧ ∀ i, a ≤ i → i < a + k → h i = 32) (fun o => ∃ M', o = some M' ∧ Fr [(1, 4)] M M' ∧ M'.1 1 4 = nI (sk h a)) ?_ ?_ 500 0 M FU rfl (by decide) ⟨Fr.refl, hl, ha, fun i h1 h2 => absurd h2 (by omega)⟩
  · intro q k x hk hI
    obtain ⟨f1, l1, x4, hb⟩ := id hI
    show (∃ M', bb_X8_skipBlanks_1_2 _ _ _ = _ ∧ _) ∨ ∃ a', bb_X8_skipBlanks_1_2 _ _ _ = _ ∧ _
    unfold bb_X8_skipBlanks_1_2
    rw [if_neg (show ¬ (500 : Int32) ≤ nI k from nI_ge (b := 500) hk (by decide)), here_c t (hT.f4 f1) x4 l1, bd_some]
    by_cases c : h (a + k) = 32
    · right
      rw [if_pos c]
      have : a + k < n := by
        apply Classical.byContradiction
        intro z
        rw [t.2 _ (by omega)] at c
        exact absurd c (by decide)
      refine ⟨wI x 1 4 (nI (a + (k + 1))), ?_, Fr.tr f1 (Fr.wrI rfl), by omega, wI_at, fun i h1 h2 => ?_⟩
      · rw [ltv_eq, ltv_eq, x4, nI_1, nI_1]
        rfl
      · by_cases z : i = a + k
        · rw [z]
          exact c
        · exact hb i h1 (by omega)
    · left
      rw [if_neg c]
      exact fin k x hI c
  · intro q x hI
    obtain ⟨f1, l1, x4, hb⟩ := id hI
    show ∃ M', bb_X8_skipBlanks_1_2 _ _ _ = _ ∧ _
    unfold bb_X8_skipBlanks_1_2
    rw [if_pos (by decide)]
    refine fin 500 x hI ?_
    rw [t.2 _ (by omega)]
    decide
abbrev StP (h : Nat → Int32) (a e j N : Nat) : Prop := e = a + N ∧ ∀ k, k < N → h (a + k) = strC j k
theorem stands_c0 {h : Nat → Int32} {n a e : Nat} {M : Mm} (t : Tx h n) (hT : TC h n M) (he : M.1 1 4 = nI e) (hae : a ≤ e) (hl : e ≤ n) : ∃ r, f_X8_stands_1_s0 (nI a) M = some r ∧ ((r = 1 ∧ StP h a e 0 6) ∨ (r = 0 ∧ ¬ StP h a e 0 6)) := by
  have h5 := t.1
  unfold f_X8_stands_1_s0 bb_X8_stands_1_s0_0
  rw [if_neg (nI_pos (by omega)), he, nI_sub hae]
  by_cases c : e - a = 6
  · rw [c, if_pos (show nI 6 = (6 : Int32) from rfl)]
    refine for_q (fun q k (_ : Unit) => b_X8_stands_1_s0_21 q (nI a) (nI k) M) 6 (fun k _ => ∀ i, i < k → h (a + i) = strC 0 i) (fun o => ∃ r, o = some r ∧ ((r = 1 ∧ StP h a e 0 6) ∨ (r = 0 ∧ ¬ StP h a e 0 6))) ?_ ?_ 6 0 () FU rfl (by decide) (fun i hi => absurd hi (by omega))
    · intro q k _ hk hI
      show (∃ r, bb_X8_stands_1_s0_21 _ _ _ _ = _ ∧ _) ∨ ∃ a', bb_X8_stands_1_s0_21 _ _ _ _ = _ ∧ _
      unfold bb_X8_stands_1_s0_21
      rw [if_neg (show ¬ (6 : Int32) ≤ nI k from nI_ge (b := 6) hk (by decide)), nI_add, hT.1, if_neg (nI_ge (show a + k < n by omega) (by omega)), gd_of (inb_nI (by omega) (by decide)), gd_of (inb_nI hk (by decide)), ix_nI (by omega), ix_nI (by omega), hT.2 _ (by omega)]
      by_cases z : h (a + k) = strC 0 k
      · right
        rw [if_pos z, ltv_eq, nI_1]
        refine ⟨(), rfl, fun i hi => ?_⟩
        by_cases y : i = k
        · rw [y]
          exact z
        · exact hI i (by omega)
      · left
        rw [if_neg z]
        exact ⟨0, rfl, Or.inr ⟨rfl, fun y => z (y.2 k hk)⟩⟩
    · intro q _ hI
      show ∃ r, bb_X8_stands_1_s0_21 _ _ _ _ = _ ∧ _
      unfold bb_X8_stands_1_s0_21
      rw [if_pos (by decide)]
      exact ⟨1, rfl, Or.inl ⟨rfl, by omega, hI⟩⟩
  · rw [if_neg (show ¬ nI (e - a) = (6 : Int32) from fun z => c ((nI_eq (b := 6) (by omega) (by decide)).mp z))]
    exact ⟨0, rfl, Or.inr ⟨rfl, fun y => c (by have := y.1; omega)⟩⟩
theorem stands_c1 {h : Nat → Int32} {n a e : Nat} {M : Mm} (t : Tx h n) (hT : TC h n M) (he : M.1 1 4 = nI e) (hae : a ≤ e) (hl : e ≤ n) : ∃ r, f_X8_stands_1_s1 (nI a) M = some r ∧ ((r = 1 ∧ StP h a e 1 6) ∨ (r = 0 ∧ ¬ StP h a e 1 6)) := by
  have h5 := t.1
  unfold f_X8_stands_1_s1 bb_X8_stands_1_s1_0
  rw [if_neg (nI_pos (by omega)), he, nI_sub hae]
  by_cases c : e - a = 6
  · rw [c, if_pos (show nI 6 = (6 : Int32) from rfl)]
    refine for_q (fun q k (_ : Unit) => b_X8_stands_1_s1_21 q (nI a) (nI k) M) 6 (fun k _ => ∀ i, i < k → h (a + i) = strC 1 i) (fun o => ∃ r, o = some r ∧ ((r = 1 ∧ StP h a e 1 6) ∨ (r = 0 ∧ ¬ StP h a e 1 6))) ?_ ?_ 6 0 () FU rfl (by decide) (fun i hi => absurd hi (by omega))
    · intro q k _ hk hI
      show (∃ r, bb_X8_stands_1_s1_21 _ _ _ _ = _ ∧ _) ∨ ∃ a', bb_X8_stands_1_s1_21 _ _ _ _ = _ ∧ _
      unfold bb_X8_stands_1_s1_21
      rw [if_neg (show ¬ (6 : Int32) ≤ nI k from nI_ge (b := 6) hk (by decide)), nI_add, hT.1, if_neg (nI_ge (show a + k < n by omega) (by omega)), gd_of (inb_nI (by omega) (by decide)), gd_of (inb_nI hk (by decide)), ix_nI (by omega), ix_nI (by omega), hT.2 _ (by omega)]
      by_cases z : h (a + k) = strC 1 k
      · right
        rw [if_pos z, ltv_eq, nI_1]
        refine ⟨(), rfl, fun i hi => ?_⟩
        by_cases y : i = k
        · rw [y]
          exact z
        · exact hI i (by omega)
      · left
        rw [if_neg z]
        exact ⟨0, rfl, Or.inr ⟨rfl, fun y => z (y.2 k hk)⟩⟩
    · intro q _ hI
      show ∃ r, bb_X8_stands_1_s1_21 _ _ _ _ = _ ∧ _
      unfold bb_X8_stands_1_s1_21
      rw [if_pos (by decide)]
      exact ⟨1, rfl, Or.inl ⟨rfl, by omega, hI⟩⟩
  · rw [if_neg (show ¬ nI (e - a) = (6 : Int32) from fun z => c ((nI_eq (b := 6) (by omega) (by decide)).mp z))]
    exact ⟨0, rfl, Or.inr ⟨rfl, fun y => c (by have := y.1; omega)⟩⟩
theorem stands_c2 {h : Nat → Int32} {n a e : Nat} {M : Mm} (t : Tx h n) (hT : TC h n M) (he : M.1 1 4 = nI e) (hae : a ≤ e) (hl : e ≤ n) : ∃ r, f_X8_stands_1_s2 (nI a) M = some r ∧ ((r = 1 ∧ StP h a e 2 6) ∨ (r = 0 ∧ ¬ StP h a e 2 6)) := by
  have h5 := t.1
  unfold f_X8_stands_1_s2 bb_X8_stands_1_s2_0
  rw [if_neg (nI_pos (by omega)), he, nI_sub hae]
  by_cases c : e - a = 6
  · rw [c, if_pos (show nI 6 = (6 : Int32) from rfl)]
    refine for_q (fun q k (_ : Unit) => b_X8_stands_1_s2_21 q (nI a) (nI k) M) 6 (fun k _ => ∀ i, i < k → h (a + i) = strC 2 i) (fun o => ∃ r, o = some r ∧ ((r = 1 ∧ StP h a e 2 6) ∨ (r = 0 ∧ ¬ StP h a e 2 6))) ?_ ?_ 6 0 () FU rfl (by decide) (fun i hi => absurd hi (by omega))
    · intro q k _ hk hI
      show (∃ r, bb_X8_stands_1_s2_21 _ _ _ _ = _ ∧ _) ∨ ∃ a', bb_X8_stands_1_s2_21 _ _ _ _ = _ ∧ _
      unfold bb_X8_stands_1_s2_21
      rw [if_neg (show ¬ (6 : Int32) ≤ nI k from nI_ge (b := 6) hk (by decide)), nI_add, hT.1, if_neg (nI_ge (show a + k < n by omega) (by omega)), gd_of (inb_nI (by omega) (by decide)), gd_of (inb_nI hk (by decide)), ix_nI (by omega), ix_nI (by omega), hT.2 _ (by omega)]
      by_cases z : h (a + k) = strC 2 k
      · right
        rw [if_pos z, ltv_eq, nI_1]
        refine ⟨(), rfl, fun i hi => ?_⟩
        by_cases y : i = k
        · rw [y]
          exact z
        · exact hI i (by omega)
      · left
        rw [if_neg z]
        exact ⟨0, rfl, Or.inr ⟨rfl, fun y => z (y.2 k hk)⟩⟩
    · intro q _ hI
      show ∃ r, bb_X8_stands_1_s2_21 _ _ _ _ = _ ∧ _
      unfold bb_X8_stands_1_s2_21
      rw [if_pos (by decide)]
      exact ⟨1, rfl, Or.inl ⟨rfl, by omega, hI⟩⟩
  · rw [if_neg (show ¬ nI (e - a) = (6 : Int32) from fun z => c ((nI_eq (b := 6) (by omega) (by decide)).mp z))]
    exact ⟨0, rfl, Or.inr ⟨rfl, fun y => c (by have := y.1; omega)⟩⟩
theorem stands_c3 {h : Nat → Int32} {n a e : Nat} {M : Mm} (t : Tx h n) (hT : TC h n M) (he : M.1 1 4 = nI e) (hae : a ≤ e) (hl : e ≤ n) : ∃ r, f_X8_stands_1_s3 (nI a) M = some r ∧ ((r = 1 ∧ StP h a e 3 3) ∨ (r = 0 ∧ ¬ StP h a e 3 3)) := by
  have h5 := t.1
  unfold f_X8_stands_1_s3 bb_X8_stands_1_s3_0
  rw [if_neg (nI_pos (by omega)), he, nI_sub hae]
  by_cases c : e - a = 3
  · rw [c, if_pos (show nI 3 = (3 : Int32) from rfl)]
    refine for_q (fun q k (_ : Unit) => b_X8_stands_1_s3_21 q (nI a) (nI k) M) 3 (fun k _ => ∀ i, i < k → h (a + i) = strC 3 i) (fun o => ∃ r, o = some r ∧ ((r = 1 ∧ StP h a e 3 3) ∨ (r = 0 ∧ ¬ StP h a e 3 3))) ?_ ?_ 3 0 () FU rfl (by decide) (fun i hi => absurd hi (by omega))
    · intro q k _ hk hI
      show (∃ r, bb_X8_stands_1_s3_21 _ _ _ _ = _ ∧ _) ∨ ∃ a', bb_X8_stands_1_s3_21 _ _ _ _ = _ ∧ _
      unfold bb_X8_stands_1_s3_21
      rw [if_neg (show ¬ (3 : Int32) ≤ nI k from nI_ge (b := 3) hk (by decide)), nI_add, hT.1, if_neg (nI_ge (show a + k < n by omega) (by omega)), gd_of (inb_nI (by omega) (by decide)), gd_of (inb_nI hk (by decide)), ix_nI (by omega), ix_nI (by omega), hT.2 _ (by omega)]
      by_cases z : h (a + k) = strC 3 k
      · right
        rw [if_pos z, ltv_eq, nI_1]
        refine ⟨(), rfl, fun i hi => ?_⟩
        by_cases y : i = k
        · rw [y]
          exact z
        · exact hI i (by omega)
      · left
        rw [if_neg z]
        exact ⟨0, rfl, Or.inr ⟨rfl, fun y => z (y.2 k hk)⟩⟩
    · intro q _ hI
      show ∃ r, bb_X8_stands_1_s3_21 _ _ _ _ = _ ∧ _
      unfold bb_X8_stands_1_s3_21
      rw [if_pos (by decide)]
      exact ⟨1, rfl, Or.inl ⟨rfl, by omega, hI⟩⟩
  · rw [if_neg (show ¬ nI (e - a) = (3 : Int32) from fun z => c ((nI_eq (b := 3) (by omega) (by decide)).mp z))]
    exact ⟨0, rfl, Or.inr ⟨rfl, fun y => c (by have := y.1; omega)⟩⟩
theorem stands_c4 {h : Nat → Int32} {n a e : Nat} {M : Mm} (t : Tx h n) (hT : TC h n M) (he : M.1 1 4 = nI e) (hae : a ≤ e) (hl : e ≤ n) : ∃ r, f_X8_stands_1_s4 (nI a) M = some r ∧ ((r = 1 ∧ StP h a e 4 4) ∨ (r = 0 ∧ ¬ StP h a e 4 4)) := by
  have h5 := t.1
  unfold f_X8_stands_1_s4 bb_X8_stands_1_s4_0
  rw [if_neg (nI_pos (by omega)), he, nI_sub hae]
  by_cases c : e - a = 4
  · rw [c, if_pos (show nI 4 = (4 : Int32) from rfl)]
    refine for_q (fun q k (_ : Unit) => b_X8_stands_1_s4_21 q (nI a) (nI k) M) 4 (fun k _ => ∀ i, i < k → h (a + i) = strC 4 i) (fun o => ∃ r, o = some r ∧ ((r = 1 ∧ StP h a e 4 4) ∨ (r = 0 ∧ ¬ StP h a e 4 4))) ?_ ?_ 4 0 () FU rfl (by decide) (fun i hi => absurd hi (by omega))
    · intro q k _ hk hI
      show (∃ r, bb_X8_stands_1_s4_21 _ _ _ _ = _ ∧ _) ∨ ∃ a', bb_X8_stands_1_s4_21 _ _ _ _ = _ ∧ _
      unfold bb_X8_stands_1_s4_21
      rw [if_neg (show ¬ (4 : Int32) ≤ nI k from nI_ge (b := 4) hk (by decide)), nI_add, hT.1, if_neg (nI_ge (show a + k < n by omega) (by omega)), gd_of (inb_nI (by omega) (by decide)), gd_of (inb_nI hk (by decide)), ix_nI (by omega), ix_nI (by omega), hT.2 _ (by omega)]
      by_cases z : h (a + k) = strC 4 k
      · right
        rw [if_pos z, ltv_eq, nI_1]
        refine ⟨(), rfl, fun i hi => ?_⟩
        by_cases y : i = k
        · rw [y]
          exact z
        · exact hI i (by omega)
      · left
        rw [if_neg z]
        exact ⟨0, rfl, Or.inr ⟨rfl, fun y => z (y.2 k hk)⟩⟩
    · intro q _ hI
      show ∃ r, bb_X8_stands_1_s4_21 _ _ _ _ = _ ∧ _
      unfold bb_X8_stands_1_s4_21
      rw [if_pos (by decide)]
      exact ⟨1, rfl, Or.inl ⟨rfl, by omega, hI⟩⟩
  · rw [if_neg (show ¬ nI (e - a) = (4 : Int32) from fun z => c ((nI_eq (b := 4) (by omega) (by decide)).mp z))]
    exact ⟨0, rfl, Or.inr ⟨rfl, fun y => c (by have := y.1; omega)⟩⟩
theorem stands_c5 {h : Nat → Int32} {n a e : Nat} {M : Mm} (t : Tx h n) (hT : TC h n M) (he : M.1 1 4 = nI e) (hae : a ≤ e) (hl : e ≤ n) : ∃ r, f_X8_stands_1_s5 (nI a) M = some r ∧ ((r = 1 ∧ StP h a e 5 3) ∨ (r = 0 ∧ ¬ StP h a e 5 3)) := by
  have h5 := t.1
  unfold f_X8_stands_1_s5 bb_X8_stands_1_s5_0
  rw [if_neg (nI_pos (by omega)), he, nI_sub hae]
  by_cases c : e - a = 3
  · rw [c, if_pos (show nI 3 = (3 : Int32) from rfl)]
    refine for_q (fun q k (_ : Unit) => b_X8_stands_1_s5_21 q (nI a) (nI k) M) 3 (fun k _ => ∀ i, i < k → h (a + i) = strC 5 i) (fun o => ∃ r, o = some r ∧ ((r = 1 ∧ StP h a e 5 3) ∨ (r = 0 ∧ ¬ StP h a e 5 3))) ?_ ?_ 3 0 () FU rfl (by decide) (fun i hi => absurd hi (by omega))
    · intro q k _ hk hI
      show (∃ r, bb_X8_stands_1_s5_21 _ _ _ _ = _ ∧ _) ∨ ∃ a', bb_X8_stands_1_s5_21 _ _ _ _ = _ ∧ _
      unfold bb_X8_stands_1_s5_21
      rw [if_neg (show ¬ (3 : Int32) ≤ nI k from nI_ge (b := 3) hk (by decide)), nI_add, hT.1, if_neg (nI_ge (show a + k < n by omega) (by omega)), gd_of (inb_nI (by omega) (by decide)), gd_of (inb_nI hk (by decide)), ix_nI (by omega), ix_nI (by omega), hT.2 _ (by omega)]
      by_cases z : h (a + k) = strC 5 k
      · right
        rw [if_pos z, ltv_eq, nI_1]
        refine ⟨(), rfl, fun i hi => ?_⟩
        by_cases y : i = k
        · rw [y]
          exact z
        · exact hI i (by omega)
      · left
        rw [if_neg z]
        exact ⟨0, rfl, Or.inr ⟨rfl, fun y => z (y.2 k hk)⟩⟩
    · intro q _ hI
      show ∃ r, bb_X8_stands_1_s5_21 _ _ _ _ = _ ∧ _
      unfold bb_X8_stands_1_s5_21
      rw [if_pos (by decide)]
      exact ⟨1, rfl, Or.inl ⟨rfl, by omega, hI⟩⟩
  · rw [if_neg (show ¬ nI (e - a) = (3 : Int32) from fun z => c ((nI_eq (b := 3) (by omega) (by decide)).mp z))]
    exact ⟨0, rfl, Or.inr ⟨rfl, fun y => c (by have := y.1; omega)⟩⟩
theorem stands_c6 {h : Nat → Int32} {n a e : Nat} {M : Mm} (t : Tx h n) (hT : TC h n M) (he : M.1 1 4 = nI e) (hae : a ≤ e) (hl : e ≤ n) : ∃ r, f_X8_stands_1_s6 (nI a) M = some r ∧ ((r = 1 ∧ StP h a e 6 4) ∨ (r = 0 ∧ ¬ StP h a e 6 4)) := by
  have h5 := t.1
  unfold f_X8_stands_1_s6 bb_X8_stands_1_s6_0
  rw [if_neg (nI_pos (by omega)), he, nI_sub hae]
  by_cases c : e - a = 4
  · rw [c, if_pos (show nI 4 = (4 : Int32) from rfl)]
    refine for_q (fun q k (_ : Unit) => b_X8_stands_1_s6_21 q (nI a) (nI k) M) 4 (fun k _ => ∀ i, i < k → h (a + i) = strC 6 i) (fun o => ∃ r, o = some r ∧ ((r = 1 ∧ StP h a e 6 4) ∨ (r = 0 ∧ ¬ StP h a e 6 4))) ?_ ?_ 4 0 () FU rfl (by decide) (fun i hi => absurd hi (by omega))
    · intro q k _ hk hI
      show (∃ r, bb_X8_stands_1_s6_21 _ _ _ _ = _ ∧ _) ∨ ∃ a', bb_X8_stands_1_s6_21 _ _ _ _ = _ ∧ _
      unfold bb_X8_stands_1_s6_21
      rw [if_neg (show ¬ (4 : Int32) ≤ nI k from nI_ge (b := 4) hk (by decide)), nI_add, hT.1, if_neg (nI_ge (show a + k < n by omega) (by omega)), gd_of (inb_nI (by omega) (by decide)), gd_of (inb_nI hk (by decide)), ix_nI (by omega), ix_nI (by omega), hT.2 _ (by omega)]
      by_cases z : h (a + k) = strC 6 k
      · right
        rw [if_pos z, ltv_eq, nI_1]
        refine ⟨(), rfl, fun i hi => ?_⟩
        by_cases y : i = k
        · rw [y]
          exact z
        · exact hI i (by omega)
      · left
        rw [if_neg z]
        exact ⟨0, rfl, Or.inr ⟨rfl, fun y => z (y.2 k hk)⟩⟩
    · intro q _ hI
      show ∃ r, bb_X8_stands_1_s6_21 _ _ _ _ = _ ∧ _
      unfold bb_X8_stands_1_s6_21
      rw [if_pos (by decide)]
      exact ⟨1, rfl, Or.inl ⟨rfl, by omega, hI⟩⟩
  · rw [if_neg (show ¬ nI (e - a) = (4 : Int32) from fun z => c ((nI_eq (b := 4) (by omega) (by decide)).mp z))]
    exact ⟨0, rfl, Or.inr ⟨rfl, fun y => c (by have := y.1; omega)⟩⟩
theorem stands_c7 {h : Nat → Int32} {n a e : Nat} {M : Mm} (t : Tx h n) (hT : TC h n M) (he : M.1 1 4 = nI e) (hae : a ≤ e) (hl : e ≤ n) : ∃ r, f_X8_stands_1_s7 (nI a) M = some r ∧ ((r = 1 ∧ StP h a e 7 6) ∨ (r = 0 ∧ ¬ StP h a e 7 6)) := by
  have h5 := t.1
  unfold f_X8_stands_1_s7 bb_X8_stands_1_s7_0
  rw [if_neg (nI_pos (by omega)), he, nI_sub hae]
  by_cases c : e - a = 6
  · rw [c, if_pos (show nI 6 = (6 : Int32) from rfl)]
    refine for_q (fun q k (_ : Unit) => b_X8_stands_1_s7_21 q (nI a) (nI k) M) 6 (fun k _ => ∀ i, i < k → h (a + i) = strC 7 i) (fun o => ∃ r, o = some r ∧ ((r = 1 ∧ StP h a e 7 6) ∨ (r = 0 ∧ ¬ StP h a e 7 6))) ?_ ?_ 6 0 () FU rfl (by decide) (fun i hi => absurd hi (by omega))
    · intro q k _ hk hI
      show (∃ r, bb_X8_stands_1_s7_21 _ _ _ _ = _ ∧ _) ∨ ∃ a', bb_X8_stands_1_s7_21 _ _ _ _ = _ ∧ _
      unfold bb_X8_stands_1_s7_21
      rw [if_neg (show ¬ (6 : Int32) ≤ nI k from nI_ge (b := 6) hk (by decide)), nI_add, hT.1, if_neg (nI_ge (show a + k < n by omega) (by omega)), gd_of (inb_nI (by omega) (by decide)), gd_of (inb_nI hk (by decide)), ix_nI (by omega), ix_nI (by omega), hT.2 _ (by omega)]
      by_cases z : h (a + k) = strC 7 k
      · right
        rw [if_pos z, ltv_eq, nI_1]
        refine ⟨(), rfl, fun i hi => ?_⟩
        by_cases y : i = k
        · rw [y]
          exact z
        · exact hI i (by omega)
      · left
        rw [if_neg z]
        exact ⟨0, rfl, Or.inr ⟨rfl, fun y => z (y.2 k hk)⟩⟩
    · intro q _ hI
      show ∃ r, bb_X8_stands_1_s7_21 _ _ _ _ = _ ∧ _
      unfold bb_X8_stands_1_s7_21
      rw [if_pos (by decide)]
      exact ⟨1, rfl, Or.inl ⟨rfl, by omega, hI⟩⟩
  · rw [if_neg (show ¬ nI (e - a) = (6 : Int32) from fun z => c ((nI_eq (b := 6) (by omega) (by decide)).mp z))]
    exact ⟨0, rfl, Or.inr ⟨rfl, fun y => c (by have := y.1; omega)⟩⟩
def kwV (h : Nat → Int32) (a e : Nat) : Int32 := if StP h a e 0 6 then 0 else (if StP h a e 1 6 then 1 else (if StP h a e 2 6 then 2 else (if StP h a e 3 3 then 3 else (if StP h a e 4 4 then 4 else (if StP h a e 5 3 then 5 else (if StP h a e 6 4 then 6 else (if StP h a e 7 6 then 7 else -1)))))))
theorem kw48 {h : Nat → Int32} {n a e : Nat} {M : Mm} (t : Tx h n) (hT : TC h n M) (he : M.1 1 4 = nI e) (hae : a ≤ e) (hl : e ≤ n) : bb_X8_readKeyword_1_48 (nI a) M = some (kwV h a e, M) := by
  unfold bb_X8_readKeyword_1_48 kwV
  obtain ⟨r0, e0, c0⟩ := stands_c0 t hT he hae hl
  rw [e0, bd_some]
  rcases c0 with ⟨rfl, c0⟩ | ⟨rfl, c0⟩
  · rw [if_neg (by decide), if_pos c0]
  rw [if_pos rfl, if_neg c0]
  obtain ⟨r1, e1, c1⟩ := stands_c1 t hT he hae hl
  rw [e1, bd_some]
  rcases c1 with ⟨rfl, c1⟩ | ⟨rfl, c1⟩
  · rw [if_neg (by decide), if_pos c1]
  rw [if_pos rfl, if_neg c1]
  obtain ⟨r2, e2, c2⟩ := stands_c2 t hT he hae hl
  rw [e2, bd_some]
  rcases c2 with ⟨rfl, c2⟩ | ⟨rfl, c2⟩
  · rw [if_neg (by decide), if_pos c2]
  rw [if_pos rfl, if_neg c2]
  obtain ⟨r3, e3, c3⟩ := stands_c3 t hT he hae hl
  rw [e3, bd_some]
  rcases c3 with ⟨rfl, c3⟩ | ⟨rfl, c3⟩
  · rw [if_neg (by decide), if_pos c3]
  rw [if_pos rfl, if_neg c3]
  obtain ⟨r4, e4, c4⟩ := stands_c4 t hT he hae hl
  rw [e4, bd_some]
  rcases c4 with ⟨rfl, c4⟩ | ⟨rfl, c4⟩
  · rw [if_neg (by decide), if_pos c4]
  rw [if_pos rfl, if_neg c4]
  obtain ⟨r5, e5, c5⟩ := stands_c5 t hT he hae hl
  rw [e5, bd_some]
  rcases c5 with ⟨rfl, c5⟩ | ⟨rfl, c5⟩
  · rw [if_neg (by decide), if_pos c5]
  rw [if_pos rfl, if_neg c5]
  obtain ⟨r6, e6, c6⟩ := stands_c6 t hT he hae hl
  rw [e6, bd_some]
  rcases c6 with ⟨rfl, c6⟩ | ⟨rfl, c6⟩
  · rw [if_neg (by decide), if_pos c6]
  rw [if_pos rfl, if_neg c6]
  obtain ⟨r7, e7, c7⟩ := stands_c7 t hT he hae hl
  rw [e7, bd_some]
  rcases c7 with ⟨rfl, c7⟩ | ⟨rfl, c7⟩
  · rw [if_neg (by decide), if_pos c7]
  rw [if_pos rfl, if_neg c7]
theorem kw_c {h : Nat → Int32} {n a : Nat} {M : Mm} (t : Tx h n) (hT : TC h n M) (ha : M.1 1 4 = nI a) (hl : a ≤ n) : ∃ M', f_X8_readKeyword_1 M = some (kwV h a (aE h a), M') ∧ Fr [(1, 4)] M M' ∧ M'.1 1 4 = nI (aE h a) := by
  have h5 := t.1
  unfold f_X8_readKeyword_1 bb_X8_readKeyword_1_0
  rw [ltv_eq, ha]
  have fin : ∀ k (x : Mm), Fr [(1, 4)] M x ∧ a + k ≤ n ∧ x.1 1 4 = nI (a + k) ∧ (∀ i, a ≤ i → i < a + k → inI (h i) 97 122 = true) → inI (h (a + k)) 97 122 = false → ∃ M', bb_X8_readKeyword_1_48 (nI a) x = some (kwV h a (aE h a), M') ∧ Fr [(1, 4)] M M' ∧ M'.1 1 4 = nI (aE h a) := by
    rintro k x ⟨f1, l1, x4, hb⟩ hk
    have e : aE h a = a + k := rn_u t.1 t.a (by omega) hb hk
    rw [e]
    exact ⟨x, kw48 t (hT.f4 f1) x4 (by omega) l1, f1, x4⟩
  refine for_q (fun q k (x : Mm) => b_X8_readKeyword_1_7 q (nI a) (nI k) x) 500 (fun k x => Fr [(1, 4)] M x ∧ a + k ≤ n ∧ x.1 1 4 = nI (a + k) ∧ ∀ i, a ≤ i → i < a + k → inI (h i) 97 122 = true) (fun o => ∃ M', o = some (kwV h a (aE h a), M') ∧ Fr [(1, 4)] M M' ∧ M'.1 1 4 = nI (aE h a)) ?_ ?_ 500 0 M FU rfl (by decide) ⟨Fr.refl, hl, ha, fun i h1 h2 => absurd h2 (by omega)⟩
  · intro q k x hk hI
    obtain ⟨f1, l1, x4, hb⟩ := id hI
    show (∃ M', bb_X8_readKeyword_1_7 _ _ _ _ = _ ∧ _) ∨ ∃ a', bb_X8_readKeyword_1_7 _ _ _ _ = _ ∧ _
    unfold bb_X8_readKeyword_1_7
    rw [if_neg (show ¬ (500 : Int32) ≤ nI k from nI_ge (b := 500) hk (by decide)), here_c t (hT.f4 f1) x4 l1, bd_some, bd_some]
    by_cases c1 : h (a + k) < 97
    · left
      rw [if_pos c1]
      exact fin k x hI (inI_f1 c1)
    rw [if_neg c1]
    by_cases c2 : 122 < h (a + k)
    · left
      rw [if_pos c2]
      exact fin k x hI (inI_f2 c2)
    right
    rw [if_neg c2]
    have ct : inI (h (a + k)) 97 122 = true := inI_t c1 c2
    have : a + k < n := by
      apply Classical.byContradiction
      intro z
      rw [t.a _ (by omega)] at ct
      cases ct
    refine ⟨wI x 1 4 (nI (a + (k + 1))), ?_, Fr.tr f1 (Fr.wrI rfl), by omega, wI_at, fun i h1 h2 => ?_⟩
    · rw [ltv_eq, ltv_eq, x4, nI_1, nI_1]
      rfl
    · by_cases z : i = a + k
      · rw [z]
        exact ct
      · exact hb i h1 (by omega)
  · intro q x hI
    obtain ⟨f1, l1, x4, hb⟩ := id hI
    show ∃ M', bb_X8_readKeyword_1_7 _ _ _ _ = _ ∧ _
    unfold bb_X8_readKeyword_1_7
    rw [if_pos (by decide)]
    exact fin 500 x hI (t.a _ (by omega))
