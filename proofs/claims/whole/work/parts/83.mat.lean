-- ===== sums and counts =====
theorem smN_swap (f : Nat → Nat → Nat) (m : Nat) : ∀ n, smN (fun i => smN (fun j => f i j) m) n = smN (fun j => smN (fun i => f i j) n) m
  | 0 => (smN_zero m).symm
  | n + 1 => by
    show smN (fun i => smN (fun j => f i j) m) n + smN (fun j => f n j) m = smN (fun j => smN (fun i => f i j) n + f n j) m
    rw [smN_swap f m n, smN_add]
theorem smN_mono {f g : Nat → Nat} : ∀ {n : Nat}, (∀ i, i < n → f i ≤ g i) → smN f n ≤ smN g n
  | 0, _ => Nat.le_refl _
  | n + 1, h => by
    have h1 := smN_mono (f := f) (g := g) (n := n) (fun i hi => h i (by omega))
    have h2 := h n (by omega)
    show smN f n + f n ≤ smN g n + g n
    omega
theorem smN_pt_eq {f g : Nat → Nat} : ∀ {n : Nat}, (∀ i, i < n → f i ≤ g i) → smN f n = smN g n → ∀ i, i < n → f i = g i
  | 0, _, _, i, hi => absurd hi (Nat.not_lt_zero _)
  | n + 1, h, e, i, hi => by
    have h1 := smN_mono (f := f) (g := g) (n := n) (fun i hi => h i (by omega))
    have h2 := h n (by omega)
    have e' : smN f n + f n = smN g n + g n := e
    by_cases q : i = n
    · rw [q]
      omega
    · exact smN_pt_eq (n := n) (fun i hi => h i (by omega)) (by omega) i (by omega)
theorem bcn_mono {f g : Nat → Bool} {n : Nat} (h : ∀ i, i < n → f i = true → g i = true) : bcn f n ≤ bcn g n := by
  rw [bcn_smN, bcn_smN]
  apply smN_mono
  intro i hi
  cases hf : f i with
  | false => exact Nat.zero_le _
  | true => rw [h i hi hf]; exact Nat.le_refl _
theorem bcn_false (n : Nat) : bcn (fun _ => false) n = 0 := by
  rw [bcn_smN]
  exact smN_zero n
theorem bcn_disj {f g : Nat → Bool} {n : Nat} (h : ∀ i, i < n → f i = true → g i = false) : bcn (fun i => f i || g i) n = bcn f n + bcn g n := by
  rw [bcn_smN, bcn_smN, bcn_smN, ← smN_add]
  apply smN_cong
  intro i hi
  cases hf : f i with
  | false => cases g i <;> rfl
  | true => rw [h i hi hf]; rfl
theorem bcn_32 (f : Nat → Bool) : bcn f 32 = bcn f 16 + bcn (fun i => f (16 + i)) 16 := by
  rw [bcn_smN, bcn_smN, bcn_smN]
  exact smN_split _ 16 16
-- ===== a matching; 99: none =====
def MtV (E : Nat → Nat → Bool) (mt : Nat → Nat) : Prop := ∀ c, c < 16 → mt c ≠ 99 → mt c < 16 ∧ E (mt c) c = true
def MtJ (mt : Nat → Nat) (x : Nat) : Prop := ∀ c c', c < 16 → c' < 16 → c ≠ x → c' ≠ x → mt c ≠ 99 → mt c = mt c' → c = c'
def szM (mt : Nat → Nat) : Nat := bcn (fun c => !decide (mt c = 99)) 16
theorem mt_cnt {E : Nat → Nat → Bool} {mt : Nat → Nat} {X : Nat → Bool} (hv : MtV E mt) (hj : MtJ mt 99) (hX : ∀ r, X r = true → ∃ c, c < 16 ∧ mt c = r) : bcn X 16 = bcn (fun c => !decide (mt c = 99) && X (mt c)) 16 := by
  have e1 : bcn X 16 = smN (fun r => smN (fun c => (decide (mt c = r) && X r).toNat) 16) 16 := by
    rw [bcn_smN]
    apply smN_cong
    intro r hr
    cases hx : X r with
    | false =>
      rw [smN_cong (g := fun _ => 0) (fun c _ => by rw [Bool.and_false]; rfl), smN_zero]
      rfl
    | true =>
      obtain ⟨c, hc, hm⟩ := hX r hx
      have := bcn_one (f := fun c => decide (mt c = r) && true) (g := fun d => !decide (d = c) && (decide (mt d = r) && true)) (k := c) (n := 16) hc (fun i hi => by simp [hi]) (by simp [hm]) (by simp)
      rw [← bcn_smN, this, bcn_cong (g := fun _ => false) (fun i hi => ?_), bcn_false]
      · rfl
      · by_cases q : i = c
        · simp [q]
        · have nm : ¬ mt i = r := fun z => q (hj i c hi hc (by omega) (by omega) (by rw [z]; omega) (by rw [z, hm]))
          simp [nm]
  rw [e1, smN_swap, bcn_smN]
  apply smN_cong
  intro c hc
  by_cases h9 : mt c = 99
  · rw [smN_cong (g := fun _ => 0) (fun r hr => by
      have : ¬ mt c = r := by omega
      simp [this]), smN_zero, h9]
    rfl
  · obtain ⟨h16, _⟩ := hv c hc h9
    have e2 : smN (fun r => (decide (mt c = r) && X r).toNat) 16 = smN (fun r => if r = mt c then (X r).toNat else 0) 16 := smN_cong (fun r _ => by
      by_cases q : r = mt c
      · subst q
        simp
      · have : ¬ mt c = r := fun z => q z.symm
        simp [this, q])
    rw [e2, smN_pt (T := fun r => (X r).toNat) h16]
    simp [h9]
-- ===== the search for a way =====
def DfP (E : Nat → Nat → Bool) (r x : Nat) (mt : Nat → Nat) (Z : Nat → Bool) : Prop := r < 16 ∧ MtV E mt ∧ MtJ mt 99 ∧ (∀ c, c < 16 → c ≠ x → mt c ≠ r) ∧ (x < 16 → Z x = true)
/-- what a search that fails leaves -/
def DfF (E : Nat → Nat → Bool) (r : Nat) (mt : Nat → Nat) (Z Z' : Nat → Bool) : Prop := (∀ c, c < 16 → Z c = true → Z' c = true) ∧ (∀ c, c < 16 → E r c = true → Z' c = true) ∧ ∀ c, c < 16 → Z' c = true → Z c = false → mt c ≠ 99 ∧ ∀ c', c' < 16 → E (mt c) c' = true → Z' c' = true
/-- what one that succeeds leaves -/
def DfS (E : Nat → Nat → Bool) (r x : Nat) (mt : Nat → Nat) (Z : Nat → Bool) (mt' : Nat → Nat) : Prop := (∀ c, c < 16 → Z c = true → mt' c = mt c) ∧ MtV E mt' ∧ MtJ mt' x ∧ (∀ c, c < 16 → mt c ≠ 99 → mt' c ≠ 99) ∧ (∀ y, y ≠ 99 → ((∃ c, c < 16 ∧ c ≠ x ∧ mt' c = y) ↔ (y = r ∨ ∃ c, c < 16 ∧ c ≠ x ∧ mt c = y))) ∧ szM mt' = szM mt + 1
/-- on the way -/
def DfL (E : Nat → Nat → Bool) (mt : Nat → Nat) (Z Zc : Nat → Bool) : Prop := (∀ c, c < 16 → Z c = true → Zc c = true) ∧ ∀ c, c < 16 → Zc c = true → Z c = false → mt c ≠ 99 ∧ ∀ c', c' < 16 → E (mt c) c' = true → Zc c' = true
def insB (Z : Nat → Bool) (c : Nat) : Nat → Bool := fun o => decide (o = c) || Z o
theorem insB_self (Z : Nat → Bool) (c : Nat) : insB Z c c = true := by
  unfold insB
  simp
theorem updN_k (u : Nat → Nat) (k i : Nat) : updN u k i k = i := if_pos rfl
theorem updN_o {u : Nat → Nat} {k i o : Nat} (h : o ≠ k) : updN u k i o = u o := if_neg h
section dfs
variable {E : Nat → Nat → Bool} {r x c : Nat} {mt mt2 : Nat → Nat} {Z Zc Z2 : Nat → Bool}
theorem df_ne (hP : DfP E r x mt Z) (hL : DfL E mt Z Zc) (hc : c < 16) (hz : Zc c = false) : c ≠ x := by
  intro e
  subst e
  have := hL.1 c hc (hP.2.2.2.2 hc)
  rw [hz] at this
  cases this
theorem df_nz (hL : DfL E mt Z Zc) {d : Nat} (hd : d < 16) (hz : Zc c = false) (hZ : Z d = true) : d ≠ c := by
  intro e
  subst e
  have := hL.1 d hd hZ
  rw [hz] at this
  cases this
theorem df_free (hP : DfP E r x mt Z) (hL : DfL E mt Z Zc) (hc : c < 16) (hE : E r c = true) (hz : Zc c = false) (hm : mt c = 99) : DfS E r x mt Z (updN mt c r) := by
  obtain ⟨hr, hv, hj, hn, hx⟩ := id hP
  have cx := df_ne hP hL hc hz
  refine ⟨fun d hd hZ => updN_o (df_nz hL hd hz hZ), ?_, ?_, ?_, ?_, ?_⟩
  · intro d hd h9
    by_cases e : d = c
    · subst e
      rw [updN_k] at h9 ⊢
      exact ⟨hr, hE⟩
    · rw [updN_o e] at h9 ⊢
      exact hv d hd h9
  · intro d d' hd hd' h1 h2 h9 he
    by_cases e : d = c
    · by_cases e' : d' = c
      · omega
      · rw [e, updN_k, updN_o e'] at he
        exact absurd he.symm (hn d' hd' h2)
    · by_cases e' : d' = c
      · rw [e', updN_k, updN_o e] at he
        exact absurd he (hn d hd h1)
      · rw [updN_o e, updN_o e'] at he
        rw [updN_o e] at h9
        exact hj d d' hd hd' (by omega) (by omega) h9 he
  · intro d hd h9
    by_cases e : d = c
    · rw [e, updN_k]
      omega
    · rw [updN_o e]
      exact h9
  · intro y hy
    constructor
    · rintro ⟨d, hd, h1, h2⟩
      by_cases e : d = c
      · rw [e, updN_k] at h2
        exact Or.inl h2.symm
      · rw [updN_o e] at h2
        exact Or.inr ⟨d, hd, h1, h2⟩
    · rintro (h | ⟨d, hd, h1, h2⟩)
      · exact ⟨c, hc, cx, by rw [updN_k, h]⟩
      · have e : d ≠ c := by
          intro e
          rw [e, hm] at h2
          exact hy h2.symm
        exact ⟨d, hd, h1, by rw [updN_o e]; exact h2⟩
  · refine bcn_one (k := c) hc (fun i hi => by rw [updN_o hi]) ?_ ?_
    · have : ¬ r = 99 := by omega
      show (!decide (updN mt c r c = 99)) = true
      rw [updN_k, decide_eq_false this]
      rfl
    · show (!decide (mt c = 99)) = false
      rw [decide_eq_true hm]
      rfl
theorem df_pre (hP : DfP E r x mt Z) (hc : c < 16) (hm : mt c ≠ 99) : DfP E (mt c) c mt (insB Zc c) := by
  obtain ⟨hr, hv, hj, hn, hx⟩ := hP
  refine ⟨(hv c hc hm).1, hv, hj, fun d hd hne he => ?_, fun _ => insB_self _ _⟩
  exact hne (hj c d hc hd (by omega) (by omega) hm he.symm).symm
theorem df_rs (hP : DfP E r x mt Z) (hL : DfL E mt Z Zc) (hc : c < 16) (hE : E r c = true) (hz : Zc c = false) (hm : mt c ≠ 99) (hS : DfS E (mt c) c mt (insB Zc c) mt2) : DfS E r x mt Z (updN mt2 c r) := by
  obtain ⟨hr, hv, hj, hn, hx⟩ := id hP
  have cx := df_ne hP hL hc hz
  obtain ⟨s1, s2, s3, s4, s5, s6⟩ := hS
  have kZ : ∀ d, d < 16 → Z d = true → mt2 d = mt d := fun d hd hZ => s1 d hd (by unfold insB; rw [hL.1 d hd hZ, Bool.or_true])
  have kc : mt2 c = mt c := s1 c hc (insB_self _ _)
  have rc : r ≠ mt c := fun e => hn c hc cx e.symm
  -- where r stands already, if it does
  have atx : ∀ d, d < 16 → mt d = r → d = x := by
    intro d hd he
    apply Classical.byContradiction
    intro q
    exact hn d hd q he
  refine ⟨fun d hd hZ => by rw [updN_o (df_nz hL hd hz hZ)]; exact kZ d hd hZ, ?_, ?_, ?_, ?_, ?_⟩
  · intro d hd h9
    by_cases e : d = c
    · subst e
      rw [updN_k] at h9 ⊢
      exact ⟨hr, hE⟩
    · rw [updN_o e] at h9 ⊢
      exact s2 d hd h9
  · have key : ∀ d, d < 16 → d ≠ x → d ≠ c → mt2 d ≠ r := by
      intro d hd h1 h2 he
      rcases (s5 r (by omega)).mp ⟨d, hd, h2, he⟩ with q | ⟨d3, hd3, q1, q2⟩
      · exact rc q
      · have e3 := atx d3 hd3 q2
        subst e3
        have := kZ d3 hd3 (hx hd3)
        rw [q2] at this
        exact h1 (s3 d d3 hd hd3 h2 q1 (by rw [he]; omega) (by rw [he, this]))
    intro d d' hd hd' h1 h2 h9 he
    by_cases e : d = c
    · by_cases e' : d' = c
      · omega
      · rw [e, updN_k, updN_o e'] at he
        exact absurd he.symm (key d' hd' h2 e')
    · by_cases e' : d' = c
      · rw [e', updN_k, updN_o e] at he
        exact absurd he (key d hd h1 e)
      · rw [updN_o e, updN_o e'] at he
        rw [updN_o e] at h9
        exact s3 d d' hd hd' e e' h9 he
  · intro d hd h9
    by_cases e : d = c
    · rw [e, updN_k]
      omega
    · rw [updN_o e]
      exact s4 d hd h9
  · intro y hy
    constructor
    · rintro ⟨d, hd, h1, h2⟩
      by_cases e : d = c
      · rw [e, updN_k] at h2
        exact Or.inl h2.symm
      · rw [updN_o e] at h2
        rcases (s5 y hy).mp ⟨d, hd, e, h2⟩ with q | ⟨d3, hd3, q1, q2⟩
        · exact Or.inr ⟨c, hc, cx, q.symm⟩
        · by_cases e3 : d3 = x
          · exfalso
            subst e3
            have := kZ d3 hd3 (hx hd3)
            rw [q2] at this
            exact h1 (s3 d d3 hd hd3 e q1 (by rw [h2]; exact hy) (by rw [h2, this]))
          · exact Or.inr ⟨d3, hd3, e3, q2⟩
    · rintro (h | ⟨d, hd, h1, h2⟩)
      · exact ⟨c, hc, cx, by rw [updN_k, h]⟩
      · have fin : ∃ d4, d4 < 16 ∧ d4 ≠ c ∧ mt2 d4 = y := by
          by_cases e : d = c
          · exact (s5 y hy).mpr (Or.inl (by rw [← h2, e]))
          · exact (s5 y hy).mpr (Or.inr ⟨d, hd, e, h2⟩)
        obtain ⟨d4, hd4, q1, q2⟩ := fin
        refine ⟨d4, hd4, fun e => ?_, by rw [updN_o q1]; exact q2⟩
        subst e
        have := kZ d4 hd4 (hx hd4)
        rw [q2] at this
        exact h1 (hj d d4 hd hd4 (by omega) (by omega) (by rw [h2]; exact hy) (by rw [h2, this]))
  · rw [← s6]
    apply bcn_cong
    intro d hd
    by_cases e : d = c
    · have h1 : ¬ r = 99 := by omega
      show (!decide (updN mt2 c r d = 99)) = (!decide (mt2 d = 99))
      rw [e, updN_k, kc, decide_eq_false h1, decide_eq_false hm]
    · show (!decide (updN mt2 c r d = 99)) = (!decide (mt2 d = 99))
      rw [updN_o e]
theorem df_rf (hL : DfL E mt Z Zc) (hc : c < 16) (hm : mt c ≠ 99) (hF : DfF E (mt c) mt (insB Zc c) Z2) : DfL E mt Z Z2 ∧ Z2 c = true ∧ ∀ d, d < 16 → Zc d = true → Z2 d = true := by
  obtain ⟨f1, f2, f3⟩ := hF
  have mono : ∀ d, d < 16 → Zc d = true → Z2 d = true := fun d hd h => f1 d hd (by unfold insB; rw [h, Bool.or_true])
  refine ⟨⟨fun d hd h => mono d hd (hL.1 d hd h), fun d hd h1 h2 => ?_⟩, f1 c hc (insB_self _ _), mono⟩
  by_cases e : d = c
  · rw [e]
    exact ⟨hm, f2⟩
  · cases h3 : Zc d with
    | true =>
      obtain ⟨q1, q2⟩ := hL.2 d hd h3 h2
      exact ⟨q1, fun c' hc' he => mono c' hc' (q2 c' hc' he)⟩
    | false => exact f3 d hd h1 (by unfold insB; rw [h3, decide_eq_false e]; rfl)
end dfs
-- ===== rows one by one: a matching, and a cover as large =====
def KnI2 (E : Nat → Nat → Bool) (R : Nat) (mt : Nat → Nat) (X Y : Nat → Bool) : Prop := MtV E mt ∧ MtJ mt 99 ∧ (∀ c, c < 16 → mt c ≠ 99 → mt c < R) ∧ (∀ r, r < R → ∀ c, c < 16 → E r c = true → X r = true ∨ Y c = true) ∧ (∀ r, X r = true → r < 16 ∧ ∃ c, c < 16 ∧ mt c = r) ∧ (∀ c, c < 16 → Y c = true → mt c ≠ 99) ∧ ∀ c, c < 16 → mt c ≠ 99 → X (mt c) = !Y c
theorem kn_0 (E : Nat → Nat → Bool) : KnI2 E 0 (fun _ => 99) (fun _ => false) (fun _ => false) :=
  ⟨fun c _ h => absurd rfl h, fun c c' _ _ _ _ h => absurd rfl h, fun c _ h => absurd rfl h, fun r hr => absurd hr (Nat.not_lt_zero _), fun r h => (by cases h), fun c _ h => (by cases h), fun c _ h => absurd rfl h⟩
theorem kn_skip {E : Nat → Nat → Bool} {R : Nat} {mt : Nat → Nat} {X Y : Nat → Bool} (h : KnI2 E R mt X Y) (h0 : ∀ c, c < 16 → E R c = false) : KnI2 E (R + 1) mt X Y := by
  obtain ⟨k1, k2, k3, k4, k5, k6, k7⟩ := h
  refine ⟨k1, k2, fun c hc h9 => Nat.lt_succ_of_lt (k3 c hc h9), fun r hr c hc he => ?_, k5, k6, k7⟩
  by_cases e : r = R
  · rw [e, h0 c hc] at he
    cases he
  · exact k4 r (by omega) c hc he
theorem kn_size {E : Nat → Nat → Bool} {R : Nat} {mt : Nat → Nat} {X Y : Nat → Bool} (h : KnI2 E R mt X Y) : bcn X 16 + bcn Y 16 = szM mt := by
  obtain ⟨k1, k2, k3, k4, k5, k6, k7⟩ := h
  rw [mt_cnt k1 k2 (fun r h => (k5 r h).2)]
  unfold szM
  rw [bcn_smN, bcn_smN, bcn_smN, ← smN_add]
  apply smN_cong
  intro c hc
  by_cases h9 : mt c = 99
  · have : Y c = false := by
      cases hy : Y c with
      | false => rfl
      | true => exact absurd h9 (k6 c hc hy)
    simp [h9, this]
  · rw [k7 c hc h9]
    cases Y c <;> simp [h9]
theorem kn_fail {E : Nat → Nat → Bool} {R : Nat} {mt : Nat → Nat} {X Y Z : Nat → Bool} (h : KnI2 E R mt X Y) (hF : DfF E R mt (fun _ => false) Z) : ∃ X' Y', KnI2 E (R + 1) mt X' Y' := by
  obtain ⟨k1, k2, k3, k4, k5, k6, k7⟩ := h
  obtain ⟨f1, f2, f3⟩ := hF
  let T : Nat → Bool := fun r => anB (fun c => Z c && decide (mt c = r)) 16
  have hT : ∀ c, c < 16 → mt c ≠ 99 → T (mt c) = Z c := by
    intro c hc h9
    apply bool_ext
    constructor
    · intro h
      obtain ⟨d, hd, h2⟩ := anB_iff.mp h
      rw [Bool.and_eq_true, decide_eq_true_eq] at h2
      rw [k2 c d hc hd (by omega) (by omega) h9 h2.2.symm]
      exact h2.1
    · intro h
      exact anB_iff.mpr ⟨c, hc, by rw [h, decide_eq_true rfl]; rfl⟩
  refine ⟨fun r => X r && !T r, fun c => Y c || Z c, k1, k2, fun c hc h9 => Nat.lt_succ_of_lt (k3 c hc h9), ?_, ?_, ?_, ?_⟩
  · intro r hr c hc he
    by_cases e : r = R
    · right
      rw [e] at he
      show (Y c || Z c) = true
      rw [f2 c hc he, Bool.or_true]
    · rcases k4 r (by omega) c hc he with q | q
      · cases ht : T r with
        | false =>
          left
          show (X r && !T r) = true
          rw [q, ht]
          rfl
        | true =>
          right
          show (Y c || Z c) = true
          obtain ⟨d, hd, h2⟩ := anB_iff.mp ht
          rw [Bool.and_eq_true, decide_eq_true_eq] at h2
          obtain ⟨_, g2⟩ := f3 d hd h2.1 rfl
          rw [g2 c hc (by rw [h2.2]; exact he), Bool.or_true]
      · right
        show (Y c || Z c) = true
        rw [q]
        rfl
  · intro r hr
    have hr' : (X r && !T r) = true := hr
    rw [Bool.and_eq_true] at hr'
    exact k5 r hr'.1
  · intro c hc hy
    have hy' : (Y c || Z c) = true := hy
    rw [Bool.or_eq_true] at hy'
    clear hy
    have hy := hy'
    rcases hy with q | q
    · exact k6 c hc q
    · exact (f3 c hc q rfl).1
  · intro c hc h9
    show (X (mt c) && !T (mt c)) = !(Y c || Z c)
    rw [hT c hc h9, k7 c hc h9]
    cases Y c <;> cases Z c <;> rfl
theorem kn_succ {E : Nat → Nat → Bool} {R : Nat} {mt mt' : Nat → Nat} {X Y Z : Nat → Bool} (hR : R < 16) (h : KnI2 E R mt X Y) (hS : DfS E R 99 mt Z mt') : ∃ X' Y', KnI2 E (R + 1) mt' X' Y' := by
  have sz := kn_size h
  obtain ⟨k1, k2, k3, k4, k5, k6, k7⟩ := h
  obtain ⟨s1, s2, s3, s4, s5, s6⟩ := hS
  have nR : X R = false := by
    cases hx : X R with
    | false => rfl
    | true =>
      obtain ⟨_, c, hc, he⟩ := k5 R hx
      have := k3 c hc (by omega)
      omega
  have c5 : ∀ r, (decide (r = R) || X r) = true → r < 16 ∧ ∃ c, c < 16 ∧ mt' c = r := by
    intro r hr
    rw [Bool.or_eq_true, decide_eq_true_eq] at hr
    have hr16 : r < 16 := by
      rcases hr with q | q
      · omega
      · exact (k5 r q).1
    have : ∃ c, c < 16 ∧ c ≠ 99 ∧ mt' c = r := by
      rw [s5 r (by omega)]
      rcases hr with q | q
      · exact Or.inl q
      · obtain ⟨_, c, hc, he⟩ := k5 r q
        exact Or.inr ⟨c, hc, by omega, he⟩
    obtain ⟨c, hc, _, he⟩ := this
    exact ⟨hr16, c, hc, he⟩
  have c4 : ∀ r, r < R + 1 → ∀ c, c < 16 → E r c = true → (decide (r = R) || X r) = true ∨ Y c = true := by
    intro r hr c hc he
    by_cases e : r = R
    · left
      rw [decide_eq_true e]
      rfl
    · rcases k4 r (by omega) c hc he with q | q
      · left
        rw [q, Bool.or_true]
      · exact Or.inr q
  have c3 : ∀ c, c < 16 → mt' c ≠ 99 → mt' c < R + 1 := by
    intro c hc h9
    rcases (s5 (mt' c) h9).mp ⟨c, hc, by omega, rfl⟩ with q | ⟨d, hd, _, q⟩
    · omega
    · have := k3 d hd (by rw [q]; exact h9)
      omega
  -- by counting, no more than one of each pair
  have cnt : bcn (fun r => decide (r = R) || X r) 16 = bcn X 16 + 1 := bcn_one (k := R) hR (fun i hi => by simp [hi]) (by simp) nR
  have cm := mt_cnt (X := fun r => decide (r = R) || X r) s2 s3 (fun r h => (c5 r h).2)
  have tot : smN (fun c => (!decide (mt' c = 99)).toNat) 16 = smN (fun c => (!decide (mt' c = 99) && (decide (mt' c = R) || X (mt' c))).toNat + (Y c).toNat) 16 := by
    rw [smN_add, ← bcn_smN, ← bcn_smN, ← bcn_smN]
    show szM mt' = _
    rw [← cm, cnt, s6, ← sz]
    omega
  have pt := smN_pt_eq (fun c hc => by
    cases h9 : decide (mt' c = 99) with
    | true => exact Nat.zero_le _
    | false =>
      have h9' := of_decide_eq_false h9
      obtain ⟨g1, g2⟩ := s2 c hc h9'
      rcases c4 (mt' c) (c3 c hc h9') c hc g2 with q | q
      · rw [q]
        show 1 ≤ 1 + (Y c).toNat
        omega
      · rw [q]
        show 1 ≤ _ + 1
        omega) tot
  refine ⟨fun r => decide (r = R) || X r, Y, s2, s3, c3, c4, c5, fun c hc hy => s4 c hc (k6 c hc hy), fun c hc h9 => ?_⟩
  have := pt c hc
  rw [decide_eq_false h9] at this
  show (decide (mt' c = R) || X (mt' c)) = !Y c
  cases h1 : (decide (mt' c = R) || X (mt' c)) <;> cases h2 : Y c <;> simp [h1, h2] at this ⊢
-- ===== squares and lines: the fewest lines that take all =====
def okL (B l : Nat) : Bool := !decide (l = 99) && !B.testBit l
def FcB (sq : Int64) (rho kap : Nat → Nat) (Hd B l : Nat) : Bool := Hd.testBit l || anB (fun i => lb sq i && ((decide (rho i = l) && (okL B (rho i) && !okL B (kap i))) || (decide (kap i = l) && (okL B (kap i) && !okL B (rho i))))) 64
def EdB (sq : Int64) (rho kap : Nat → Nat) (Hd B r c : Nat) : Bool := anB (fun i => (lb sq i && (decide (rho i = r) && decide (kap i = 16 + c))) && (!FcB sq rho kap Hd B r && !FcB sq rho kap Hd B (16 + c))) 64
def CovG (sq : Int64) (rho kap : Nat → Nat) (S : Nat) : Prop := ∀ i, i < 64 → lb sq i = true → S.testBit (rho i) = true ∨ S.testBit (kap i) = true
/-- lines that may be taken with Hd and without B -/
def Adm (sq : Int64) (rho kap : Nat → Nat) (Hd B S : Nat) : Prop := S < 2 ^ 32 ∧ CovG sq rho kap S ∧ (∀ l, Hd.testBit l = true → S.testBit l = true) ∧ ∀ l, S.testBit l = true → B.testBit l = false
def Fea (sq : Int64) (rho kap : Nat → Nat) (B : Nat) : Prop := ∀ i, i < 64 → lb sq i = true → okL B (rho i) = true ∨ okL B (kap i) = true
theorem Adm.fea {sq : Int64} {rho kap : Nat → Nat} {Hd B S : Nat} (h : Adm sq rho kap Hd B S) : Fea sq rho kap B := by
  obtain ⟨h1, h2, h3, h4⟩ := h
  have ok : ∀ l, S.testBit l = true → okL B l = true := by
    intro l hl
    unfold okL
    have := bit_hi h1 hl
    have n9 : ¬ l = 99 := by omega
    rw [h4 l hl, decide_eq_false n9]
    rfl
  intro i hi hb
  rcases h2 i hi hb with q | q
  · exact Or.inl (ok _ q)
  · exact Or.inr (ok _ q)
theorem bcn_testBit_mkB (P : Nat → Bool) : popN (mkB P 32) = bcn P 32 := by
  unfold popN
  apply bcn_cong
  intro i hi
  rw [mkB_bit]
  simp [hi]
section mins
variable {sq : Int64} {rho kap : Nat → Nat} {Hd B : Nat}
theorem Fc_ok (hHB : ∀ l, Hd.testBit l = true → B.testBit l = false) {l : Nat} (h : FcB sq rho kap Hd B l = true) : B.testBit l = false := by
  unfold FcB at h
  rw [Bool.or_eq_true] at h
  rcases h with h | h
  · exact hHB l h
  · obtain ⟨i, hi, h2⟩ := anB_iff.mp h
    simp only [Bool.and_eq_true, Bool.or_eq_true, decide_eq_true_eq] at h2
    rcases h2.2 with ⟨q1, q2, _⟩ | ⟨q1, q2, _⟩
    · rw [q1] at q2
      unfold okL at q2
      simp only [Bool.and_eq_true, Bool.not_eq_true'] at q2
      exact q2.2
    · rw [q1] at q2
      unfold okL at q2
      simp only [Bool.and_eq_true, Bool.not_eq_true'] at q2
      exact q2.2
theorem Fc_sub {S : Nat} (h : Adm sq rho kap Hd B S) {l : Nat} (hf : FcB sq rho kap Hd B l = true) : S.testBit l = true := by
  obtain ⟨h1, h2, h3, h4⟩ := h
  have ok : ∀ l, S.testBit l = true → okL B l = true := by
    intro l hl
    unfold okL
    have := bit_hi h1 hl
    have n9 : ¬ l = 99 := by omega
    rw [h4 l hl, decide_eq_false n9]
    rfl
  unfold FcB at hf
  rw [Bool.or_eq_true] at hf
  rcases hf with hf | hf
  · exact h3 l hf
  · obtain ⟨i, hi, g⟩ := anB_iff.mp hf
    simp only [Bool.and_eq_true, Bool.or_eq_true, decide_eq_true_eq, Bool.not_eq_true'] at g
    obtain ⟨gb, g⟩ := g
    rcases g with ⟨q1, _, q3⟩ | ⟨q1, _, q3⟩
    · rcases h2 i hi gb with w | w
      · rw [← q1]
        exact w
      · rw [ok _ w] at q3
        cases q3
    · rcases h2 i hi gb with w | w
      · rw [ok _ w] at q3
        cases q3
      · rw [← q1]
        exact w
theorem min_ok {mt : Nat → Nat} {X Y : Nat → Bool} (hrho : ∀ i, i < 64 → rho i < 16 ∨ rho i = 99) (hkap : ∀ i, i < 64 → (16 ≤ kap i ∧ kap i < 32) ∨ kap i = 99) (hHd : Hd < 2 ^ 32) (hHB : ∀ l, Hd.testBit l = true → B.testBit l = false) (hF : Fea sq rho kap B) (hK : KnI2 (EdB sq rho kap Hd B) 16 mt X Y) : (∃ S, Adm sq rho kap Hd B S ∧ popN S = bcn (FcB sq rho kap Hd B) 32 + szM mt) ∧ ∀ S, Adm sq rho kap Hd B S → bcn (FcB sq rho kap Hd B) 32 + szM mt ≤ popN S := by
  have sz := kn_size hK
  obtain ⟨k1, k2, k3, k4, k5, k6, k7⟩ := hK
  -- an edge: its square, and that neither line is wanted
  have edge : ∀ r c, EdB sq rho kap Hd B r c = true → ∃ i, i < 64 ∧ lb sq i = true ∧ rho i = r ∧ kap i = 16 + c ∧ FcB sq rho kap Hd B r = false ∧ FcB sq rho kap Hd B (16 + c) = false := by
    intro r c h
    obtain ⟨i, hi, g⟩ := anB_iff.mp h
    simp only [Bool.and_eq_true, decide_eq_true_eq, Bool.not_eq_true'] at g
    exact ⟨i, hi, g.1.1, g.1.2.1, g.1.2.2, g.2.1, g.2.2⟩
  have mtE : ∀ c, c < 16 → mt c ≠ 99 → ∃ i, i < 64 ∧ lb sq i = true ∧ rho i = mt c ∧ kap i = 16 + c ∧ FcB sq rho kap Hd B (mt c) = false ∧ FcB sq rho kap Hd B (16 + c) = false := fun c hc h9 => edge _ _ (k1 c hc h9).2
  have XE : ∀ r, X r = true → ∃ i, i < 64 ∧ lb sq i = true ∧ rho i = r ∧ FcB sq rho kap Hd B r = false ∧ FcB sq rho kap Hd B (kap i) = false := by
    intro r hx
    obtain ⟨h16, c, hc, he⟩ := k5 r hx
    obtain ⟨i, i1, i2, i3, i4, i5, i6⟩ := mtE c hc (by omega)
    exact ⟨i, i1, i2, by omega, by rw [← he]; exact i5, by rw [i4]; exact i6⟩
  have YE : ∀ c, c < 16 → Y c = true → ∃ i, i < 64 ∧ lb sq i = true ∧ kap i = 16 + c ∧ FcB sq rho kap Hd B (16 + c) = false ∧ FcB sq rho kap Hd B (rho i) = false := by
    intro c hc hy
    obtain ⟨i, i1, i2, i3, i4, i5, i6⟩ := mtE c hc (k6 c hc hy)
    exact ⟨i, i1, i2, i4, i6, by rw [i3]; exact i5⟩
  constructor
  · let P : Nat → Bool := fun l => FcB sq rho kap Hd B l || (if l < 16 then X l else Y (l - 16))
    have Pb : ∀ l, (mkB P 32).testBit l = (decide (l < 32) && P l) := mkB_bit P 32
    have F32 : ∀ l, FcB sq rho kap Hd B l = true → l < 32 := by
      intro l h
      unfold FcB at h
      rw [Bool.or_eq_true] at h
      rcases h with h | h
      · exact bit_hi hHd h
      · obtain ⟨i, hi, g⟩ := anB_iff.mp h
        simp only [Bool.and_eq_true, Bool.or_eq_true, decide_eq_true_eq] at g
        rcases g.2 with ⟨q1, q2, _⟩ | ⟨q1, q2, _⟩
        · rcases hrho i hi with z | z
          · omega
          · rw [z] at q2
            cases q2
        · rcases hkap i hi with z | z
          · omega
          · rw [z] at q2
            cases q2
    refine ⟨mkB P 32, ⟨mkB_lt P 32, ?_, ?_, ?_⟩, ?_⟩
    · intro i hi hb
      cases hr : okL B (rho i) with
      | true =>
        have r16 : rho i < 16 := by
          rcases hrho i hi with z | z
          · exact z
          · rw [z] at hr
            cases hr
        cases hk : okL B (kap i) with
        | true =>
          have k32 : 16 ≤ kap i ∧ kap i < 32 := by
            rcases hkap i hi with z | z
            · exact z
            · rw [z] at hk
              cases hk
          cases f1 : FcB sq rho kap Hd B (rho i) with
          | true =>
            left
            rw [Pb]
            show (decide (rho i < 32) && (FcB sq rho kap Hd B (rho i) || _)) = true
            rw [f1, decide_eq_true (show rho i < 32 by omega)]
            rfl
          | false =>
            cases f2 : FcB sq rho kap Hd B (kap i) with
            | true =>
              right
              rw [Pb]
              show (decide (kap i < 32) && (FcB sq rho kap Hd B (kap i) || _)) = true
              rw [f2, decide_eq_true k32.2]
              rfl
            | false =>
              have ed : EdB sq rho kap Hd B (rho i) (kap i - 16) = true := by
                refine anB_iff.mpr ⟨i, hi, ?_⟩
                have e16 : 16 + (kap i - 16) = kap i := by omega
                rw [e16, f1, f2, hb, decide_eq_true rfl, decide_eq_true rfl]
                rfl
              rcases k4 (rho i) r16 (kap i - 16) (by omega) ed with q | q
              · left
                rw [Pb]
                show (decide (rho i < 32) && (FcB sq rho kap Hd B (rho i) || (if rho i < 16 then X (rho i) else Y (rho i - 16)))) = true
                rw [if_pos r16, q, decide_eq_true (show rho i < 32 by omega), Bool.or_true]
                rfl
              · right
                rw [Pb]
                show (decide (kap i < 32) && (FcB sq rho kap Hd B (kap i) || (if kap i < 16 then X (kap i) else Y (kap i - 16)))) = true
                rw [if_neg (by omega), q, decide_eq_true k32.2, Bool.or_true]
                rfl
        | false =>
          left
          have f1 : FcB sq rho kap Hd B (rho i) = true := by
            unfold FcB
            rw [anB_iff.mpr ⟨i, hi, by rw [hb, hr, hk, decide_eq_true rfl]; rfl⟩, Bool.or_true]
          rw [Pb]
          show (decide (rho i < 32) && (FcB sq rho kap Hd B (rho i) || _)) = true
          rw [f1, decide_eq_true (show rho i < 32 by omega)]
          rfl
      | false =>
        have hk : okL B (kap i) = true := by
          rcases hF i hi hb with z | z
          · rw [hr] at z
            cases z
          · exact z
        right
        have f1 : FcB sq rho kap Hd B (kap i) = true := by
          unfold FcB
          rw [anB_iff.mpr ⟨i, hi, by rw [hb, hr, hk, decide_eq_true (show kap i = kap i from rfl)]; simp⟩, Bool.or_true]
        rw [Pb]
        show (decide (kap i < 32) && (FcB sq rho kap Hd B (kap i) || _)) = true
        rw [f1, decide_eq_true (F32 _ f1)]
        rfl
    · intro l hl
      have f1 : FcB sq rho kap Hd B l = true := by
        unfold FcB
        rw [hl]
        rfl
      rw [Pb]
      show (decide (l < 32) && (FcB sq rho kap Hd B l || _)) = true
      rw [f1, decide_eq_true (F32 _ f1)]
      rfl
    · intro l hl
      rw [Pb, Bool.and_eq_true, decide_eq_true_eq] at hl
      have hl2 : (FcB sq rho kap Hd B l || (if l < 16 then X l else Y (l - 16))) = true := hl.2
      rw [Bool.or_eq_true] at hl2
      rcases hl2 with q | q
      · exact Fc_ok hHB q
      · by_cases h16 : l < 16
        · rw [if_pos h16] at q
          obtain ⟨i, i1, i2, i3, i4, i5⟩ := XE l q
          cases hB : B.testBit l with
          | false => rfl
          | true =>
            exfalso
            have hr : okL B (rho i) = false := by
              unfold okL
              rw [i3, hB, Bool.not_true, Bool.and_false]
            have hk : okL B (kap i) = true := by
              rcases hF i i1 i2 with z | z
              · rw [hr] at z
                cases z
              · exact z
            have f1 : FcB sq rho kap Hd B (kap i) = true := by
              unfold FcB
              rw [anB_iff.mpr ⟨i, i1, by rw [i2, hr, hk, decide_eq_true (show kap i = kap i from rfl)]; simp⟩, Bool.or_true]
            rw [i5] at f1
            cases f1
        · rw [if_neg h16] at q
          obtain ⟨i, i1, i2, i3, i4, i5⟩ := YE (l - 16) (by omega) q
          have el : 16 + (l - 16) = l := by omega
          rw [el] at i3 i4
          cases hB : B.testBit l with
          | false => rfl
          | true =>
            exfalso
            have hk : okL B (kap i) = false := by
              unfold okL
              rw [i3, hB, Bool.not_true, Bool.and_false]
            have hr : okL B (rho i) = true := by
              rcases hF i i1 i2 with z | z
              · exact z
              · rw [hk] at z
                cases z
            have f1 : FcB sq rho kap Hd B (rho i) = true := by
              unfold FcB
              rw [anB_iff.mpr ⟨i, i1, by rw [i2, hr, hk, decide_eq_true (show rho i = rho i from rfl)]; rfl⟩, Bool.or_true]
            rw [i5] at f1
            cases f1
    · rw [bcn_testBit_mkB, ← sz]
      show bcn (fun l => FcB sq rho kap Hd B l || (if l < 16 then X l else Y (l - 16))) 32 = _
      rw [bcn_disj (fun l hl hf => ?_)]
      · congr 1
        have x1 : bcn (fun l => if l < 16 then X l else Y (l - 16)) 16 = bcn X 16 := bcn_cong (fun i hi => if_pos hi)
        have x2 : bcn (fun i => (fun l => if l < 16 then X l else Y (l - 16)) (16 + i)) 16 = bcn Y 16 := bcn_cong (fun i hi => by
          show (if 16 + i < 16 then X (16 + i) else Y (16 + i - 16)) = Y i
          rw [if_neg (by omega), Nat.add_sub_cancel_left])
        rw [bcn_32, x1, x2]
      · by_cases h16 : l < 16
        · rw [if_pos h16]
          cases hx : X l with
          | false => rfl
          | true =>
            obtain ⟨i, _, _, _, i4, _⟩ := XE l hx
            rw [i4] at hf
            cases hf
        · rw [if_neg h16]
          cases hy : Y (l - 16) with
          | false => rfl
          | true =>
            obtain ⟨i, _, _, _, i4, _⟩ := YE (l - 16) (by omega) hy
            rw [show 16 + (l - 16) = l by omega, hf] at i4
            cases i4
  · intro S hS
    have fs : ∀ l, FcB sq rho kap Hd B l = true → S.testBit l = true := fun l h => Fc_sub hS h
    -- the wanted ones, and the others
    have e1 : popN S = bcn (FcB sq rho kap Hd B) 32 + bcn (fun l => S.testBit l && !FcB sq rho kap Hd B l) 32 := by
      rw [← bcn_disj (fun l _ hf => by rw [hf]; simp)]
      apply bcn_cong
      intro l _
      cases hf : FcB sq rho kap Hd B l with
      | true => rw [fs l hf]; rfl
      | false => simp
    rw [e1]
    apply Nat.add_le_add_left
    rw [bcn_32]
    let U : Nat → Bool := fun r => (S.testBit r && !FcB sq rho kap Hd B r) && anB (fun c => decide (mt c = r) && !decide (mt c = 99)) 16
    have u1 : bcn U 16 ≤ bcn (fun l => S.testBit l && !FcB sq rho kap Hd B l) 16 := bcn_mono (fun i _ h => by
      have h' : ((S.testBit i && !FcB sq rho kap Hd B i) && anB (fun c => decide (mt c = i) && !decide (mt c = 99)) 16) = true := h
      rw [Bool.and_eq_true] at h'
      exact h'.1)
    have u2 := mt_cnt (X := U) k1 k2 (fun r h => by
      have h' : ((S.testBit r && !FcB sq rho kap Hd B r) && anB (fun c => decide (mt c = r) && !decide (mt c = 99)) 16) = true := h
      rw [Bool.and_eq_true] at h'
      obtain ⟨c, hc, g⟩ := anB_iff.mp h'.2
      simp only [Bool.and_eq_true, decide_eq_true_eq] at g
      exact ⟨c, hc, g.1⟩)
    have u3 : bcn (fun c => !decide (mt c = 99) && S.testBit (16 + c)) 16 ≤ bcn (fun i => S.testBit (16 + i) && !FcB sq rho kap Hd B (16 + i)) 16 := bcn_mono (fun c hc h => by
      simp only [Bool.and_eq_true, Bool.not_eq_true', decide_eq_false_iff_not] at h
      obtain ⟨i, _, _, _, _, _, i6⟩ := mtE c hc h.1
      rw [h.2, i6]
      rfl)
    have u4 : szM mt ≤ bcn (fun c => !decide (mt c = 99) && U (mt c)) 16 + bcn (fun c => !decide (mt c = 99) && S.testBit (16 + c)) 16 := by
      unfold szM
      rw [bcn_smN, bcn_smN, bcn_smN, ← smN_add]
      apply smN_mono
      intro c hc
      by_cases h9 : mt c = 99
      · rw [decide_eq_true h9]
        exact Nat.zero_le _
      · obtain ⟨i, i1, i2, i3, i4, i5, i6⟩ := mtE c hc h9
        rw [decide_eq_false h9]
        rcases hS.2.1 i i1 i2 with q | q
        · have : U (mt c) = true := by
            show ((S.testBit (mt c) && !FcB sq rho kap Hd B (mt c)) && anB (fun d => decide (mt d = mt c) && !decide (mt d = 99)) 16) = true
            rw [← i3, q, i3, i5, anB_iff.mpr ⟨c, hc, by rw [decide_eq_true rfl, decide_eq_false h9]; rfl⟩]
            rfl
          rw [this]
          show 1 ≤ 1 + _
          omega
        · rw [i4] at q
          rw [q]
          show 1 ≤ _ + 1
          omega
    omega
end mins
