-- ===== the fewest groups, purely =====
theorem least_ex {P : Nat → Prop} : ∀ (t : Nat), P t → ∃ f, f ≤ t ∧ P f ∧ ∀ s, P s → f ≤ s := by
  intro t
  induction t using Nat.strongRecOn with
  | ind t ih =>
    intro ht
    by_cases h : ∃ s, s < t ∧ P s
    · obtain ⟨s, h1, h2⟩ := h
      obtain ⟨f, f1, f2, f3⟩ := ih s h1 h2
      exact ⟨f, by omega, f2, f3⟩
    · refine ⟨t, Nat.le_refl _, ht, fun s hs => ?_⟩
      apply Classical.byContradiction
      intro q
      exact h ⟨s, by omega, hs⟩
theorem popN_low {S : Nat} (h8 : S < 256) (h0 : 0 < S) : popN S = popN (andn S (2 ^ lowN S)) + 1 := by
  obtain ⟨h1, h2, _⟩ := low_ok S h8 h0
  refine bcn_one (k := lowN S) (by omega) (fun i hi => ?_) h2 ?_
  · rw [andn_bit, Nat.testBit_two_pow]
    have : ¬ lowN S = i := fun q => hi q.symm
    simp [this]
  · rw [andn_bit, Nat.testBit_two_pow_self]
    simp
theorem Mn_ex {K : Nat → Nat → Bool} : ∀ S, S < 256 → ∃ f, IsMn K S f := by
  intro S
  induction S using Nat.strongRecOn with
  | ind S ih =>
    intro h8
    by_cases h0 : S = 0
    · subst h0
      refine ⟨0, Nat.zero_le _, by rw [way_0]; decide, fun t _ => Nat.zero_le _⟩
    · have hl := (low_ok S h8 (by omega)).2.2.2.2.1
      obtain ⟨f, f1, f2, _⟩ := ih (andn S (2 ^ lowN S)) hl (by omega)
      have hw : way K S (f + 1) ≠ 0 := by
        rw [way_nz h8 (by omega)]
        refine ⟨by omega, 0, by decide, vld_0 K S, ?_⟩
        have : andn (andn S (2 ^ lowN S)) 0 = andn S (2 ^ lowN S) := by
          unfold andn
          rw [Nat.and_zero, Nat.xor_zero]
        rw [this]
        exact f2
      obtain ⟨g, g1, g2, g3⟩ := least_ex (P := fun t => way K S t ≠ 0) (f + 1) hw
      exact ⟨g, by rw [popN_low h8 (by omega)]; omega, g2, g3⟩
noncomputable def few (K : Nat → Nat → Bool) (S : Nat) : Nat := Classical.epsilon (fun f => IsMn K S f)
theorem few_is {K : Nat → Nat → Bool} {S : Nat} (h8 : S < 256) : IsMn K S (few K S) := by
  unfold few
  exact Classical.epsilon_spec (Mn_ex (K := K) S h8)
theorem few_le {K : Nat → Nat → Bool} {S A : Nat} (h8 : S < 256) (h0 : 0 < S) (hA : A < 256) (hv : vld K S A = true) : few K S ≤ 1 + few K (andn (andn S (2 ^ lowN S)) A) := by
  have hl := (low_ok S h8 h0).2.2.2.2.1
  have hq : andn (andn S (2 ^ lowN S)) A ≤ andn S (2 ^ lowN S) := andn_le
  apply (few_is h8).2.2
  rw [way_nz h8 h0]
  refine ⟨by omega, A, hA, hv, ?_⟩
  rw [Nat.add_sub_cancel_left]
  exact (few_is (by omega)).2.1
theorem few_at {K : Nat → Nat → Bool} {S : Nat} (h8 : S < 256) (h0 : 0 < S) : ∃ A, A < 256 ∧ vld K S A = true ∧ 1 + few K (andn (andn S (2 ^ lowN S)) A) ≤ few K S := by
  have hl := (low_ok S h8 h0).2.2.2.2.1
  obtain ⟨h1, A, h2, h3, h4⟩ := (way_nz h8 h0).mp (few_is (K := K) h8).2.1
  have hq : andn (andn S (2 ^ lowN S)) A ≤ andn S (2 ^ lowN S) := andn_le
  have := (few_is (K := K) (S := andn (andn S (2 ^ lowN S)) A) (by omega)).2.2 _ h4
  exact ⟨A, h2, h3, by omega⟩
theorem few_8 {K : Nat → Nat → Bool} {S : Nat} (h8 : S < 256) : few K S ≤ 8 := by
  have h := (few_is (K := K) h8).1
  have : popN S = bcn S.testBit 8 := bcn_hi (a := 8) (b := 24) (fun i h1 _ => Nat.testBit_lt_two_pow (Nat.lt_of_lt_of_le (show S < 2 ^ 8 from h8) (Nat.pow_le_pow_right (by decide) h1)))
  have := bcn_le S.testBit 8
  omega
-- ===== the class counts sets =====
def GrI (K : Nat → Nat → Bool) (S : Nat) (a : Mm) : Prop := (∀ T, T < S → a.1 48 T = nI (tot K T) ∧ a.1 49 T = nI (few K T)) ∧ ∀ T, T < S → a.1 47 T = if clq K T then 1 else 0
theorem set_parts {S w r k : Nat} (hw : w &&& r = w) (hr : r = andn S (2 ^ k)) (hk : S.testBit k = true) : andn S (andn r w) = w + 2 ^ k ∧ w.testBit k = false := by
  have hb : ∀ i, w.testBit i = true → r.testBit i = true := fun i hi => by
    have := congrArg (fun z => Nat.testBit z i) hw
    simp only [Nat.testBit_and, hi, Bool.true_and] at this
    exact this
  have hwk : w.testBit k = false := by
    cases q : w.testBit k with
    | false => rfl
    | true =>
      have := hb k q
      rw [hr, andn_bit, Nat.testBit_two_pow_self] at this
      simp at this
  refine ⟨?_, hwk⟩
  apply Nat.eq_of_testBit_eq
  intro i
  rw [tb_addk hwk, andn_bit, andn_bit, hr, andn_bit, Nat.testBit_two_pow]
  by_cases e : i = k
  · subst e
    rw [hk]
    simp
  · have e' : ¬ k = i := fun q => e q.symm
    cases hs : S.testBit i with
    | false =>
      have : w.testBit i = false := by
        cases q : w.testBit i with
        | false => rfl
        | true =>
          have := hb i q
          rw [hr, andn_bit, hs] at this
          cases this
      simp [this, e]
    | true => simp [e, e']
theorem count_c {K : Nat → Nat → Bool} {S : Nat} {M : Mm} (hK : ∀ a b, K a b = K b a) (hr : ∀ a, K a a = true) (h8 : S < 256) (h0 : 0 < S) (hI : GrI K S M) (hS : M.1 47 S = if clq K S then 1 else 0) : f_X5_countSet_44 (nI S) (nI (andn S (2 ^ lowN S))) M = some (wI (wI M 48 S (nI (tot K S))) 49 S (nI (few K S))) := by
  obtain ⟨l1, l2, l3, l4, l5, l6⟩ := low_ok S h8 h0
  generalize hrr : andn S (2 ^ lowN S) = r at *
  let T : Nat → Nat := fun A => if vld K S A then tot K (andn r A) else 0
  have f8 := few_8 (K := K) h8
  show b_X5_countSet_44_12 FU (nI S) (nI r) (nI 0) (nI 8) (nI r) (nI 0) M = _
  refine wh_q (fun n (a : Nat × Nat × Nat × Nat) => b_X5_countSet_44_12 n (nI S) (nI r) (nI a.1) (nI a.2.1) (nI a.2.2.1) (nI a.2.2.2) M) (fun a => a.2.2.1) (fun a => a.2.2.1 &&& r = a.2.2.1 ∧ a.2.2.2 + a.2.2.1 ≤ r ∧ a.1 = smN (fun A => if a.2.2.1 < A then T A else 0) 256 ∧ few K S ≤ a.2.1 ∧ a.2.1 ≤ 8 ∧ ∀ A, a.2.2.1 < A → A < 256 → vld K S A = true → a.2.1 ≤ 1 + few K (andn r A)) (fun o => o = some (wI (wI M 48 S (nI (tot K S))) 49 S (nI (few K S)))) ?_ r (0, 8, r, 0) FU (Nat.le_refl _) (by show _ < 200000; omega) ?_
  · rintro n ⟨W, f, w, s⟩ ⟨i1, i2, i3, i4, i5, i6⟩
    have j1 : w &&& r = w := i1
    have j2 : s + w ≤ r := i2
    have j3 : W = smN (fun A => if w < A then T A else 0) 256 := i3
    have j4 : few K S ≤ f := i4
    have j5 : f ≤ 8 := i5
    have j6 : ∀ A, w < A → A < 256 → vld K S A = true → f ≤ 1 + few K (andn r A) := i6
    clear i1 i2 i3 i4 i5 i6
    obtain ⟨p1, p2⟩ := set_parts j1 hrr.symm l2
    have hle : andn r w ≤ r := andn_le
    have hsub : sbs w r = true := by unfold sbs; rw [j1]; exact beq_self_eq_true w
    have hv : clq K (w + 2 ^ lowN S) = vld K S w := by
      unfold vld
      rw [clq_add hK hr l1 p2, hrr, hsub, Bool.true_and]
    have hidx : w + 2 ^ lowN S ≤ S := by
      have : w ≤ r := by omega
      omega
    have h47 : M.1 47 (w + 2 ^ lowN S) = if vld K S w then 1 else 0 := by
      rw [← hv]
      by_cases e : w + 2 ^ lowN S = S
      · rw [e]
        exact hS
      · exact hI.2 _ (by omega)
    -- what comes of w
    have key : ∃ W1 f1, W1 = W + T w ∧ few K S ≤ f1 ∧ f1 ≤ 8 ∧ (∀ A, w ≤ A → A < 256 → vld K S A = true → f1 ≤ 1 + few K (andn r A)) ∧ b_X5_countSet_44_12 (n + 1) (nI S) (nI r) (nI W) (nI f) (nI w) (nI s) M = bb_X5_countSet_44_66 (b_X5_countSet_44_12 n) (nI S) (nI r) (nI W1) (nI f1) (nI w) (nI s) M := by
      have hh : b_X5_countSet_44_12 (n + 1) (nI S) (nI r) (nI W) (nI f) (nI w) (nI s) M = bb_X5_countSet_44_12 (b_X5_countSet_44_12 n) (nI S) (nI r) (nI W) (nI f) (nI w) (nI s) M := rfl
      rw [hh]
      unfold bb_X5_countSet_44_12
      rw [if_neg (nI_nlt (by omega) (by omega)), ltv_eq, nI_andn, nI_andn, p1, gd_of (inb_nI (by omega) (by decide)), ix_nI (by omega), h47]
      cases hvw : vld K S w with
      | false =>
        refine ⟨W, f, ?_, j4, j5, fun A hA hA2 hvA => ?_, ?_⟩
        · show W = W + (if vld K S w then tot K (andn r w) else 0)
          rw [hvw]
          rfl
        · by_cases e : A = w
          · rw [e, hvw] at hvA
            cases hvA
          · exact j6 A (by omega) hA2 hvA
        · rw [if_pos (by decide)]
      | true =>
        obtain ⟨t1, t2⟩ := hI.1 (andn r w) (by omega)
        have fl := few_le h8 h0 (show w < 256 by omega) hvw
        rw [hrr] at fl
        have f88 := few_8 (K := K) (S := andn r w) (by omega)
        refine ⟨W + tot K (andn r w), min f (1 + few K (andn r w)), ?_, by omega, by omega, fun A hA hA2 hvA => ?_, ?_⟩
        · show _ = W + (if vld K S w then tot K (andn r w) else 0)
          rw [hvw]
          rfl
        · by_cases e : A = w
          · rw [e]
            exact Nat.min_le_right _ _
          · have := j6 A (by omega) hA2 hvA
            omega
        · rw [if_pos rfl, if_neg (by decide)]
          simp only [gd_of (inb_nI (n := 256) (show andn r w < 256 by omega) (by decide)), ltv_eq]
          rw [ix_nI (by omega), t1, t2, nI_add, show (1 : Int32) + nI (few K (andn r w)) = nI (1 + few K (andn r w)) from nI_add 1 _, min_nI (by omega) (by omega)]
    obtain ⟨W1, f1, k1, k2, k3, k4, k5⟩ := key
    by_cases w0 : w = 0
    · left
      show b_X5_countSet_44_12 (n + 1) (nI S) (nI r) (nI W) (nI f) (nI w) (nI s) M = _
      rw [k5]
      unfold bb_X5_countSet_44_66 bb_X5_countSet_44_88
      subst w0
      have eW : W1 = tot K S := by
        rw [k1, j3, tot_s h8 h0, hrr, show T 0 = smN (fun A => if A = 0 then T A else 0) 256 from (smN_pt (by decide)).symm, ← smN_add]
        apply smN_cong
        intro A _
        by_cases e : A = 0
        · rw [if_neg (by omega), if_pos e, Nat.zero_add]
        · rw [if_pos (by omega), if_neg e, Nat.add_zero]
      have ef : f1 = few K S := by
        obtain ⟨A, a1, a2, a3⟩ := few_at (K := K) h8 h0
        rw [hrr] at a3
        have := k4 A (Nat.zero_le _) a1 a2
        omega
      rw [if_pos nI_0, gd_of (inb_nI (by omega) (by decide)), ltv_eq, gd_of (inb_nI (by omega) (by decide)), ltv_eq, ix_nI (by omega), eW, ef]
    · right
      refine ⟨(W1, f1, (w - 1) &&& r, s + 1), ?_, ?_, ?_⟩
      · show b_X5_countSet_44_12 (n + 1) (nI S) (nI r) (nI W) (nI f) (nI w) (nI s) M = b_X5_countSet_44_12 n (nI S) (nI r) (nI W1) (nI f1) (nI ((w - 1) &&& r)) (nI (s + 1)) M
        rw [k5]
        unfold bb_X5_countSet_44_66
        rw [if_neg (nI_ne0 (by omega) (by omega)), ltv_eq, ltv_eq, nI_1, show (1 : Int32) = nI 1 from rfl, nI_sub (by omega), nI_and]
      · have hlt : (w - 1) &&& r ≤ w - 1 := Nat.and_le_left
        refine ⟨?_, ?_, ?_, k2, k3, ?_⟩
        · show ((w - 1) &&& r) &&& r = (w - 1) &&& r
          rw [Nat.and_assoc, Nat.and_self]
        · show s + 1 + ((w - 1) &&& r) ≤ r
          omega
        · show W1 = smN (fun A => if (w - 1) &&& r < A then T A else 0) 256
          rw [k1, j3, show T w = smN (fun A => if A = w then T A else 0) 256 from (smN_pt (show w < 256 by omega)).symm, ← smN_add]
          apply smN_cong
          intro A _
          by_cases e : A = w
          · rw [if_neg (by omega), if_pos e, if_pos (by omega), Nat.zero_add]
          · rw [if_neg e, Nat.add_zero]
            by_cases q : w < A
            · rw [if_pos q, if_pos (by omega)]
            · rw [if_neg q]
              by_cases q2 : (w - 1) &&& r < A
              · rw [if_pos q2]
                show 0 = if vld K S A then tot K (andn r A) else 0
                cases hvA : vld K S A with
                | false => rfl
                | true =>
                  exfalso
                  have hvA' := hvA
                  unfold vld at hvA'
                  rw [hrr, Bool.and_eq_true] at hvA'
                  have hAr : A &&& r = A := by
                    have := hvA'.1
                    unfold sbs at this
                    exact beq_iff_eq.mp this
                  have := sub_next w r A j1 hAr (by omega)
                  omega
              · rw [if_neg q2]
        · intro A hA hA2 hvA
          show f1 ≤ 1 + few K (andn r A)
          have hA' : (w - 1) &&& r < A := hA
          by_cases q : w ≤ A
          · exact k4 A q hA2 hvA
          · exfalso
            have hvA' := hvA
            unfold vld at hvA'
            rw [hrr, Bool.and_eq_true] at hvA'
            have hAr : A &&& r = A := by
              have := hvA'.1
              unfold sbs at this
              exact beq_iff_eq.mp this
            have := sub_next w r A j1 hAr (by omega)
            omega
      · have hlt : (w - 1) &&& r ≤ w - 1 := Nat.and_le_left
        show (w - 1) &&& r < w
        omega
  · refine ⟨Nat.and_self r, ?_, ?_, f8, Nat.le_refl _, ?_⟩
    · show 0 + r ≤ r
      omega
    · show 0 = smN (fun A => if r < A then T A else 0) 256
      rw [smN_cong (g := fun _ => 0) (fun A _ => ?_), smN_zero]
      by_cases q : r < A
      · rw [if_pos q]
        show (if vld K S A then tot K (andn r A) else 0) = 0
        cases hvA : vld K S A with
        | false => rfl
        | true =>
          exfalso
          unfold vld at hvA
          rw [hrr, Bool.and_eq_true] at hvA
          have := hvA.1
          unfold sbs at this
          have hAr : A &&& r = A := beq_iff_eq.mp this
          have : A &&& r ≤ r := Nat.and_le_right
          omega
      · rw [if_neg q]
    · intro A hA hA2 hvA
      exfalso
      unfold vld at hvA
      rw [hrr, Bool.and_eq_true] at hvA
      have := hvA.1
      unfold sbs at this
      have hAr : A &&& r = A := beq_iff_eq.mp this
      have h2 : A &&& r ≤ r := Nat.and_le_right
      have h3 : r < A := hA
      omega
theorem neg_low : ∀ S, S < 256 → 0 < S → (nI S &&& (-nI S)) - 1 = nI (2 ^ lowN S - 1) ∧ nI S &&& (nI S - 1) = nI (andn S (2 ^ lowN S)) := by decide +kernel
theorem sets_c {K : Nat → Nat → Bool} {n : Nat} {M : Mm} (hK : ∀ a b, K a b = K b a) (hr : ∀ a, K a a = true) (hn : n ≤ 8) (h44 : M.1 44 5 = nI n) (h46 : ∀ q, q < n → M.1 46 q = nI (mkB (K q) n)) : ∃ M', f_X5_countSets_44 M = some M' ∧ Fr [(47, 999), (48, 999), (49, 999)] M M' ∧ GrI K (2 ^ n) M' := by
  have hp : 2 ^ n ≤ 2 ^ 8 := Nat.pow_le_pow_right (by decide) hn
  have h1 : 0 < 2 ^ n := Nat.two_pow_pos n
  unfold f_X5_countSets_44 bb_X5_countSets_44_0
  simp only [ltv_eq]
  obtain ⟨e, he⟩ : ∃ e, 2 ^ n = e + 1 := ⟨2 ^ n - 1, by omega⟩
  refine for_q (fun q i (b : Mm) => b_X5_countSets_44_23 q (nI (i + 1)) b) e (fun i b => Fr [(47, 999), (48, 999), (49, 999)] M b ∧ GrI K (i + 1) b) (fun o => ∃ M', o = some M' ∧ Fr [(47, 999), (48, 999), (49, 999)] M M' ∧ GrI K (2 ^ n) M') ?_ ?_ e 0 _ FU (Nat.zero_add _) (by show _ < 200000; omega) ?_
  · rintro q i b hi ⟨f1, g1⟩
    right
    have b44 : b.1 44 5 = nI n := (f1 44 5 rfl).1.trans h44
    have b46 : ∀ q, q < n → b.1 46 q = nI (mkB (K q) n) := fun q hq => ((f1 46 q rfl).1).trans (h46 q hq)
    have h8 : i + 1 < 256 := by omega
    obtain ⟨l1, l2, l3, l4, l5, l6⟩ := low_ok (i + 1) h8 (by omega)
    obtain ⟨n1, n2⟩ := neg_low (i + 1) h8 (by omega)
    have lk : lowN (i + 1) < n := by
      apply bit_hi (n := i + 1) _ l2
      omega
    have hrl : (andn (i + 1) (2 ^ lowN (i + 1))).testBit (lowN (i + 1)) = false := by
      rw [andn_bit, Nat.testBit_two_pow_self]
      simp
    have hq : clq K (i + 1) = (clq K (andn (i + 1) (2 ^ lowN (i + 1))) && allK K (andn (i + 1) (2 ^ lowN (i + 1))) (lowN (i + 1))) := by
      rw [← clq_add hK hr l1 hrl, l6]
    have hra : ∀ a, (andn (i + 1) (2 ^ lowN (i + 1))).testBit a = true → a < n := fun a ha => bit_hi (Nat.lt_of_lt_of_le l5 (by omega)) ha
    have hak : (andn (andn (i + 1) (2 ^ lowN (i + 1))) (mkB (K (lowN (i + 1))) n) = 0) ↔ allK K (andn (i + 1) (2 ^ lowN (i + 1))) (lowN (i + 1)) = true := by
      rw [allK_iff]
      constructor
      · intro h a ha hb
        have := congrArg (fun z => Nat.testBit z a) h
        simp only [andn_bit (andn (i + 1) (2 ^ lowN (i + 1))), hb, Bool.true_and, Nat.zero_testBit, mkB_bit, decide_eq_true (hra a hb)] at this
        rw [hK]
        simpa using this
      · intro h
        apply Nat.eq_of_testBit_eq
        intro a
        rw [andn_bit, Nat.zero_testBit, mkB_bit]
        cases hb : (andn (i + 1) (2 ^ lowN (i + 1))).testBit a with
        | false => rfl
        | true =>
          have := hra a hb
          rw [decide_eq_true this, hK, h a (by omega) hb]
          rfl
    -- the group's word, then the counting
    have put : ∀ v : Int32, v = (if clq K (i + 1) then 1 else 0) → ∃ b', (bd (f_X5_countSet_44 (nI (i + 1)) (nI (andn (i + 1) (2 ^ lowN (i + 1)))) (wI b 47 (i + 1) v)) fun M_14 => ltv (nI (i + 1) + (1 : Int32)) fun x1_15 => b_X5_countSets_44_23 q x1_15 M_14) = b_X5_countSets_44_23 q (nI (i + 1 + 1)) b' ∧ Fr [(47, 999), (48, 999), (49, 999)] M b' ∧ GrI K (i + 1 + 1) b' := by
      rintro v rfl
      have gI : GrI K (i + 1) (wI b 47 (i + 1) (if clq K (i + 1) then 1 else 0)) := by
        refine ⟨g1.1, fun T hT => ?_⟩
        have e1 : ∀ v, (wI b 47 (i + 1) v).1 47 T = b.1 47 T := fun v => if_neg (fun z => by omega)
        rw [e1]
        exact g1.2 T hT
      refine ⟨_, by rw [count_c hK hr h8 (by omega) gI wI_at, bd_some, ltv_eq, nI_1], Fr.tr f1 (Fr.tr (Fr.wIa rfl) (Fr.tr (Fr.wIa rfl) (Fr.wIa rfl))), fun T hT => ?_, fun T hT => ?_⟩
      · by_cases e : T = i + 1
        · subst e
          refine ⟨?_, wI_at⟩
          rw [wI_c (by decide), wI_at]
        · obtain ⟨t1, t2⟩ := g1.1 T (by omega)
          constructor
          · rw [wI_i e, wI_i e, wI_i e]
            exact t1
          · rw [wI_i e, wI_i e, wI_i e]
            exact t2
      · by_cases e : T = i + 1
        · subst e
          rw [wI_c (by decide), wI_c (by decide), wI_at]
        · rw [wI_i e, wI_i e, wI_i e]
          exact g1.2 T (by omega)
    have no : clq K (i + 1) = false → ∃ b', bb_X5_countSets_44_91 (b_X5_countSets_44_23 q) (nI (i + 1)) (nI (andn (i + 1) (2 ^ lowN (i + 1)))) (nI (i + 1)) b = b_X5_countSets_44_23 q (nI (i + 1 + 1)) b' ∧ Fr [(47, 999), (48, 999), (49, 999)] M b' ∧ GrI K (i + 1 + 1) b' := by
      intro hf
      unfold bb_X5_countSets_44_91
      rw [gd_of (inb_nI (by omega) (by decide)), ltv_eq, ix_nI (by omega)]
      exact put _ (by rw [hf]; rfl)
    show ∃ a', bb_X5_countSets_44_23 _ _ _ = _ ∧ _
    unfold bb_X5_countSets_44_23 f_X5_allPrints_44 bb_X5_allPrints_44_0
    rw [b44, shI_c n (by omega), bd_some, show (nI (2 ^ n) - 1 : Int32) = nI (2 ^ n - 1) from nI_sub h1, if_neg (nI_nlt (by omega) (by omega)), if_neg (show ¬ (256 : Int32) ≤ nI (i + 1) from nI_ge h8 (by decide)), n1, n2, f_bits32 (by have := Nat.pow_le_pow_right (show 0 < 2 by decide) (show lowN (i + 1) ≤ 8 by omega); omega), popN_full _ (by omega), bd_some, ltv_eq, if_neg (show ¬ (8 : Int32) ≤ nI (lowN (i + 1)) from nI_ge l1 (by decide)), gd_of (inb_nI (by omega) (by decide)), ix_nI (show andn (i + 1) (2 ^ lowN (i + 1)) < 2 ^ 31 by omega), g1.2 _ l5]
    cases hc : clq K (andn (i + 1) (2 ^ lowN (i + 1))) with
    | false =>
      rw [if_pos (by decide)]
      exact no (by rw [hq, hc]; rfl)
    | true =>
      rw [if_pos rfl, if_neg (by decide), gd_of (inb_nI l1 (by decide)), ix_nI (show lowN (i + 1) < 2 ^ 31 by omega), b46 _ lk, nI_andn]
      have hz := nI_z0 (show andn (andn (i + 1) (2 ^ lowN (i + 1))) (mkB (K (lowN (i + 1))) n) < 2 ^ 31 from Nat.lt_of_le_of_lt andn_le (by omega))
      cases ha : allK K (andn (i + 1) (2 ^ lowN (i + 1))) (lowN (i + 1)) with
      | false =>
        rw [if_neg (fun z => by rw [hak.mp (hz.mp z)] at ha; cases ha)]
        exact no (by rw [hq, hc, ha]; rfl)
      | true =>
        rw [if_pos (hz.mpr (hak.mpr ha)), gd_of (inb_nI (by omega) (by decide)), ltv_eq, ix_nI (by omega)]
        exact put _ (by rw [hq, hc, ha]; rfl)
  · rintro q b ⟨f1, g1⟩
    have b44 : b.1 44 5 = nI n := (f1 44 5 rfl).1.trans h44
    show ∃ M', bb_X5_countSets_44_23 _ _ _ = _ ∧ _
    unfold bb_X5_countSets_44_23 f_X5_allPrints_44 bb_X5_allPrints_44_0
    rw [b44, shI_c n (by omega), bd_some, show (nI (2 ^ n) - 1 : Int32) = nI (2 ^ n - 1) from nI_sub h1, if_pos (nI_lt (by omega) (by omega))]
    refine ⟨b, rfl, f1, ?_⟩
    rw [he]
    exact g1
  · refine ⟨Fr.tr (Fr.wIa rfl) (Fr.tr (Fr.wIa rfl) (Fr.wIa rfl)), fun T hT => ?_, fun T hT => ?_⟩
    · have e0 : T = 0 := by omega
      subst e0
      have ft : few K 0 = 0 := by
        have := (few_is (K := K) (S := 0) (by decide)).1
        rw [popN_0] at this
        omega
      have tt : tot K 0 = 1 := by
        unfold tot
        rw [smN_cong (g := fun t => if 0 = t then 1 else 0) (fun t _ => by
          rw [way_0]
          by_cases e : t = 0
          · rw [if_pos e, if_pos e.symm]
          · rw [if_neg e, if_neg (fun z => e z.symm)])]
        exact smN_ind (by decide)
      rw [ft, tt]
      exact ⟨rfl, rfl⟩
    · have e0 : T = 0 := by omega
      subst e0
      rw [clq_0]
      rfl
