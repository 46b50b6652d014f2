-- ===== a shape in its corner =====
theorem and_FF {a : Int64} : (a &&& 255) = 0 ↔ ∀ i, i < 8 → lb a i = false := by
  rw [lb_zero]
  constructor
  · intro h i hi
    have := h i (by omega)
    rw [lb_and, lb_FF i (by omega)] at this
    simpa [hi] using this
  · intro h i hi
    rw [lb_and, lb_FF i hi]
    by_cases q : i < 8
    · rw [h i q]
      rfl
    · simp [q]
theorem and_01 {a : Int64} : (a &&& 72340172838076673) = 0 ↔ ∀ i, i < 64 → i % 8 = 0 → lb a i = false := by
  rw [lb_zero]
  constructor
  · intro h i hi h8
    have := h i hi
    rw [lb_and, lb_01 i hi] at this
    simpa [h8] using this
  · intro h i hi
    rw [lb_and, lb_01 i hi]
    by_cases q : i % 8 = 0
    · rw [h i hi q]
      rfl
    · simp [q]
/-- y is x moved into the corner: r rows up, c columns to the left -/
def IsCor (x y : Int64) : Prop := ∃ r c, r < 8 ∧ c < 8 ∧ (∀ i, i < 64 → i / 8 < r → lb x i = false) ∧ (∀ i, i < 64 → i % 8 < c → lb x i = false) ∧ (x ≠ 0 → (∃ i, i < 64 ∧ i / 8 = r ∧ lb x i = true) ∧ ∃ i, i < 64 ∧ i % 8 = c ∧ lb x i = true) ∧ ∀ j, j < 64 → lb y j = (decide (j % 8 + c < 8) && lb x (j + 8 * r + c))
theorem IsCor.uniq {x y z : Int64} (h1 : IsCor x y) (h2 : IsCor x z) : y = z := by
  obtain ⟨r, c, hr, hc, a1, a2, a3, a4⟩ := h1
  obtain ⟨r', c', hr', hc', b1, b2, b3, b4⟩ := h2
  apply lb_ext
  intro j hj
  rw [a4 j hj, b4 j hj]
  by_cases e : x = 0
  · subst e
    rw [lb_0, lb_0, Bool.and_false, Bool.and_false]
  · obtain ⟨⟨i1, p1, p2, p3⟩, ⟨i2, q1, q2, q3⟩⟩ := a3 e
    obtain ⟨⟨j1, s1, s2, s3⟩, ⟨j2, t1, t2, t3⟩⟩ := b3 e
    have er : r = r' := by
      rcases Nat.lt_trichotomy r r' with h | h | h
      · have := b1 i1 p1 (by omega)
        rw [p3] at this
        cases this
      · exact h
      · have := a1 j1 s1 (by omega)
        rw [s3] at this
        cases this
    have ec : c = c' := by
      rcases Nat.lt_trichotomy c c' with h | h | h
      · have := b2 i2 q1 (by omega)
        rw [q3] at this
        cases this
      · exact h
      · have := a2 j2 t1 (by omega)
        rw [t3] at this
        cases this
    rw [er, ec]
theorem cor2 (x : Int64) (r : Nat) (hr : r < 8) (h1 : ∀ i, i < 64 → i / 8 < r → lb x i = false) (h3 : x ≠ 0 → ∃ i, i < 64 ∧ i / 8 = r ∧ lb x i = true) (a : Int64) (ha : ∀ i, i < 64 → lb a i = lb x (i + 8 * r)) : Gv (IsCor x) (b_X4_toCorner_36 FU a (nI 0)) := by
  have fin : ∀ k a, k < 8 → ((∀ i, i < 64 → i % 8 < k → lb x i = false) ∧ ∀ i, i < 64 → lb a i = (decide (i % 8 + k < 8) && lb x (i + 8 * r + k))) → (x ≠ 0 → ∃ i, i < 64 ∧ i % 8 = k ∧ lb x i = true) → IsCor x a := by
    intro k a hk hI hn
    exact ⟨r, k, hr, hk, h1, hI.1, fun e => ⟨h3 e, hn e⟩, hI.2⟩
  refine for_q (fun n k a => b_X4_toCorner_36 n a (nI k)) 7 (fun k a => (∀ i, i < 64 → i % 8 < k → lb x i = false) ∧ ∀ i, i < 64 → lb a i = (decide (i % 8 + k < 8) && lb x (i + 8 * r + k))) _ ?_ ?_ 7 0 _ FU rfl (by decide) ?_
  · intro n k a hk hI
    show Gv _ (bb_X4_toCorner_36 _ _ _) ∨ ∃ a', bb_X4_toCorner_36 _ _ _ = _ ∧ _
    unfold bb_X4_toCorner_36
    rw [if_neg (show ¬ (7 : Int32) ≤ nI k from nI_ge hk (by decide))]
    by_cases h : (a &&& 72340172838076673) = 0
    · rw [if_pos h]
      right
      refine ⟨ushL a 1, by rw [ltv_eq, ltv_eq, nI_1], ?_, ?_⟩
      · intro i hi hm
        by_cases e : i % 8 < k
        · exact hI.1 i hi e
        · have e2 : i % 8 = k := by omega
          by_cases hr2 : i / 8 < r
          · exact h1 i hi hr2
          · have q := (and_01.mp h) (i - k - 8 * r) (by omega) (by omega)
            rw [hI.2 _ (by omega)] at q
            have e3 : (i - k - 8 * r) + 8 * r + k = i := by omega
            rw [e3] at q
            have e4 : (i - k - 8 * r) % 8 + k < 8 := by omega
            simpa [e4] using q
      · intro i hi
        rw [lb_ush1, Nat.add_comm 1 i]
        by_cases e : i % 8 = 7
        · have g : ¬ (i % 8 + (k + 1) < 8) := by omega
          simp only [g, decide_false, Bool.false_and]
          by_cases e63 : i + 1 < 64
          · exact (and_01.mp h) (i + 1) e63 (by omega)
          · exact lb_big (by omega)
        · rw [hI.2 (i + 1) (by omega)]
          have e1 : (decide ((i + 1) % 8 + k < 8)) = decide (i % 8 + (k + 1) < 8) := by
            congr 1
            apply propext
            omega
          rw [e1]
          congr 2
          omega
    · rw [if_neg h]
      left
      refine Gv.ret (fin k a (by omega) hI ?_)
      intro _
      have h' := h
      rw [and_01] at h'
      apply Classical.byContradiction
      intro hc
      apply h'
      intro i hi h8
      rw [hI.2 i hi]
      cases hb : lb x (i + 8 * r + k) with
      | false => rw [Bool.and_false]
      | true =>
        exfalso
        apply hc
        have : i + 8 * r + k < 64 := by
          rcases Nat.lt_or_ge (i + 8 * r + k) 64 with q | q
          · exact q
          · rw [lb_big q] at hb
            cases hb
        exact ⟨_, this, by omega, hb⟩
  · intro n a hI
    refine Gv.ret (P := IsCor x) (r := a) (fin 7 a (by decide) hI ?_)
    intro hx
    obtain ⟨i, hi, hb⟩ := lb_nz.mp hx
    refine ⟨i, hi, ?_, hb⟩
    apply Classical.byContradiction
    intro hc
    rw [hI.1 i hi (by omega)] at hb
    cases hb
  · refine ⟨fun i hi h => by omega, ?_⟩
    intro i hi
    rw [ha i hi]
    have : i % 8 + 0 < 8 := by omega
    rw [decide_eq_true this, Bool.true_and]
    rfl
theorem cor_c (x : Int64) : Gv (IsCor x) (f_X4_toCorner x) := by
  show Gv (IsCor x) (b_X4_toCorner_5 FU x (nI 0))
  refine for_q (fun n k a => b_X4_toCorner_5 n a (nI k)) 7 (fun k a => (∀ i, i < 64 → i / 8 < k → lb x i = false) ∧ ∀ i, i < 64 → lb a i = lb x (i + 8 * k)) _ ?_ ?_ 7 0 _ FU rfl (by decide) ?_
  · intro n k a hk hI
    show Gv _ (bb_X4_toCorner_5 _ _ _) ∨ ∃ a', bb_X4_toCorner_5 _ _ _ = _ ∧ _
    unfold bb_X4_toCorner_5
    rw [if_neg (show ¬ (7 : Int32) ≤ nI k from nI_ge hk (by decide))]
    by_cases h : (a &&& 255) = 0
    · rw [if_pos h]
      right
      refine ⟨ushL a 8, by rw [ltv_eq, ltv_eq, nI_1], ?_, ?_⟩
      · intro i hi hm
        by_cases e : i / 8 < k
        · exact hI.1 i hi e
        · have q := (and_FF.mp h) (i - 8 * k) (by omega)
          rw [hI.2 _ (by omega)] at q
          have e3 : (i - 8 * k) + 8 * k = i := by omega
          rw [e3] at q
          exact q
      · intro i hi
        rw [lb_ush8]
        by_cases e : 8 + i < 64
        · rw [hI.2 _ e]
          congr 1
          omega
        · rw [lb_big (by omega), lb_big (by omega)]
    · rw [if_neg h]
      left
      refine cor2 x k (by omega) hI.1 ?_ a hI.2
      intro _
      have h' := h
      rw [and_FF] at h'
      apply Classical.byContradiction
      intro hc
      apply h'
      intro i hi
      rw [hI.2 i (by omega)]
      cases hb : lb x (i + 8 * k) with
      | false => rfl
      | true =>
        exfalso
        exact hc ⟨i + 8 * k, by omega, by omega, hb⟩
  · intro n a hI
    refine cor2 x 7 (by decide) hI.1 ?_ a hI.2
    intro hx
    obtain ⟨i, hi, hb⟩ := lb_nz.mp hx
    refine ⟨i, hi, ?_, hb⟩
    apply Classical.byContradiction
    intro hc
    rw [hI.1 i hi (by omega)] at hb
    cases hb
  · exact ⟨fun i hi h => by omega, fun i hi => rfl⟩
def Cor (x : Int64) : Int64 := (f_X4_toCorner x).getD 0
theorem f_corner (x : Int64) : f_X4_toCorner x = some (Cor x) := by
  obtain ⟨y, e, _⟩ := cor_c x
  unfold Cor
  rw [e]
  rfl
theorem Cor_is (x : Int64) : IsCor x (Cor x) := by
  obtain ⟨y, e, h⟩ := cor_c x
  unfold Cor
  rw [e]
  exact h
-- the model's
theorem shp2 (x : Int64) (r c : Nat) (hr : r ≤ 8) (hc : c ≤ 8) (h1 : ∀ i, i < 64 → i / 8 < r → lb x i = false) (h2 : ∀ i, i < 64 → i % 8 < c → lb x i = false) (h3 : x ≠ 0 → (∃ i, i < 64 ∧ i / 8 = r ∧ lb x i = true) ∧ ∃ i, i < 64 ∧ i % 8 = c ∧ lb x i = true) : Gv (IsCor x) (b_X10_shapeOf_78 FU x (nI c) (nI r) 0 (nI 0)) := by
  have main := put_loop (fun n k a => b_X10_shapeOf_78 n x (nI c) (nI r) a (nI k)) x (fun s => s - 8 * r - c) (fun s hs => by omega) (by
    intro n k a hk hb
    have k1 : r ≤ k / 8 := by
      apply Classical.byContradiction
      intro q
      rw [h1 k hk (by omega)] at hb
      cases hb
    have k2 : c ≤ k % 8 := by
      apply Classical.byContradiction
      intro q
      rw [h2 k hk (by omega)] at hb
      cases hb
    show bb_X10_shapeOf_78 _ _ _ _ _ _ = _
    unfold bb_X10_shapeOf_78
    rw [if_neg (show ¬ (64 : Int32) ≤ nI k from nI_ge hk (by decide)), is_t hk hb, bd_some, if_neg (by decide), ltv_eq, ltv_eq, nI_1]
    have e : nI k - (8 : Int32) * nI r - nI c = nI (k - 8 * r - c) := by
      rw [show (8 : Int32) * nI r = nI (8 * r) from pk_mul 8 r, nI_sub (by omega), nI_sub (by omega)]
    rw [e]) (by
    intro n k a hk hb
    show bb_X10_shapeOf_78 _ _ _ _ _ _ = _
    unfold bb_X10_shapeOf_78
    rw [if_neg (show ¬ (64 : Int32) ≤ nI k from nI_ge hk (by decide)), is_f hk hb, bd_some, if_pos rfl, ltv_eq, nI_1]) (fun n a => rfl)
  refine Gv.weak main ?_
  intro y hy
  by_cases e : x = 0
  · refine ⟨0, 0, by decide, by decide, fun i hi h => by omega, fun i hi h => by omega, fun q => absurd e q, ?_⟩
    intro j hj
    rw [hy j hj]
    subst e
    rw [lb_0, Bool.and_false]
    apply Bool.eq_false_iff.mpr
    intro q
    obtain ⟨s, _, q2⟩ := anB_iff.mp q
    rw [lb_0] at q2
    cases q2
  · obtain ⟨⟨i1, p1, p2, p3⟩, ⟨i2, q1, q2, q3⟩⟩ := h3 e
    refine ⟨r, c, by omega, by omega, h1, h2, h3, ?_⟩
    intro j hj
    rw [hy j hj]
    apply Bool.eq_iff_iff.mpr
    rw [anB_iff]
    simp only [Bool.and_eq_true, decide_eq_true_eq]
    constructor
    · rintro ⟨s, hs, hb, hj2⟩
      have k1 : r ≤ s / 8 := by
        apply Classical.byContradiction
        intro q
        rw [h1 s hs (by omega)] at hb
        cases hb
      have k2 : c ≤ s % 8 := by
        apply Classical.byContradiction
        intro q
        rw [h2 s hs (by omega)] at hb
        cases hb
      have e1 : j + 8 * r + c = s := by omega
      rw [e1]
      exact ⟨by omega, hb⟩
    · rintro ⟨g1, g2⟩
      have : j + 8 * r + c < 64 := by
        rcases Nat.lt_or_ge (j + 8 * r + c) 64 with q | q
        · exact q
        · rw [lb_big q] at g2
          cases g2
      exact ⟨_, this, g2, by omega⟩
theorem g_shape (x : Int64) : f_X10_shapeOf x = some (Cor x) := by
  have main : Gv (IsCor x) (f_X10_shapeOf x) := by
    show Gv (IsCor x) (b_X10_shapeOf_9 FU x (nI 8) (nI 8) (nI 0))
    refine for_q (fun n k (a : Nat × Nat) => b_X10_shapeOf_9 n x (nI a.1) (nI a.2) (nI k)) 64 (fun k a => a.1 ≤ 8 ∧ a.2 ≤ 8 ∧ (∀ i, i < k → lb x i = true → a.1 ≤ i % 8 ∧ a.2 ≤ i / 8) ∧ ((¬ ∃ i, i < k ∧ lb x i = true) → a.1 = 8 ∧ a.2 = 8) ∧ ((∃ i, i < k ∧ lb x i = true) → (∃ i, i < k ∧ i / 8 = a.2 ∧ lb x i = true) ∧ ∃ i, i < k ∧ i % 8 = a.1 ∧ lb x i = true)) _ ?_ ?_ 64 0 (8, 8) FU rfl (by decide) ?_
    · rintro n k ⟨c, r⟩ hk ⟨hc, hr, hI, hZ, hE⟩
      simp only at hc hr hI hZ hE
      right
      show ∃ a' : Nat × Nat, bb_X10_shapeOf_9 _ _ _ _ _ = _ ∧ _
      unfold bb_X10_shapeOf_9
      rw [if_neg (show ¬ (64 : Int32) ≤ nI k from nI_ge hk (by decide))]
      have r8 : rmI (nI k) 8 = nI (k % 8) := rmI_nI (by omega) (by decide) (by decide)
      have d8 : nI k / 8 = nI (k / 8) := pk_div (d := 8) (by omega) (by decide) (by decide)
      cases hb : lb x k with
      | false =>
        refine ⟨(c, r), ?_, hc, hr, ?_, ?_, ?_⟩
        · rw [is_f hk hb, bd_some, if_pos rfl, ltv_eq, nI_1]
        · intro i hi hx
          have : i ≠ k := by
            intro e
            subst e
            rw [hb] at hx
            cases hx
          exact hI i (by omega) hx
        · intro q
          exact hZ (fun ⟨i, hi, hx⟩ => q ⟨i, by omega, hx⟩)
        · rintro ⟨i, hi, hx⟩
          have : i ≠ k := by
            intro e
            subst e
            rw [hb] at hx
            cases hx
          obtain ⟨⟨i1, p1, p2⟩, ⟨i2, q1, q2⟩⟩ := hE ⟨i, by omega, hx⟩
          exact ⟨⟨i1, by omega, p2⟩, ⟨i2, by omega, q2⟩⟩
      | true =>
        have s46 : ∀ c', bb_X10_shapeOf_46 (b_X10_shapeOf_9 n) x (nI r) (nI k) (nI c') = b_X10_shapeOf_9 n x (nI c') (nI (if k / 8 < r then k / 8 else r)) (nI (k + 1)) := by
          intro c'
          unfold bb_X10_shapeOf_46
          rw [d8]
          by_cases h : k / 8 < r
          · rw [if_neg (nI_ge h (by omega)), if_pos h, ltv_eq, ltv_eq, nI_1]
          · rw [if_pos (nI_le (by omega) (by omega)), if_neg h, ltv_eq, nI_1]
        refine ⟨(if k % 8 < c then k % 8 else c, if k / 8 < r then k / 8 else r), ?_, ?_, ?_, ?_, ?_, ?_⟩
        · rw [is_t hk hb, bd_some, if_neg (by decide), r8]
          simp only
          by_cases h : k % 8 < c
          · rw [if_neg (nI_ge h (by omega)), s46, if_pos h]
          · rw [if_pos (nI_le (by omega) (by omega)), s46, if_neg h]
        · simp only
          split <;> omega
        · simp only
          split <;> omega
        · intro i hi hx
          simp only
          by_cases e : i = k
          · subst e
            constructor
            · split <;> omega
            · split <;> omega
          · have := hI i (by omega) hx
            constructor
            · split <;> omega
            · split <;> omega
        · intro q
          exact absurd ⟨k, by omega, hb⟩ q
        · rintro _
          simp only
          constructor
          · by_cases h : k / 8 < r
            · rw [if_pos h]
              exact ⟨k, by omega, rfl, hb⟩
            · rw [if_neg h]
              by_cases hx : ∃ i, i < k ∧ lb x i = true
              · obtain ⟨⟨i1, p1, p2⟩, _⟩ := hE hx
                exact ⟨i1, by omega, p2⟩
              · have := hZ hx
                omega
          · by_cases h : k % 8 < c
            · rw [if_pos h]
              exact ⟨k, by omega, rfl, hb⟩
            · rw [if_neg h]
              by_cases hx : ∃ i, i < k ∧ lb x i = true
              · obtain ⟨_, ⟨i1, p1, p2⟩⟩ := hE hx
                exact ⟨i1, by omega, p2⟩
              · have := hZ hx
                omega
    · rintro n ⟨c, r⟩ ⟨hc, hr, hI, hZ, hE⟩
      simp only at hc hr hI hZ hE
      show Gv _ (bb_X10_shapeOf_9 _ _ _ _ _)
      unfold bb_X10_shapeOf_9
      rw [if_pos (show (64 : Int32) ≤ nI 64 from nI_le (Nat.le_refl _) (by decide))]
      refine shp2 x r c hr hc ?_ ?_ ?_
      · intro i hi h
        cases hb : lb x i with
        | false => rfl
        | true =>
          have := hI i hi hb
          omega
      · intro i hi h
        cases hb : lb x i with
        | false => rfl
        | true =>
          have := hI i hi hb
          omega
      · intro hx
        exact hE (lb_nz.mp hx)
    · refine ⟨Nat.le_refl _, Nat.le_refl _, fun i hi => by omega, fun _ => ⟨rfl, rfl⟩, ?_⟩
      rintro ⟨i, hi, _⟩
      omega
  obtain ⟨y, e, h⟩ := main
  rw [e, h.uniq (Cor_is x)]
