-- ===== how broad a letter is =====
def IsBrd (x : Int64) (v : Int32) : Prop := (x = 0 → v = 0) ∧ (x ≠ 0 → ∃ f l, f < 8 ∧ l < 8 ∧ (∀ i, i < 64 → lb x i = true → f ≤ i % 8 ∧ i % 8 ≤ l) ∧ (∃ i, i < 64 ∧ lb x i = true ∧ i % 8 = f) ∧ (∃ i, i < 64 ∧ lb x i = true ∧ i % 8 = l) ∧ v = nI (l - f + 1))
theorem IsBrd.uniq {x : Int64} {v w : Int32} (h1 : IsBrd x v) (h2 : IsBrd x w) : v = w := by
  by_cases e : x = 0
  · rw [h1.1 e, h2.1 e]
  · obtain ⟨f, l, _, _, a1, ⟨i1, a2, a3, a4⟩, ⟨i2, a5, a6, a7⟩, rfl⟩ := h1.2 e
    obtain ⟨f', l', _, _, b1, ⟨j1, b2, b3, b4⟩, ⟨j2, b5, b6, b7⟩, rfl⟩ := h2.2 e
    have q1 := b1 i1 a2 a3
    have q2 := b1 i2 a5 a6
    have q3 := a1 j1 b2 b3
    have q4 := a1 j2 b5 b6
    congr 1
    omega
theorem col_bit (x : Int64) {k : Nat} (hk : k < 8) : (x &&& (shL 72340172838076673 (nI k))) = 0 ↔ ∀ i, i < 64 → i % 8 = k → lb x i = false := by
  rw [lb_zero]
  have e : ∀ i, i < 64 → lb (shL 72340172838076673 (nI k)) i = decide (i % 8 = k) := by
    intro i hi
    rw [lb_shl (by omega) _ hi]
    by_cases h : k ≤ i
    · rw [lb_01 _ (by omega)]
      simp only [h, decide_true, Bool.true_and]
      congr 1
      apply propext
      omega
    · have : ¬ i % 8 = k := by omega
      simp [h, this]
  constructor
  · intro h i hi h8
    have := h i hi
    rw [lb_and, e i hi] at this
    simpa [h8] using this
  · intro h i hi
    rw [lb_and, e i hi]
    by_cases q : i % 8 = k
    · rw [h i hi q]
      rfl
    · simp [q]
theorem broad_c (x : Int64) : Gv (IsBrd x) (f_X4_broad x) := by
  show Gv (IsBrd x) (b_X4_broad_8 FU x (nI 8) (-1) (nI 0))
  -- before anything is found, and behind it
  refine for_q (fun n k (a : Int32 × Int32) => b_X4_broad_8 n x a.1 a.2 (nI k)) 8 (fun k a => (a = (nI 8, -1) ∧ ∀ i, i < 64 → i % 8 < k → lb x i = false) ∨ ∃ f l, f < k ∧ l < k ∧ a = (nI f, nI l) ∧ (∀ i, i < 64 → i % 8 < k → lb x i = true → f ≤ i % 8 ∧ i % 8 ≤ l) ∧ (∃ i, i < 64 ∧ lb x i = true ∧ i % 8 = f) ∧ (∃ i, i < 64 ∧ lb x i = true ∧ i % 8 = l)) _ ?_ ?_ 8 0 (nI 8, -1) FU rfl (by decide) ?_
  · rintro n k ⟨f, l⟩ hk hI
    right
    show ∃ a' : Int32 × Int32, bb_X4_broad_8 _ _ _ _ _ = _ ∧ _
    unfold bb_X4_broad_8
    rw [if_neg (show ¬ (8 : Int32) ≤ nI k from nI_ge hk (by decide))]
    by_cases h : (x &&& (shL 72340172838076673 (nI k))) = 0
    · have hz := (col_bit x hk).mp h
      refine ⟨(f, l), by rw [if_pos h, ltv_eq, nI_1], ?_⟩
      rcases hI with ⟨e, hI⟩ | ⟨f', l', h1, h2, e, hI, h3⟩
      · refine Or.inl ⟨e, ?_⟩
        intro i hi hm
        by_cases q : i % 8 = k
        · exact hz i hi q
        · exact hI i hi (by omega)
      · refine Or.inr ⟨f', l', by omega, by omega, e, ?_, h3⟩
        intro i hi hm hb
        by_cases q : i % 8 = k
        · rw [hz i hi q] at hb
          cases hb
        · exact hI i hi (by omega) hb
    · have hw : ∃ i, i < 64 ∧ lb x i = true ∧ i % 8 = k := by
        apply Classical.byContradiction
        intro hc
        apply h
        rw [col_bit x hk]
        intro i hi q
        cases hb : lb x i with
        | false => rfl
        | true => exact absurd ⟨i, hi, hb, q⟩ hc
      rcases hI with ⟨e, hI⟩ | ⟨f', l', h1, h2, e, hI, h3⟩
      · obtain ⟨rfl, rfl⟩ := Prod.mk.inj e
        refine ⟨(nI k, nI k), ?_, Or.inr ⟨k, k, by omega, by omega, rfl, ?_, hw, hw⟩⟩
        · rw [if_neg h, if_pos (nI_lt hk (by decide)), ltv_eq, ltv_eq, nI_1]
        · intro i hi hm hb
          by_cases q : i % 8 = k
          · omega
          · rw [hI i hi (by omega)] at hb
            cases hb
      · obtain ⟨rfl, rfl⟩ := Prod.mk.inj e
        refine ⟨(nI f', nI k), ?_, Or.inr ⟨f', k, by omega, by omega, rfl, ?_, h3.1, hw⟩⟩
        · rw [if_neg h, if_neg (nI_nlt (by omega) (by omega)), ltv_eq, ltv_eq, nI_1]
        · intro i hi hm hb
          by_cases q : i % 8 = k
          · omega
          · have := hI i hi (by omega) hb
            omega
  · rintro n ⟨f, l⟩ hI
    show Gv _ (bb_X4_broad_8 _ _ _ _ _)
    unfold bb_X4_broad_8
    rw [if_pos (show (8 : Int32) ≤ nI 8 from nI_le (Nat.le_refl _) (by decide))]
    rcases hI with ⟨e, hI⟩ | ⟨f', l', h1, h2, e, hI, h3⟩
    · obtain ⟨rfl, rfl⟩ := Prod.mk.inj e
      rw [if_neg (by decide)]
      refine Gv.ret ⟨fun _ => rfl, ?_⟩
      intro hx
      obtain ⟨i, hi, hb⟩ := lb_nz.mp hx
      rw [hI i hi (by omega)] at hb
      cases hb
    · obtain ⟨rfl, rfl⟩ := Prod.mk.inj e
      rw [if_pos (nI_pos' (by omega))]
      refine Gv.ret ⟨?_, ?_⟩
      · intro hx
        subst hx
        obtain ⟨i, hi, hb, _⟩ := h3.1
        rw [lb_0] at hb
        cases hb
      · intro hx
        refine ⟨f', l', h1, h2, fun i hi hb => hI i hi (by omega) hb, h3.1, h3.2, ?_⟩
        obtain ⟨i, hi, hb, e⟩ := h3.1
        have := hI i hi (by omega) hb
        rw [nI_sub (by omega), nI_1]
  · exact Or.inl ⟨rfl, fun i hi h => by omega⟩
def Brd (x : Int64) : Int32 := (f_X4_broad x).getD 0
theorem f_broad (x : Int64) : f_X4_broad x = some (Brd x) := by
  obtain ⟨y, e, _⟩ := broad_c x
  unfold Brd
  rw [e]
  rfl
theorem Brd_is (x : Int64) : IsBrd x (Brd x) := by
  obtain ⟨y, e, h⟩ := broad_c x
  unfold Brd
  rw [e]
  exact h
theorem g_broad {k : Nat} (hk : k < 10) (M : Mm) : f_X10_broad_67 (nI k) M = some (Brd (M.2 72 k)) := by
  have main : Gv (IsBrd (M.2 72 k)) (f_X10_broad_67 (nI k) M) := by
    show Gv _ (b_X10_broad_67_8 FU (nI k) (nI 8) (-1) (nI 0) M)
    generalize hx : M.2 72 k = x
    refine for_q (fun n s (a : Int32 × Int32) => b_X10_broad_67_8 n (nI k) a.1 a.2 (nI s) M) 64 (fun s a => (a = (nI 8, -1) ∧ ∀ i, i < s → lb x i = false) ∨ ∃ f l, f < 8 ∧ l < 8 ∧ a = (nI f, nI l) ∧ (∀ i, i < s → lb x i = true → f ≤ i % 8 ∧ i % 8 ≤ l) ∧ (∃ i, i < s ∧ lb x i = true ∧ i % 8 = f) ∧ (∃ i, i < s ∧ lb x i = true ∧ i % 8 = l)) _ ?_ ?_ 64 0 (nI 8, -1) FU rfl (by decide) ?_
    · rintro n s ⟨f, l⟩ hs hI
      right
      show ∃ a' : Int32 × Int32, bb_X10_broad_67_8 _ _ _ _ _ _ = _ ∧ _
      unfold bb_X10_broad_67_8
      have r8 : rmI (nI s) 8 = nI (s % 8) := rmI_nI (by omega) (by decide) (by decide)
      rw [if_neg (show ¬ (64 : Int32) ≤ nI s from nI_ge hs (by decide)), gd_of (inb_nI hk (by decide)), ix_nI (by omega), hx]
      cases hb : lb x s with
      | false =>
        refine ⟨(f, l), by rw [is_f hs hb, bd_some, if_pos rfl, ltv_eq, nI_1], ?_⟩
        rcases hI with ⟨e, hI⟩ | ⟨f', l', h1, h2, e, hI, ⟨i1, h3⟩, ⟨i2, h4⟩⟩
        · refine Or.inl ⟨e, ?_⟩
          intro i hi
          by_cases q : i = s
          · rw [q, hb]
          · exact hI i (by omega)
        · refine Or.inr ⟨f', l', h1, h2, e, ?_, ⟨i1, by omega, h3.2⟩, ⟨i2, by omega, h4.2⟩⟩
          intro i hi q
          by_cases q2 : i = s
          · rw [q2, hb] at q
            cases q
          · exact hI i (by omega) q
      | true =>
        have s50 : ∀ c : Int32, bb_X10_broad_67_50 (fun a b c d e => b_X10_broad_67_8 n a b c d e) (nI k) l (nI s) c M = b_X10_broad_67_8 n (nI k) c (if nI (s % 8) ≤ l then l else nI (s % 8)) (nI (s + 1)) M := by
          intro c
          unfold bb_X10_broad_67_50
          rw [r8]
          by_cases h : nI (s % 8) ≤ l
          · rw [if_pos h, if_pos h, ltv_eq, nI_1]
          · rw [if_neg h, if_neg h, ltv_eq, ltv_eq, nI_1]
        rw [is_t hs hb, bd_some, if_neg (by decide), r8]
        refine ⟨(if f ≤ nI (s % 8) then f else nI (s % 8), if nI (s % 8) ≤ l then l else nI (s % 8)), ?_, Or.inr ?_⟩
        · by_cases h : f ≤ nI (s % 8)
          · rw [if_pos h, if_pos h]
            exact s50 f
          · rw [if_neg h, if_neg h]
            exact s50 _
        · rcases hI with ⟨e, hI⟩ | ⟨f', l', h1, h2, e, hI, ⟨i1, h3⟩, ⟨i2, h4⟩⟩
          · obtain ⟨rfl, rfl⟩ := Prod.mk.inj e
            refine ⟨s % 8, s % 8, by omega, by omega, ?_, ?_, ⟨s, by omega, hb, rfl⟩, ⟨s, by omega, hb, rfl⟩⟩
            · rw [if_neg (nI_ge (by omega) (by decide)), if_neg (by
                intro q
                have q2 := nI_pos' (n := s % 8) (by omega)
                rw [Int32.le_iff_toInt_le] at q q2
                have e1 : (-1 : Int32).toInt = -1 := rfl
                have e2 : (0 : Int32).toInt = 0 := rfl
                omega)]
            · intro i hi q
              by_cases q2 : i = s
              · subst q2
                omega
              · rw [hI i (by omega)] at q
                cases q
          · obtain ⟨rfl, rfl⟩ := Prod.mk.inj e
            have m1 : (if nI f' ≤ nI (s % 8) then nI f' else nI (s % 8)) = nI (if f' ≤ s % 8 then f' else s % 8) := by
              by_cases h : f' ≤ s % 8
              · rw [if_pos (nI_le h (by omega)), if_pos h]
              · rw [if_neg (nI_ge (by omega) (by omega)), if_neg h]
            have m2 : (if nI (s % 8) ≤ nI l' then nI l' else nI (s % 8)) = nI (if s % 8 ≤ l' then l' else s % 8) := by
              by_cases h : s % 8 ≤ l'
              · rw [if_pos (nI_le h (by omega)), if_pos h]
              · rw [if_neg (nI_ge (by omega) (by omega)), if_neg h]
            rw [m1, m2]
            refine ⟨_, _, ?_, ?_, rfl, ?_, ?_, ?_⟩
            · split <;> omega
            · split <;> omega
            · intro i hi q
              by_cases q2 : i = s
              · subst q2
                constructor
                · split <;> omega
                · split <;> omega
              · have := hI i (by omega) q
                constructor
                · split <;> omega
                · split <;> omega
            · by_cases h : f' ≤ s % 8
              · rw [if_pos h]
                exact ⟨i1, by omega, h3.2⟩
              · rw [if_neg h]
                exact ⟨s, by omega, hb, rfl⟩
            · by_cases h : s % 8 ≤ l'
              · rw [if_pos h]
                exact ⟨i2, by omega, h4.2⟩
              · rw [if_neg h]
                exact ⟨s, by omega, hb, rfl⟩
    · rintro n ⟨f, l⟩ hI
      show Gv _ (bb_X10_broad_67_8 _ _ _ _ _ _)
      unfold bb_X10_broad_67_8
      rw [if_pos (show (64 : Int32) ≤ nI 64 from nI_le (Nat.le_refl _) (by decide))]
      rcases hI with ⟨e, hI⟩ | ⟨f', l', h1, h2, e, hI, h3, h4⟩
      · obtain ⟨rfl, rfl⟩ := Prod.mk.inj e
        rw [if_pos rfl]
        refine Gv.ret ⟨fun _ => rfl, ?_⟩
        intro hx
        obtain ⟨i, hi, hb⟩ := lb_nz.mp hx
        rw [hI i hi] at hb
        cases hb
      · obtain ⟨rfl, rfl⟩ := Prod.mk.inj e
        rw [if_neg (by
          intro q
          have q2 := nI_pos' (n := l') (by omega)
          have q' : nI l' = -1 := q
          rw [q'] at q2
          exact absurd q2 (by decide))]
        refine Gv.ret ⟨?_, ?_⟩
        · intro hx
          subst hx
          obtain ⟨i, hi, hb, _⟩ := h3
          rw [lb_0] at hb
          cases hb
        · intro hx
          refine ⟨f', l', h1, h2, hI, h3, h4, ?_⟩
          obtain ⟨i, hi, hb, e⟩ := h3
          have := hI i hi hb
          rw [nI_sub (by omega), nI_1]
    · exact Or.inl ⟨rfl, fun i hi => by omega⟩
  obtain ⟨y, e, h⟩ := main
  rw [e, h.uniq (Brd_is _)]
