theorem fill4 (v : Int64) (M : Mm) : ∃ M', f_J7_fill_d0a16_4 v M = some M' ∧ Fr [(4, 999)] M M' ∧ ∀ c, c < 10 → M'.2 4 c = v := by
  refine for_q (fun q i (a : Mm) => b_J7_fill_d0a16_4_6 q v (nI i) 10 a) 10 (fun i a => Fr [(4, 999)] M a ∧ ∀ c, c < i → a.2 4 c = v) (fun o => ∃ M', o = some M' ∧ Fr [(4, 999)] M M' ∧ ∀ c, c < 10 → M'.2 4 c = v) ?_ ?_ 10 0 M FU rfl (by decide) ⟨Fr.refl, fun c hc => absurd hc (Nat.not_lt_zero _)⟩
  · rintro q i a hi ⟨f1, h1⟩
    right
    refine ⟨wJ a 4 i v, ?_, Fr.tr f1 (Fr.wJa rfl), fun c hc => ?_⟩
    · show bb_J7_fill_d0a16_4_6 _ _ _ _ _ = _
      unfold bb_J7_fill_d0a16_4_6
      rw [if_neg (show ¬ (10 : Int32) ≤ nI i from nI_ge (b := 10) hi (by decide)), gd_of (inb_nI hi (by decide)), ltv_eq, ltv_eq, nI_1, ix_nI (by omega)]
    · by_cases e : c = i
      · subst e
        exact wJ_at
      · rw [wJ_i e]
        exact h1 c (by omega)
  · rintro q a ⟨f1, h1⟩
    show ∃ M', bb_J7_fill_d0a16_4_6 _ _ _ _ _ = _ ∧ _
    unfold bb_J7_fill_d0a16_4_6
    rw [if_pos (by decide)]
    exact ⟨a, rfl, f1, h1⟩
theorem fill5 (v : Int64) (M : Mm) : ∃ M', f_J7_fill_d0a16_5 v M = some M' ∧ Fr [(5, 999)] M M' ∧ ∀ c, c < 10 → M'.2 5 c = v := by
  refine for_q (fun q i (a : Mm) => b_J7_fill_d0a16_5_6 q v (nI i) 10 a) 10 (fun i a => Fr [(5, 999)] M a ∧ ∀ c, c < i → a.2 5 c = v) (fun o => ∃ M', o = some M' ∧ Fr [(5, 999)] M M' ∧ ∀ c, c < 10 → M'.2 5 c = v) ?_ ?_ 10 0 M FU rfl (by decide) ⟨Fr.refl, fun c hc => absurd hc (Nat.not_lt_zero _)⟩
  · rintro q i a hi ⟨f1, h1⟩
    right
    refine ⟨wJ a 5 i v, ?_, Fr.tr f1 (Fr.wJa rfl), fun c hc => ?_⟩
    · show bb_J7_fill_d0a16_5_6 _ _ _ _ _ = _
      unfold bb_J7_fill_d0a16_5_6
      rw [if_neg (show ¬ (10 : Int32) ≤ nI i from nI_ge (b := 10) hi (by decide)), gd_of (inb_nI hi (by decide)), ltv_eq, ltv_eq, nI_1, ix_nI (by omega)]
    · by_cases e : c = i
      · subst e
        exact wJ_at
      · rw [wJ_i e]
        exact h1 c (by omega)
  · rintro q a ⟨f1, h1⟩
    show ∃ M', bb_J7_fill_d0a16_5_6 _ _ _ _ _ = _ ∧ _
    unfold bb_J7_fill_d0a16_5_6
    rw [if_pos (by decide)]
    exact ⟨a, rfl, f1, h1⟩
theorem fill12 (v : Int64) (M : Mm) : ∃ M', f_J7_fill_d0a16_12 v M = some M' ∧ Fr [(12, 999)] M M' ∧ ∀ c, c < 10 → M'.2 12 c = v := by
  refine for_q (fun q i (a : Mm) => b_J7_fill_d0a16_12_6 q v (nI i) 10 a) 10 (fun i a => Fr [(12, 999)] M a ∧ ∀ c, c < i → a.2 12 c = v) (fun o => ∃ M', o = some M' ∧ Fr [(12, 999)] M M' ∧ ∀ c, c < 10 → M'.2 12 c = v) ?_ ?_ 10 0 M FU rfl (by decide) ⟨Fr.refl, fun c hc => absurd hc (Nat.not_lt_zero _)⟩
  · rintro q i a hi ⟨f1, h1⟩
    right
    refine ⟨wJ a 12 i v, ?_, Fr.tr f1 (Fr.wJa rfl), fun c hc => ?_⟩
    · show bb_J7_fill_d0a16_12_6 _ _ _ _ _ = _
      unfold bb_J7_fill_d0a16_12_6
      rw [if_neg (show ¬ (10 : Int32) ≤ nI i from nI_ge (b := 10) hi (by decide)), gd_of (inb_nI hi (by decide)), ltv_eq, ltv_eq, nI_1, ix_nI (by omega)]
    · by_cases e : c = i
      · subst e
        exact wJ_at
      · rw [wJ_i e]
        exact h1 c (by omega)
  · rintro q a ⟨f1, h1⟩
    show ∃ M', bb_J7_fill_d0a16_12_6 _ _ _ _ _ = _ ∧ _
    unfold bb_J7_fill_d0a16_12_6
    rw [if_pos (by decide)]
    exact ⟨a, rfl, f1, h1⟩
theorem fill13 (v : Int64) (M : Mm) : ∃ M', f_J7_fill_d0a16_13 v M = some M' ∧ Fr [(13, 999)] M M' ∧ ∀ c, c < 10 → M'.2 13 c = v := by
  refine for_q (fun q i (a : Mm) => b_J7_fill_d0a16_13_6 q v (nI i) 10 a) 10 (fun i a => Fr [(13, 999)] M a ∧ ∀ c, c < i → a.2 13 c = v) (fun o => ∃ M', o = some M' ∧ Fr [(13, 999)] M M' ∧ ∀ c, c < 10 → M'.2 13 c = v) ?_ ?_ 10 0 M FU rfl (by decide) ⟨Fr.refl, fun c hc => absurd hc (Nat.not_lt_zero _)⟩
  · rintro q i a hi ⟨f1, h1⟩
    right
    refine ⟨wJ a 13 i v, ?_, Fr.tr f1 (Fr.wJa rfl), fun c hc => ?_⟩
    · show bb_J7_fill_d0a16_13_6 _ _ _ _ _ = _
      unfold bb_J7_fill_d0a16_13_6
      rw [if_neg (show ¬ (10 : Int32) ≤ nI i from nI_ge (b := 10) hi (by decide)), gd_of (inb_nI hi (by decide)), ltv_eq, ltv_eq, nI_1, ix_nI (by omega)]
    · by_cases e : c = i
      · subst e
        exact wJ_at
      · rw [wJ_i e]
        exact h1 c (by omega)
  · rintro q a ⟨f1, h1⟩
    show ∃ M', bb_J7_fill_d0a16_13_6 _ _ _ _ _ = _ ∧ _
    unfold bb_J7_fill_d0a16_13_6
    rw [if_pos (by decide)]
    exact ⟨a, rfl, f1, h1⟩
theorem fill7 (v : Int32) (M : Mm) : ∃ M', f_J7_fill_53178_7 v M = some M' ∧ Fr [(7, 999)] M M' ∧ ∀ c, c < 6 → M'.1 7 c = v := by
  refine for_q (fun q i (a : Mm) => b_J7_fill_53178_7_5 q v (nI i) 6 a) 6 (fun i a => Fr [(7, 999)] M a ∧ ∀ c, c < i → a.1 7 c = v) (fun o => ∃ M', o = some M' ∧ Fr [(7, 999)] M M' ∧ ∀ c, c < 6 → M'.1 7 c = v) ?_ ?_ 6 0 M FU rfl (by decide) ⟨Fr.refl, fun c hc => absurd hc (Nat.not_lt_zero _)⟩
  · rintro q i a hi ⟨f1, h1⟩
    right
    refine ⟨wI a 7 i v, ?_, Fr.tr f1 (Fr.wIa rfl), fun c hc => ?_⟩
    · show bb_J7_fill_53178_7_5 _ _ _ _ _ = _
      unfold bb_J7_fill_53178_7_5
      rw [if_neg (show ¬ (6 : Int32) ≤ nI i from nI_ge (b := 6) hi (by decide)), gd_of (inb_nI hi (by decide)), ltv_eq, ltv_eq, nI_1, ix_nI (by omega)]
    · by_cases e : c = i
      · subst e
        exact wI_at
      · rw [wI_i e]
        exact h1 c (by omega)
  · rintro q a ⟨f1, h1⟩
    show ∃ M', bb_J7_fill_53178_7_5 _ _ _ _ _ = _ ∧ _
    unfold bb_J7_fill_53178_7_5
    rw [if_pos (by decide)]
    exact ⟨a, rfl, f1, h1⟩
theorem fill8 (v : Int32) (M : Mm) : ∃ M', f_J7_fill_53178_8 v M = some M' ∧ Fr [(8, 999)] M M' ∧ ∀ c, c < 10 → M'.1 8 c = v := by
  refine for_q (fun q i (a : Mm) => b_J7_fill_53178_8_5 q v (nI i) 10 a) 10 (fun i a => Fr [(8, 999)] M a ∧ ∀ c, c < i → a.1 8 c = v) (fun o => ∃ M', o = some M' ∧ Fr [(8, 999)] M M' ∧ ∀ c, c < 10 → M'.1 8 c = v) ?_ ?_ 10 0 M FU rfl (by decide) ⟨Fr.refl, fun c hc => absurd hc (Nat.not_lt_zero _)⟩
  · rintro q i a hi ⟨f1, h1⟩
    right
    refine ⟨wI a 8 i v, ?_, Fr.tr f1 (Fr.wIa rfl), fun c hc => ?_⟩
    · show bb_J7_fill_53178_8_5 _ _ _ _ _ = _
      unfold bb_J7_fill_53178_8_5
      rw [if_neg (show ¬ (10 : Int32) ≤ nI i from nI_ge (b := 10) hi (by decide)), gd_of (inb_nI hi (by decide)), ltv_eq, ltv_eq, nI_1, ix_nI (by omega)]
    · by_cases e : c = i
      · subst e
        exact wI_at
      · rw [wI_i e]
        exact h1 c (by omega)
  · rintro q a ⟨f1, h1⟩
    show ∃ M', bb_J7_fill_53178_8_5 _ _ _ _ _ = _ ∧ _
    unfold bb_J7_fill_53178_8_5
    rw [if_pos (by decide)]
    exact ⟨a, rfl, f1, h1⟩
theorem fill15 (v : Int32) (M : Mm) : ∃ M', f_J7_fill_53178_15 v M = some M' ∧ Fr [(15, 999)] M M' ∧ ∀ c, c < 6 → M'.1 15 c = v := by
  refine for_q (fun q i (a : Mm) => b_J7_fill_53178_15_5 q v (nI i) 6 a) 6 (fun i a => Fr [(15, 999)] M a ∧ ∀ c, c < i → a.1 15 c = v) (fun o => ∃ M', o = some M' ∧ Fr [(15, 999)] M M' ∧ ∀ c, c < 6 → M'.1 15 c = v) ?_ ?_ 6 0 M FU rfl (by decide) ⟨Fr.refl, fun c hc => absurd hc (Nat.not_lt_zero _)⟩
  · rintro q i a hi ⟨f1, h1⟩
    right
    refine ⟨wI a 15 i v, ?_, Fr.tr f1 (Fr.wIa rfl), fun c hc => ?_⟩
    · show bb_J7_fill_53178_15_5 _ _ _ _ _ = _
      unfold bb_J7_fill_53178_15_5
      rw [if_neg (show ¬ (6 : Int32) ≤ nI i from nI_ge (b := 6) hi (by decide)), gd_of (inb_nI hi (by decide)), ltv_eq, ltv_eq, nI_1, ix_nI (by omega)]
    · by_cases e : c = i
      · subst e
        exact wI_at
      · rw [wI_i e]
        exact h1 c (by omega)
  · rintro q a ⟨f1, h1⟩
    show ∃ M', bb_J7_fill_53178_15_5 _ _ _ _ _ = _ ∧ _
    unfold bb_J7_fill_53178_15_5
    rw [if_pos (by decide)]
    exact ⟨a, rfl, f1, h1⟩
theorem fill16 (v : Int32) (M : Mm) : ∃ M', f_J7_fill_53178_16 v M = some M' ∧ Fr [(16, 999)] M M' ∧ ∀ c, c < 10 → M'.1 16 c = v := by
  refine for_q (fun q i (a : Mm) => b_J7_fill_53178_16_5 q v (nI i) 10 a) 10 (fun i a => Fr [(16, 999)] M a ∧ ∀ c, c < i → a.1 16 c = v) (fun o => ∃ M', o = some M' ∧ Fr [(16, 999)] M M' ∧ ∀ c, c < 10 → M'.1 16 c = v) ?_ ?_ 10 0 M FU rfl (by decide) ⟨Fr.refl, fun c hc => absurd hc (Nat.not_lt_zero _)⟩
  · rintro q i a hi ⟨f1, h1⟩
    right
    refine ⟨wI a 16 i v, ?_, Fr.tr f1 (Fr.wIa rfl), fun c hc => ?_⟩
    · show bb_J7_fill_53178_16_5 _ _ _ _ _ = _
      unfold bb_J7_fill_53178_16_5
      rw [if_neg (show ¬ (10 : Int32) ≤ nI i from nI_ge (b := 10) hi (by decide)), gd_of (inb_nI hi (by decide)), ltv_eq, ltv_eq, nI_1, ix_nI (by omega)]
    · by_cases e : c = i
      · subst e
        exact wI_at
      · rw [wI_i e]
        exact h1 c (by omega)
  · rintro q a ⟨f1, h1⟩
    show ∃ M', bb_J7_fill_53178_16_5 _ _ _ _ _ = _ ∧ _
    unfold bb_J7_fill_53178_16_5
    rw [if_pos (by decide)]
    exact ⟨a, rfl, f1, h1⟩
theorem fill29 (v : Int32) (M : Mm) : ∃ M', f_J7_fill_53178_29 v M = some M' ∧ Fr [(29, 999)] M M' ∧ ∀ c, c < 130 → M'.1 29 c = v := by
  refine for_q (fun q i (a : Mm) => b_J7_fill_53178_29_5 q v (nI i) 130 a) 130 (fun i a => Fr [(29, 999)] M a ∧ ∀ c, c < i → a.1 29 c = v) (fun o => ∃ M', o = some M' ∧ Fr [(29, 999)] M M' ∧ ∀ c, c < 130 → M'.1 29 c = v) ?_ ?_ 130 0 M FU rfl (by decide) ⟨Fr.refl, fun c hc => absurd hc (Nat.not_lt_zero _)⟩
  · rintro q i a hi ⟨f1, h1⟩
    right
    refine ⟨wI a 29 i v, ?_, Fr.tr f1 (Fr.wIa rfl), fun c hc => ?_⟩
    · show bb_J7_fill_53178_29_5 _ _ _ _ _ = _
      unfold bb_J7_fill_53178_29_5
      rw [if_neg (show ¬ (130 : Int32) ≤ nI i from nI_ge (b := 130) hi (by decide)), gd_of (inb_nI hi (by decide)), ltv_eq, ltv_eq, nI_1, ix_nI (by omega)]
    · by_cases e : c = i
      · subst e
        exact wI_at
      · rw [wI_i e]
        exact h1 c (by omega)
  · rintro q a ⟨f1, h1⟩
    show ∃ M', bb_J7_fill_53178_29_5 _ _ _ _ _ = _ ∧ _
    unfold bb_J7_fill_53178_29_5
    rw [if_pos (by decide)]
    exact ⟨a, rfl, f1, h1⟩
theorem fill38 (v : Int32) (M : Mm) : ∃ M', f_J7_fill_53178_38 v M = some M' ∧ Fr [(38, 999)] M M' ∧ ∀ c, c < 17 → M'.1 38 c = v := by
  refine for_q (fun q i (a : Mm) => b_J7_fill_53178_38_5 q v (nI i) 17 a) 17 (fun i a => Fr [(38, 999)] M a ∧ ∀ c, c < i → a.1 38 c = v) (fun o => ∃ M', o = some M' ∧ Fr [(38, 999)] M M' ∧ ∀ c, c < 17 → M'.1 38 c = v) ?_ ?_ 17 0 M FU rfl (by decide) ⟨Fr.refl, fun c hc => absurd hc (Nat.not_lt_zero _)⟩
  · rintro q i a hi ⟨f1, h1⟩
    right
    refine ⟨wI a 38 i v, ?_, Fr.tr f1 (Fr.wIa rfl), fun c hc => ?_⟩
    · show bb_J7_fill_53178_38_5 _ _ _ _ _ = _
      unfold bb_J7_fill_53178_38_5
      rw [if_neg (show ¬ (17 : Int32) ≤ nI i from nI_ge (b := 17) hi (by decide)), gd_of (inb_nI hi (by decide)), ltv_eq, ltv_eq, nI_1, ix_nI (by omega)]
    · by_cases e : c = i
      · subst e
        exact wI_at
      · rw [wI_i e]
        exact h1 c (by omega)
  · rintro q a ⟨f1, h1⟩
    show ∃ M', bb_J7_fill_53178_38_5 _ _ _ _ _ = _ ∧ _
    unfold bb_J7_fill_53178_38_5
    rw [if_pos (by decide)]
    exact ⟨a, rfl, f1, h1⟩
theorem fill43 (v : Int32) (M : Mm) : ∃ M', f_J7_fill_53178_43 v M = some M' ∧ Fr [(43, 999)] M M' ∧ ∀ c, c < 60 → M'.1 43 c = v := by
  refine for_q (fun q i (a : Mm) => b_J7_fill_53178_43_5 q v (nI i) 60 a) 60 (fun i a => Fr [(43, 999)] M a ∧ ∀ c, c < i → a.1 43 c = v) (fun o => ∃ M', o = some M' ∧ Fr [(43, 999)] M M' ∧ ∀ c, c < 60 → M'.1 43 c = v) ?_ ?_ 60 0 M FU rfl (by decide) ⟨Fr.refl, fun c hc => absurd hc (Nat.not_lt_zero _)⟩
  · rintro q i a hi ⟨f1, h1⟩
    right
    refine ⟨wI a 43 i v, ?_, Fr.tr f1 (Fr.wIa rfl), fun c hc => ?_⟩
    · show bb_J7_fill_53178_43_5 _ _ _ _ _ = _
      unfold bb_J7_fill_53178_43_5
      rw [if_neg (show ¬ (60 : Int32) ≤ nI i from nI_ge (b := 60) hi (by decide)), gd_of (inb_nI hi (by decide)), ltv_eq, ltv_eq, nI_1, ix_nI (by omega)]
    · by_cases e : c = i
      · subst e
        exact wI_at
      · rw [wI_i e]
        exact h1 c (by omega)
  · rintro q a ⟨f1, h1⟩
    show ∃ M', bb_J7_fill_53178_43_5 _ _ _ _ _ = _ ∧ _
    unfold bb_J7_fill_53178_43_5
    rw [if_pos (by decide)]
    exact ⟨a, rfl, f1, h1⟩
-- ===== the class lays by =====
theorem layC_c {σ : Sg} {M : Mm} (g : Good σ) (hS : SC σ M) : ∃ M', f_X1_lay_24_11 M = some M' ∧ Fr [(24, 5), (25, 999), (29, 999)] M M' ∧ C2 σ M' ∧ C3 σ M' := by
  have s := hS.of
  have hH := g.2.2.2.2.1
  unfold f_X1_lay_24_11 bb_X1_lay_24_11_0
  rw [s.2.2.1, if_neg (show ¬ (16 : Int32) < nI (sH σ) from nI_nlt (a := 16) (by omega) (by omega)), ltv_eq]
  refine for_q (fun q k (x : Mm) => b_X1_lay_24_11_15 q (nI k) x) (sH σ) (fun k x => Fr [(25, 999)] (wI M 24 5 (nI (sH σ))) x ∧ ∀ h, h < k → ∀ j, j < 8 → x.2 25 (8 * h + j) = tur (sHol σ h) j) (fun o => ∃ M', o = some M' ∧ Fr [(24, 5), (25, 999), (29, 999)] M M' ∧ C2 σ M' ∧ C3 σ M') ?_ ?_ (sH σ) 0 (wI M 24 5 (nI (sH σ))) FU (Nat.zero_add _) (by show _ < 200000; omega) ⟨Fr.refl, fun h hh => absurd hh (by omega)⟩
  · rintro q k x hk ⟨f1, h1⟩
    right
    obtain ⟨M2, e2, f2, t2, o2⟩ := turnsInto_25 (M := x) (h := k) (sHol σ k) (by omega)
    refine ⟨M2, ?_, Fr.tr f1 f2, fun h hh j hj => ?_⟩
    · show bb_X1_lay_24_11_15 _ _ _ = _
      unfold bb_X1_lay_24_11_15
      rw [show x.1 24 5 = nI (sH σ) from (f1 24 5 rfl).1, if_neg (nI_ge hk (by omega)), gd_of (inb_nI (by omega) (by decide)), ix_nI (by omega), show x.2 17 k = sHol σ k from ((f1 17 k rfl).2).trans (s.2.2.2.2.2.2 k hk).1, e2, bd_some, ltv_eq, nI_1]
    · by_cases e : h = k
      · rw [e]
        exact t2 j hj
      · rw [o2 _ (by omega)]
        exact h1 h (by omega) j hj
  · rintro q x ⟨f1, h1⟩
    obtain ⟨M2, e2, f2, t2⟩ := fill29 (-2) x
    refine ⟨M2, ?_, Fr.tr (Fr.tr (Fr.wrI rfl) (Fr.sub f1 (by decide))) (Fr.sub f2 (by decide)), ?_, ?_⟩
    · show bb_X1_lay_24_11_15 _ _ _ = _
      unfold bb_X1_lay_24_11_15
      rw [show x.1 24 5 = nI (sH σ) from (f1 24 5 rfl).1, if_pos (nI_le (Nat.le_refl _) (by omega)), e2, bd_some]
    · show C20 σ M2
      exact ⟨((f2 24 5 rfl).1).trans (f1 24 5 rfl).1, fun h hh k hk => ((f2 25 _ rfl).2).trans (h1 h hh k hk)⟩
    · show C30 σ M2
      exact fun t ht => ⟨Or.inl (t2 _ (by omega)), Or.inl (t2 _ (by omega))⟩
theorem wlet_c {σ : Sg} {M : Mm} {w k : Nat} (g : Good σ) (hS : SC σ M) (hw : w < sW σ) (hk : k < sLen σ w) : f_X7_wordLetter_11 (nI w) (nI k) M = some (nI (sWl σ w k)) := by
  have s := hS.of
  have hW := g.2.1
  have h8 := (g.2.2.1 w hw).2.1
  unfold f_X7_wordLetter_11 bb_X7_wordLetter_11_0
  rw [if_neg (nI_pos (by omega)), s.2.1, if_neg (nI_ge hw (by omega)), if_neg (nI_pos (by omega)), if_pos (show nI k < (8 : Int32) from nI_lt (b := 8) (by omega) (by decide)), show (8 : Int32) * nI w + nI k = nI (8 * w + k) from by rw [show (8 : Int32) * nI w = nI (8 * w) from pk_mul 8 _, nI_add], gd_of (inb_nI (by omega) (by decide)), ix_nI (by omega), (s.2.2.2.2.1 w hw).2 k hk]
theorem lay100 {σ : Sg} {M x : Mm} {w : Nat} (g : Good σ) (hS : SC σ M) (hw : w < sW σ) (f0 : Fr [(43, 999)] M x) (h0 : ∀ l, l < 10 → x.1 43 (10 * w + l) = 0) (k90 : Int32 → Mm → Option Mm) : ∃ x', b_X6_lay_34_11_100 k90 FU (nI w) 0 x = k90 (nI (w + 1)) x' ∧ Fr [(43, 999)] M x' ∧ (∀ l, l < 10 → x'.1 43 (10 * w + l) = nI (cntW σ w l)) ∧ ∀ i, (i < 10 * w ∨ 10 * w + 10 ≤ i) → x'.1 43 i = x.1 43 i := by
  have hW := g.2.1
  have hL := g.1
  obtain ⟨_, h8, lw⟩ := g.2.2.1 w hw
  refine for_q (fun q k (y : Mm) => b_X6_lay_34_11_100 k90 q (nI w) (nI k) y) (sLen σ w) (fun k y => Fr [(43, 999)] M y ∧ (∀ l, l < 10 → y.1 43 (10 * w + l) = nI (bcn (fun j => decide (sWl σ w j = l)) k)) ∧ ∀ i, (i < 10 * w ∨ 10 * w + 10 ≤ i) → y.1 43 i = x.1 43 i) (fun o => ∃ x', o = k90 (nI (w + 1)) x' ∧ Fr [(43, 999)] M x' ∧ (∀ l, l < 10 → x'.1 43 (10 * w + l) = nI (cntW σ w l)) ∧ ∀ i, (i < 10 * w ∨ 10 * w + 10 ≤ i) → x'.1 43 i = x.1 43 i) ?_ ?_ (sLen σ w) 0 x FU (Nat.zero_add _) (by show _ < 200000; omega) ⟨f0, h0, fun _ _ => rfl⟩
  · rintro q k y hk ⟨f1, h1, o1⟩
    right
    have hl := lw k hk
    have e15 : y.1 15 w = nI (sLen σ w) := ((f1 15 w rfl).1).trans (hS.of.2.2.2.2.1 w hw).1
    have hSy : SC σ y := hS.fr f1 (by decide)
    refine ⟨wI y 43 (10 * w + sWl σ w k) (nI (bcn (fun j => decide (sWl σ w j = sWl σ w k)) k + 1)), ?_, Fr.tr f1 (Fr.wIa rfl), fun l hl' => ?_, fun i hi => ?_⟩
    · show bb_X6_lay_34_11_100 _ _ _ _ _ = _
      unfold bb_X6_lay_34_11_100
      rw [gd_of (inb_nI (by omega) (by decide)), ix_nI (show w < 2 ^ 31 by omega), e15, if_neg (nI_ge hk (by omega)), wlet_c g hSy hw hk, bd_some, show (10 : Int32) * nI w + nI (sWl σ w k) = nI (10 * w + sWl σ w k) from by rw [show (10 : Int32) * nI w = nI (10 * w) from pk_mul 10 _, nI_add], ltv_eq, gd_of (inb_nI (by omega) (by decide)), gd_of (inb_nI (by omega) (by decide)), ltv_eq, ltv_eq, nI_1, ix_nI (by omega), h1 _ (by omega), nI_1]
    · show _ = nI (bcn (fun j => decide (sWl σ w j = l)) k + (if decide (sWl σ w k = l) then 1 else 0))
      by_cases e : sWl σ w k = l
      · rw [e, wI_at, decide_eq_true rfl]
        rfl
      · rw [wI_i (by omega), h1 l hl', decide_eq_false e]
        rfl
    · rw [wI_i (by omega)]
      exact o1 i hi
  · rintro q y ⟨f1, h1, o1⟩
    have e15 : y.1 15 w = nI (sLen σ w) := ((f1 15 w rfl).1).trans (hS.of.2.2.2.2.1 w hw).1
    refine ⟨y, ?_, f1, h1, o1⟩
    show bb_X6_lay_34_11_100 _ _ _ _ _ = _
    unfold bb_X6_lay_34_11_100
    rw [gd_of (inb_nI (by omega) (by decide)), ix_nI (show w < 2 ^ 31 by omega), e15, if_pos (nI_le (Nat.le_refl _) (by omega)), ltv_eq, nI_1]
def LL4 : List (Nat × Nat) := [(34, 0), (34, 1), (35, 999), (36, 999), (37, 999), (38, 999), (43, 999)]
theorem layT_c {σ : Sg} {M : Mm} (g : Good σ) (hS : SC σ M) : ∃ M', f_X6_lay_34_11 M = some M' ∧ Fr LL4 M M' ∧ C4 σ M' ∧ C5 σ M' := by
  have s := hS.of
  have hL := g.1
  have hW := g.2.1
  unfold f_X6_lay_34_11 bb_X6_lay_34_11_0
  rw [s.1, ltv_eq, show (wI M 34 0 (nI (sL σ))).1 11 8 = nI (sW σ) from s.2.1, ltv_eq]
  have f0 : Fr LL4 M (wI (wI M 34 0 (nI (sL σ))) 34 1 (nI (sW σ))) := Fr.tr (Fr.wrI rfl) (Fr.wrI rfl)
  have a0 : (wI (wI M 34 0 (nI (sL σ))) 34 1 (nI (sW σ))).1 34 0 = nI (sL σ) := rfl
  have a1 : (wI (wI M 34 0 (nI (sL σ))) 34 1 (nI (sW σ))).1 34 1 = nI (sW σ) := rfl
  generalize wI (wI M 34 0 (nI (sL σ))) 34 1 (nI (sW σ)) = M0 at *
  have S0 : SC σ M0 := hS.fr f0 (by decide)
  refine for_q (fun q k (x : Mm) => b_X6_lay_34_11_18 q (nI k) x) (sL σ) (fun k x => Fr [(35, 999), (36, 999), (37, 999)] M0 x ∧ ∀ l, l < k → x.1 35 l = nI (pop (sInk σ l)) ∧ x.1 36 l = nI (pop (Bes (sInk σ l))) ∧ x.1 37 l = nI (brN (sInk σ l))) (fun o => ∃ M', o = some M' ∧ Fr LL4 M M' ∧ C4 σ M' ∧ C5 σ M') ?_ ?_ (sL σ) 0 M0 FU (Nat.zero_add _) (by show _ < 200000; omega) ⟨Fr.refl, fun l hl => absurd hl (by omega)⟩
  · rintro q k x hk ⟨f1, h1⟩
    right
    have Sx : SC σ x := S0.fr f1 (by decide)
    have ik : inb (nI k) 10 = true := inb_nI (by omega) (by decide)
    refine ⟨wI (wI (wI x 35 k (nI (pop (sInk σ k)))) 36 k (nI (pop (Bes (sInk σ k))))) 37 k (nI (brN (sInk σ k))), ?_, Fr.tr f1 (Fr.tr (Fr.wIa rfl) (Fr.tr (Fr.wIa rfl) (Fr.wIa rfl))), fun l hl => ?_⟩
    · show bb_X6_lay_34_11_18 _ _ _ = _
      unfold bb_X6_lay_34_11_18
      rw [show x.1 34 0 = nI (sL σ) from ((f1 34 0 rfl).1).trans a0, if_neg (nI_ge hk (by omega)), inkOf_c g Sx hk, bd_some, f_bits, bd_some, gd_of ik, ltv_eq, f_beside, bd_some, f_bits, bd_some, gd_of ik, ltv_eq, f_broad, bd_some, gd_of ik, ltv_eq, ltv_eq, nI_1, ix_nI (by omega), Brd_nI]
    · show (wI x 35 k (nI (pop (sInk σ k)))).1 35 l = _ ∧ (wI (wI x 35 k (nI (pop (sInk σ k)))) 36 k (nI (pop (Bes (sInk σ k))))).1 36 l = _ ∧ (wI (wI (wI x 35 k (nI (pop (sInk σ k)))) 36 k (nI (pop (Bes (sInk σ k))))) 37 k (nI (brN (sInk σ k)))).1 37 l = _
      by_cases e : l = k
      · rw [e, wI_at, wI_at, wI_at]
        exact ⟨rfl, rfl, rfl⟩
      · have hh := h1 l (by omega)
        exact ⟨(wI_i e).trans hh.1, (wI_i e).trans hh.2.1, (wI_i e).trans hh.2.2⟩
  · rintro q x ⟨f1, h1⟩
    obtain ⟨M2, e2, f2, t2⟩ := fill38 (-2) x
    obtain ⟨M3, e3, f3, t3⟩ := fill43 0 M2
    have S3 : SC σ M3 := ((S0.fr f1 (by decide)).fr f2 (by decide)).fr f3 (by decide)
    have w3 : M3.1 34 1 = nI (sW σ) := ((f3 34 1 rfl).1).trans (((f2 34 1 rfl).1).trans (((f1 34 1 rfl).1).trans a1))
    have fr3 : Fr LL4 M M3 := Fr.tr f0 (Fr.tr (Fr.sub f1 (by decide)) (Fr.tr (Fr.sub f2 (by decide)) (Fr.sub f3 (by decide))))
    show ∃ M', bb_X6_lay_34_11_18 _ _ _ = _ ∧ _
    unfold bb_X6_lay_34_11_18
    rw [show x.1 34 0 = nI (sL σ) from ((f1 34 0 rfl).1).trans a0, if_pos (nI_le (Nat.le_refl _) (by omega)), e2, bd_some, e3, bd_some]
    refine for_q (fun q w (y : Mm) => b_X6_lay_34_11_90 q (nI w) y) (sW σ) (fun w y => Fr [(43, 999)] M3 y ∧ (∀ v, v < w → ∀ l, l < 10 → y.1 43 (10 * v + l) = nI (cntW σ v l)) ∧ ∀ i, 10 * w ≤ i → i < 60 → y.1 43 i = 0) (fun o => ∃ M', o = some M' ∧ Fr LL4 M M' ∧ C4 σ M' ∧ C5 σ M') ?_ ?_ (sW σ) 0 M3 FU (Nat.zero_add _) (by show _ < 200000; omega) ⟨Fr.refl, fun v hv => absurd hv (by omega), fun i _ hi => t3 i hi⟩
    · rintro q w y hw ⟨g1, g2, g3⟩
      right
      obtain ⟨y', e, f, c1, c2⟩ := lay100 g S3 hw g1 (fun l hl => g3 _ (by omega) (by omega)) (b_X6_lay_34_11_90 q)
      refine ⟨y', ?_, f, fun v hv l hl => ?_, fun i h1 h2 => ?_⟩
      · show bb_X6_lay_34_11_90 _ _ _ = _
        unfold bb_X6_lay_34_11_90
        rw [show y.1 34 1 = nI (sW σ) from ((g1 34 1 rfl).1).trans w3, if_neg (nI_ge hw (by omega))]
        exact e
      · by_cases e : v = w
        · rw [e]
          exact c1 l hl
        · rw [c2 _ (by omega)]
          exact g2 v (by omega) l hl
      · rw [c2 _ (by omega)]
        exact g3 i (by omega) h2
    · rintro q y ⟨g1, g2, g3⟩
      refine ⟨y, ?_, Fr.tr fr3 (Fr.sub g1 (by decide)), ?_, ?_⟩
      · show bb_X6_lay_34_11_90 _ _ _ = _
        unfold bb_X6_lay_34_11_90
        rw [show y.1 34 1 = nI (sW σ) from ((g1 34 1 rfl).1).trans w3, if_pos (nI_le (Nat.le_refl _) (by omega))]
      · show C40 σ y
        refine ⟨?_, ((g1 34 1 rfl).1).trans w3, fun l hl => ⟨?_, ?_, ?_⟩, g2⟩
        · exact ((g1 34 0 rfl).1).trans (((f3 34 0 rfl).1).trans (((f2 34 0 rfl).1).trans (((f1 34 0 rfl).1).trans a0)))
        · exact ((g1 35 l rfl).1).trans (((f3 35 l rfl).1).trans (((f2 35 l rfl).1).trans (h1 l hl).1))
        · exact ((g1 36 l rfl).1).trans (((f3 36 l rfl).1).trans (((f2 36 l rfl).1).trans (h1 l hl).2.1))
        · exact ((g1 37 l rfl).1).trans (((f3 37 l rfl).1).trans (((f2 37 l rfl).1).trans (h1 l hl).2.2))
      · show C50 σ y
        exact fun z hz => Or.inl (((g1 38 z rfl).1).trans (((f3 38 z rfl).1).trans (t2 z (by omega))))
