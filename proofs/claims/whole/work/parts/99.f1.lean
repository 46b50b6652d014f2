-- ===== the law's step (by gen/law2.py) =====
theorem gdk {xL i k : Nat} (K : Int32) (hK : K = nI k) (hk : k < 6) (hi : i + 6 ≤ xL) (hx : xL ≤ 390) : inb (nI i + K) xL = true := by
  rw [hK, nI_add]
  exact inb_nI (by omega) (by omega)
theorem st_220 {xL : Nat} {xs : Nat → Int32} {k23 : Int32 → Mm → Option Unit} {i : Nat} {M : Mm} (hi : i + 6 ≤ xL) (hx : xL ≤ 390) (h : Rel M) : ∃ M', Rel M' ∧ bb_L_law_220 xL xs k23 (nI i) M = k23 (nI (i + 6)) M' := by
  have n6 : nI i + 6 = nI (i + 6) := nI_add i 6
  obtain ⟨v, M1, M2, e1, e2, r⟩ := c_feed ((xs (ix (nI i + (1 : Int32))))) ((xs (ix (nI i + (2 : Int32))))) ((xs (ix (nI i + (3 : Int32))))) ((xs (ix (nI i + (4 : Int32))))) ((xs (ix (nI i + (5 : Int32))))) h
  refine ⟨M2, r, ?_⟩
  unfold bb_L_law_220
  simp only [gd_of (gdk 1 rfl (by decide) hi hx), gd_of (gdk 2 rfl (by decide) hi hx), gd_of (gdk 3 rfl (by decide) hi hx), gd_of (gdk 4 rfl (by decide) hi hx), gd_of (gdk 5 rfl (by decide) hi hx), e1, e2, bd2_some, bd_some, eq_self, if_true, ltv_eq, n6]
theorem st_293 {xL : Nat} {xs : Nat → Int32} {k23 : Int32 → Mm → Option Unit} {i : Nat} {M : Mm} (hi : i + 6 ≤ xL) (hx : xL ≤ 390) (h : Rel M) : ∃ M', Rel M' ∧ bb_L_law_293 xL xs k23 (nI i) M = k23 (nI (i + 6)) M' := by
  have n6 : nI i + 6 = nI (i + 6) := nI_add i 6
  obtain ⟨v, M1, w, M2, e1, e2, e3, e4, r⟩ := c_sheet ((xs (ix (nI i + (1 : Int32))))) h
  refine ⟨M2, r, ?_⟩
  unfold bb_L_law_293
  simp only [gd_of (gdk 1 rfl (by decide) hi hx), gd_of (gdk 2 rfl (by decide) hi hx), gd_of (gdk 3 rfl (by decide) hi hx), gd_of (gdk 4 rfl (by decide) hi hx), gd_of (gdk 5 rfl (by decide) hi hx), e1, e2, bd2_some, bd_some, f_X10_thrown_67, bb_X10_thrown_67_0, e3, eq_self, if_true, ltv_eq, n6]
  by_cases hv : v = 0
  · rw [if_pos hv, if_pos (e4 hv)]
  · rw [if_neg hv]
theorem st_349 {xL : Nat} {xs : Nat → Int32} {k23 : Int32 → Mm → Option Unit} {i : Nat} {M : Mm} (hi : i + 6 ≤ xL) (hx : xL ≤ 390) (h : Rel M) : ∃ M', Rel M' ∧ bb_L_law_349 xL xs k23 (nI i) M = k23 (nI (i + 6)) M' := by
  have n6 : nI i + 6 = nI (i + 6) := nI_add i 6
  obtain ⟨v, M2, e1, e2, r⟩ := c_fault  h
  refine ⟨M2, r, ?_⟩
  unfold bb_L_law_349
  simp only [gd_of (gdk 1 rfl (by decide) hi hx), gd_of (gdk 2 rfl (by decide) hi hx), gd_of (gdk 3 rfl (by decide) hi hx), gd_of (gdk 4 rfl (by decide) hi hx), gd_of (gdk 5 rfl (by decide) hi hx), e1, e2, bd2_some, bd_some, eq_self, if_true, ltv_eq, n6]
theorem st_362 {xL : Nat} {xs : Nat → Int32} {k23 : Int32 → Mm → Option Unit} {i : Nat} {M : Mm} (hi : i + 6 ≤ xL) (hx : xL ≤ 390) (h : Rel M) : ∃ M', Rel M' ∧ bb_L_law_362 xL xs k23 (nI i) M = k23 (nI (i + 6)) M' := by
  have n6 : nI i + 6 = nI (i + 6) := nI_add i 6
  obtain ⟨v, M1, w, M2, e1, e2, e3, e4, r⟩ := c_told ((xs (ix (nI i + (1 : Int32))))) h
  refine ⟨M2, r, ?_⟩
  unfold bb_L_law_362
  simp only [gd_of (gdk 1 rfl (by decide) hi hx), gd_of (gdk 2 rfl (by decide) hi hx), gd_of (gdk 3 rfl (by decide) hi hx), gd_of (gdk 4 rfl (by decide) hi hx), gd_of (gdk 5 rfl (by decide) hi hx), e1, e2, bd2_some, bd_some, f_X10_thrown_67, bb_X10_thrown_67_0, e3, eq_self, if_true, ltv_eq, n6]
  by_cases hv : v = 0
  · rw [if_pos hv, if_pos (e4 hv)]
  · rw [if_neg hv]
theorem st_418 {xL : Nat} {xs : Nat → Int32} {k23 : Int32 → Mm → Option Unit} {i : Nat} {M : Mm} (hi : i + 6 ≤ xL) (hx : xL ≤ 390) (h : Rel M) : ∃ M', Rel M' ∧ bb_L_law_418 xL xs k23 (nI i) M = k23 (nI (i + 6)) M' := by
  have n6 : nI i + 6 = nI (i + 6) := nI_add i 6
  obtain ⟨v, M1, w, M2, e1, e2, e3, e4, r⟩ := c_squares ((xs (ix (nI i + (1 : Int32))))) ((xs (ix (nI i + (2 : Int32))))) h
  refine ⟨M2, r, ?_⟩
  unfold bb_L_law_418
  simp only [gd_of (gdk 1 rfl (by decide) hi hx), gd_of (gdk 2 rfl (by decide) hi hx), gd_of (gdk 3 rfl (by decide) hi hx), gd_of (gdk 4 rfl (by decide) hi hx), gd_of (gdk 5 rfl (by decide) hi hx), e1, e2, bd2_some, bd_some, f_X10_thrown_67, bb_X10_thrown_67_0, e3, eq_self, if_true, ltv_eq, n6]
  by_cases hv : v = 0
  · rw [if_pos hv, if_pos (e4 hv)]
  · rw [if_neg hv]
theorem st_485 {xL : Nat} {xs : Nat → Int32} {k23 : Int32 → Mm → Option Unit} {i : Nat} {M : Mm} (hi : i + 6 ≤ xL) (hx : xL ≤ 390) (h : Rel M) : ∃ M', Rel M' ∧ bb_L_law_485 xL xs k23 (nI i) M = k23 (nI (i + 6)) M' := by
  have n6 : nI i + 6 = nI (i + 6) := nI_add i 6
  obtain ⟨v, M1, w, M2, e1, e2, e3, e4, r⟩ := c_letter ((xs (ix (nI i + (1 : Int32))))) ((xs (ix (nI i + (2 : Int32))))) h
  refine ⟨M2, r, ?_⟩
  unfold bb_L_law_485
  simp only [gd_of (gdk 1 rfl (by decide) hi hx), gd_of (gdk 2 rfl (by decide) hi hx), gd_of (gdk 3 rfl (by decide) hi hx), gd_of (gdk 4 rfl (by decide) hi hx), gd_of (gdk 5 rfl (by decide) hi hx), e1, e2, bd2_some, bd_some, f_X10_thrown_67, bb_X10_thrown_67_0, e3, eq_self, if_true, ltv_eq, n6]
  by_cases hv : v = 0
  · rw [if_pos hv, if_pos (e4 hv)]
  · rw [if_neg hv]
theorem st_553 {xL : Nat} {xs : Nat → Int32} {k23 : Int32 → Mm → Option Unit} {i : Nat} {M : Mm} (hi : i + 6 ≤ xL) (hx : xL ≤ 390) (h : Rel M) : ∃ M', Rel M' ∧ bb_L_law_553 xL xs k23 (nI i) M = k23 (nI (i + 6)) M' := by
  have n6 : nI i + 6 = nI (i + 6) := nI_add i 6
  obtain ⟨v, M1, w, M2, e1, e2, e3, e4, r⟩ := c_hollow ((xs (ix (nI i + (1 : Int32))))) h
  refine ⟨M2, r, ?_⟩
  unfold bb_L_law_553
  simp only [gd_of (gdk 1 rfl (by decide) hi hx), gd_of (gdk 2 rfl (by decide) hi hx), gd_of (gdk 3 rfl (by decide) hi hx), gd_of (gdk 4 rfl (by decide) hi hx), gd_of (gdk 5 rfl (by decide) hi hx), e1, e2, bd2_some, bd_some, f_X10_thrown_67, bb_X10_thrown_67_0, e3, eq_self, if_true, ltv_eq, n6]
  by_cases hv : v = 0
  · rw [if_pos hv, if_pos (e4 hv)]
  · rw [if_neg hv]
theorem st_608 {xL : Nat} {xs : Nat → Int32} {k23 : Int32 → Mm → Option Unit} {i : Nat} {M : Mm} (hi : i + 6 ≤ xL) (hx : xL ≤ 390) (h : Rel M) : ∃ M', Rel M' ∧ bb_L_law_608 xL xs k23 (nI i) M = k23 (nI (i + 6)) M' := by
  have n6 : nI i + 6 = nI (i + 6) := nI_add i 6
  obtain ⟨v, M2, e1, e2, r⟩ := c_shape (((shL ((xs (ix (nI i + (1 : Int32)))).toInt64) (32 : Int32)) ||| (((xs (ix (nI i + (2 : Int32)))).toInt64) &&& (4294967295 : Int64)))) h
  refine ⟨M2, r, ?_⟩
  unfold bb_L_law_608
  simp only [gd_of (gdk 1 rfl (by decide) hi hx), gd_of (gdk 2 rfl (by decide) hi hx), gd_of (gdk 3 rfl (by decide) hi hx), gd_of (gdk 4 rfl (by decide) hi hx), gd_of (gdk 5 rfl (by decide) hi hx), e1, e2, bd2_some, bd_some, eq_self, if_true, ltv_eq, n6]
theorem st_666 {xL : Nat} {xs : Nat → Int32} {k23 : Int32 → Mm → Option Unit} {i : Nat} {M : Mm} (hi : i + 6 ≤ xL) (hx : xL ≤ 390) (h : Rel M) : ∃ M', Rel M' ∧ bb_L_law_666 xL xs k23 (nI i) M = k23 (nI (i + 6)) M' := by
  have n6 : nI i + 6 = nI (i + 6) := nI_add i 6
  by_cases z : xs (ix (nI i + (3 : Int32))) = 0
  · obtain ⟨v, M1, w, M2, e1, e2, e3, e4, r⟩ := c_apart ((xs (ix (nI i + (1 : Int32))))) ((xs (ix (nI i + (2 : Int32))))) ((0 : Int32)) h
    refine ⟨M2, r, ?_⟩
    unfold bb_L_law_666
    simp only [gd_of (gdk 1 rfl (by decide) hi hx), gd_of (gdk 2 rfl (by decide) hi hx), gd_of (gdk 3 rfl (by decide) hi hx), gd_of (gdk 4 rfl (by decide) hi hx), gd_of (gdk 5 rfl (by decide) hi hx), if_pos z, e1, e2, bd2_some, bd_some, f_X10_thrown_67, bb_X10_thrown_67_0, e3, eq_self, if_true, ltv_eq, n6]
    by_cases hv : v = 0
    · rw [if_pos hv, if_pos (e4 hv)]
    · rw [if_neg hv]
  · obtain ⟨v, M1, w, M2, e1, e2, e3, e4, r⟩ := c_apart ((xs (ix (nI i + (1 : Int32))))) ((xs (ix (nI i + (2 : Int32))))) ((1 : Int32)) h
    refine ⟨M2, r, ?_⟩
    unfold bb_L_law_666
    simp only [gd_of (gdk 1 rfl (by decide) hi hx), gd_of (gdk 2 rfl (by decide) hi hx), gd_of (gdk 3 rfl (by decide) hi hx), gd_of (gdk 4 rfl (by decide) hi hx), gd_of (gdk 5 rfl (by decide) hi hx), if_neg z, e1, e2, bd2_some, bd_some, f_X10_thrown_67, bb_X10_thrown_67_0, e3, eq_self, if_true, ltv_eq, n6]
    by_cases hv : v = 0
    · rw [if_pos hv, if_pos (e4 hv)]
    · rw [if_neg hv]
theorem st_762 {xL : Nat} {xs : Nat → Int32} {k23 : Int32 → Mm → Option Unit} {i : Nat} {M : Mm} (hi : i + 6 ≤ xL) (hx : xL ≤ 390) (h : Rel M) : ∃ M', Rel M' ∧ bb_L_law_762 xL xs k23 (nI i) M = k23 (nI (i + 6)) M' := by
  have n6 : nI i + 6 = nI (i + 6) := nI_add i 6
  by_cases z : xs (ix (nI i + (2 : Int32))) = 0
  · obtain ⟨v, M1, w, M2, e1, e2, e3, e4, r⟩ := c_punches ((xs (ix (nI i + (1 : Int32))))) ((0 : Int32)) ((xs (ix (nI i + (3 : Int32))))) h
    refine ⟨M2, r, ?_⟩
    unfold bb_L_law_762
    simp only [gd_of (gdk 1 rfl (by decide) hi hx), gd_of (gdk 2 rfl (by decide) hi hx), gd_of (gdk 3 rfl (by decide) hi hx), gd_of (gdk 4 rfl (by decide) hi hx), gd_of (gdk 5 rfl (by decide) hi hx), if_pos z, e1, e2, bd2_some, bd_some, f_X10_thrown_67, bb_X10_thrown_67_0, e3, eq_self, if_true, ltv_eq, n6]
    by_cases hv : v = 0
    · rw [if_pos hv, if_pos (e4 hv)]
    · rw [if_neg hv]
  · obtain ⟨v, M1, w, M2, e1, e2, e3, e4, r⟩ := c_punches ((xs (ix (nI i + (1 : Int32))))) ((1 : Int32)) ((xs (ix (nI i + (3 : Int32))))) h
    refine ⟨M2, r, ?_⟩
    unfold bb_L_law_762
    simp only [gd_of (gdk 1 rfl (by decide) hi hx), gd_of (gdk 2 rfl (by decide) hi hx), gd_of (gdk 3 rfl (by decide) hi hx), gd_of (gdk 4 rfl (by decide) hi hx), gd_of (gdk 5 rfl (by decide) hi hx), if_neg z, e1, e2, bd2_some, bd_some, f_X10_thrown_67, bb_X10_thrown_67_0, e3, eq_self, if_true, ltv_eq, n6]
    by_cases hv : v = 0
    · rw [if_pos hv, if_pos (e4 hv)]
    · rw [if_neg hv]
theorem st_858 {xL : Nat} {xs : Nat → Int32} {k23 : Int32 → Mm → Option Unit} {i : Nat} {M : Mm} (hi : i + 6 ≤ xL) (hx : xL ≤ 390) (h : Rel M) : ∃ M', Rel M' ∧ bb_L_law_858 xL xs k23 (nI i) M = k23 (nI (i + 6)) M' := by
  have n6 : nI i + 6 = nI (i + 6) := nI_add i 6
  by_cases z : xs (ix (nI i + (3 : Int32))) = 0
  · obtain ⟨v, M1, w, M2, e1, e2, e3, e4, r⟩ := c_served ((xs (ix (nI i + (1 : Int32))))) ((xs (ix (nI i + (2 : Int32))))) ((0 : Int32)) h
    refine ⟨M2, r, ?_⟩
    unfold bb_L_law_858
    simp only [gd_of (gdk 1 rfl (by decide) hi hx), gd_of (gdk 2 rfl (by decide) hi hx), gd_of (gdk 3 rfl (by decide) hi hx), gd_of (gdk 4 rfl (by decide) hi hx), gd_of (gdk 5 rfl (by decide) hi hx), if_pos z, e1, e2, bd2_some, bd_some, f_X10_thrown_67, bb_X10_thrown_67_0, e3, eq_self, if_true, ltv_eq, n6]
    by_cases hv : v = 0
    · rw [if_pos hv, if_pos (e4 hv)]
    · rw [if_neg hv]
  · obtain ⟨v, M1, w, M2, e1, e2, e3, e4, r⟩ := c_served ((xs (ix (nI i + (1 : Int32))))) ((xs (ix (nI i + (2 : Int32))))) ((1 : Int32)) h
    refine ⟨M2, r, ?_⟩
    unfold bb_L_law_858
    simp only [gd_of (gdk 1 rfl (by decide) hi hx), gd_of (gdk 2 rfl (by decide) hi hx), gd_of (gdk 3 rfl (by decide) hi hx), gd_of (gdk 4 rfl (by decide) hi hx), gd_of (gdk 5 rfl (by decide) hi hx), if_neg z, e1, e2, bd2_some, bd_some, f_X10_thrown_67, bb_X10_thrown_67_0, e3, eq_self, if_true, ltv_eq, n6]
    by_cases hv : v = 0
    · rw [if_pos hv, if_pos (e4 hv)]
    · rw [if_neg hv]
theorem st_954 {xL : Nat} {xs : Nat → Int32} {k23 : Int32 → Mm → Option Unit} {i : Nat} {M : Mm} (hi : i + 6 ≤ xL) (hx : xL ≤ 390) (h : Rel M) : ∃ M', Rel M' ∧ bb_L_law_954 xL xs k23 (nI i) M = k23 (nI (i + 6)) M' := by
  have n6 : nI i + 6 = nI (i + 6) := nI_add i 6
  obtain ⟨v, M1, w, M2, e1, e2, e3, e4, r⟩ := c_bites ((xs (ix (nI i + (1 : Int32))))) ((xs (ix (nI i + (2 : Int32))))) h
  refine ⟨M2, r, ?_⟩
  unfold bb_L_law_954
  simp only [gd_of (gdk 1 rfl (by decide) hi hx), gd_of (gdk 2 rfl (by decide) hi hx), gd_of (gdk 3 rfl (by decide) hi hx), gd_of (gdk 4 rfl (by decide) hi hx), gd_of (gdk 5 rfl (by decide) hi hx), e1, e2, bd2_some, bd_some, f_X10_thrown_67, bb_X10_thrown_67_0, e3, eq_self, if_true, ltv_eq, n6]
  by_cases hv : v = 0
  · rw [if_pos hv, if_pos (e4 hv)]
  · rw [if_neg hv]
theorem st_1022 {xL : Nat} {xs : Nat → Int32} {k23 : Int32 → Mm → Option Unit} {i : Nat} {M : Mm} (hi : i + 6 ≤ xL) (hx : xL ≤ 390) (h : Rel M) : ∃ M', Rel M' ∧ bb_L_law_1022 xL xs k23 (nI i) M = k23 (nI (i + 6)) M' := by
  have n6 : nI i + 6 = nI (i + 6) := nI_add i 6
  obtain ⟨v, M1, w, M2, e1, e2, e3, e4, r⟩ := c_lines ((xs (ix (nI i + (1 : Int32))))) h
  refine ⟨M2, r, ?_⟩
  unfold bb_L_law_1022
  simp only [gd_of (gdk 1 rfl (by decide) hi hx), gd_of (gdk 2 rfl (by decide) hi hx), gd_of (gdk 3 rfl (by decide) hi hx), gd_of (gdk 4 rfl (by decide) hi hx), gd_of (gdk 5 rfl (by decide) hi hx), e1, e2, bd2_some, bd_some, f_X10_thrown_67, bb_X10_thrown_67_0, e3, eq_self, if_true, ltv_eq, n6]
  by_cases hv : v = 0
  · rw [if_pos hv, if_pos (e4 hv)]
  · rw [if_neg hv]
theorem st_1077 {xL : Nat} {xs : Nat → Int32} {k23 : Int32 → Mm → Option Unit} {i : Nat} {M : Mm} (hi : i + 6 ≤ xL) (hx : xL ≤ 390) (h : Rel M) : ∃ M', Rel M' ∧ bb_L_law_1077 xL xs k23 (nI i) M = k23 (nI (i + 6)) M' := by
  have n6 : nI i + 6 = nI (i + 6) := nI_add i 6
  obtain ⟨v, M1, M2, e1, e2, e3, r⟩ := c_begin ((xs (ix (nI i + (1 : Int32))))) h
  refine ⟨M2, r, ?_⟩
  unfold bb_L_law_1077
  simp only [gd_of (gdk 1 rfl (by decide) hi hx), gd_of (gdk 2 rfl (by decide) hi hx), gd_of (gdk 3 rfl (by decide) hi hx), gd_of (gdk 4 rfl (by decide) hi hx), gd_of (gdk 5 rfl (by decide) hi hx), e1, e2, bd2_some, bd_some, f_X10_thrown_67, bb_X10_thrown_67_0, e3, eq_self, if_true, ltv_eq, n6]
theorem st_1113 {xL : Nat} {xs : Nat → Int32} {k23 : Int32 → Mm → Option Unit} {i : Nat} {M : Mm} (hi : i + 6 ≤ xL) (hx : xL ≤ 390) (h : Rel M) : ∃ M', Rel M' ∧ bb_L_law_1113 xL xs k23 (nI i) M = k23 (nI (i + 6)) M' := by
  have n6 : nI i + 6 = nI (i + 6) := nI_add i 6
  obtain ⟨v, M1, w, M2, e1, e2, e3, e4, r⟩ := c_blow ((xs (ix (nI i + (1 : Int32))))) h
  refine ⟨M2, r, ?_⟩
  unfold bb_L_law_1113
  simp only [gd_of (gdk 1 rfl (by decide) hi hx), gd_of (gdk 2 rfl (by decide) hi hx), gd_of (gdk 3 rfl (by decide) hi hx), gd_of (gdk 4 rfl (by decide) hi hx), gd_of (gdk 5 rfl (by decide) hi hx), e1, e2, bd2_some, bd_some, f_X10_thrown_67, bb_X10_thrown_67_0, e3, eq_self, if_true, ltv_eq, n6]
  by_cases hv : v = 0
  · rw [if_pos hv, if_pos (e4 hv)]
  · rw [if_neg hv]
theorem st_1169 {xL : Nat} {xs : Nat → Int32} {k23 : Int32 → Mm → Option Unit} {i : Nat} {M : Mm} (hi : i + 6 ≤ xL) (hx : xL ≤ 390) (h : Rel M) : ∃ M', Rel M' ∧ bb_L_law_1169 xL xs k23 (nI i) M = k23 (nI (i + 6)) M' := by
  have n6 : nI i + 6 = nI (i + 6) := nI_add i 6
  obtain ⟨v, M1, w, M2, e1, e2, e3, e4, r⟩ := c_file ((xs (ix (nI i + (1 : Int32))))) ((xs (ix (nI i + (2 : Int32))))) ((xs (ix (nI i + (3 : Int32))))) h
  refine ⟨M2, r, ?_⟩
  unfold bb_L_law_1169
  simp only [gd_of (gdk 1 rfl (by decide) hi hx), gd_of (gdk 2 rfl (by decide) hi hx), gd_of (gdk 3 rfl (by decide) hi hx), gd_of (gdk 4 rfl (by decide) hi hx), gd_of (gdk 5 rfl (by decide) hi hx), e1, e2, bd2_some, bd_some, f_X10_thrown_67, bb_X10_thrown_67_0, e3, eq_self, if_true, ltv_eq, n6]
  by_cases hv : v = 0
  · rw [if_pos hv, if_pos (e4 hv)]
  · rw [if_neg hv]
theorem st_1249 {xL : Nat} {xs : Nat → Int32} {k23 : Int32 → Mm → Option Unit} {i : Nat} {M : Mm} (hi : i + 6 ≤ xL) (hx : xL ≤ 390) (h : Rel M) : ∃ M', Rel M' ∧ bb_L_law_1249 xL xs k23 (nI i) M = k23 (nI (i + 6)) M' := by
  have n6 : nI i + 6 = nI (i + 6) := nI_add i 6
  obtain ⟨v, M2, e1, e2, r⟩ := c_steel  h
  refine ⟨M2, r, ?_⟩
  unfold bb_L_law_1249
  simp only [gd_of (gdk 1 rfl (by decide) hi hx), gd_of (gdk 2 rfl (by decide) hi hx), gd_of (gdk 3 rfl (by decide) hi hx), gd_of (gdk 4 rfl (by decide) hi hx), gd_of (gdk 5 rfl (by decide) hi hx), e1, e2, bd2_some, bd_some, eq_self, if_true, ltv_eq, n6]
theorem st_1263 {xL : Nat} {xs : Nat → Int32} {k23 : Int32 → Mm → Option Unit} {i : Nat} {M : Mm} (hi : i + 6 ≤ xL) (hx : xL ≤ 390) (h : Rel M) : ∃ M', Rel M' ∧ bb_L_law_1263 xL xs k23 (nI i) M = k23 (nI (i + 6)) M' := by
  have n6 : nI i + 6 = nI (i + 6) := nI_add i 6
  obtain ⟨v, M1, w, M2, e1, e2, e3, e4, r⟩ := c_punch ((xs (ix (nI i + (1 : Int32))))) h
  refine ⟨M2, r, ?_⟩
  unfold bb_L_law_1263
  simp only [gd_of (gdk 1 rfl (by decide) hi hx), gd_of (gdk 2 rfl (by decide) hi hx), gd_of (gdk 3 rfl (by decide) hi hx), gd_of (gdk 4 rfl (by decide) hi hx), gd_of (gdk 5 rfl (by decide) hi hx), e1, e2, bd2_some, bd_some, f_X10_thrown_67, bb_X10_thrown_67_0, e3, eq_self, if_true, ltv_eq, n6]
  by_cases hv : v = 0
  · rw [if_pos hv, if_pos (e4 hv)]
  · rw [if_neg hv]
theorem st_1319 {xL : Nat} {xs : Nat → Int32} {k23 : Int32 → Mm → Option Unit} {i : Nat} {M : Mm} (hi : i + 6 ≤ xL) (hx : xL ≤ 390) (h : Rel M) : ∃ M', Rel M' ∧ bb_L_law_1319 xL xs k23 (nI i) M = k23 (nI (i + 6)) M' := by
  have n6 : nI i + 6 = nI (i + 6) := nI_add i 6
  obtain ⟨v, M1, w, M2, e1, e2, e3, e4, r⟩ := c_addBlow ((xs (ix (nI i + (1 : Int32))))) h
  refine ⟨M2, r, ?_⟩
  unfold bb_L_law_1319
  simp only [gd_of (gdk 1 rfl (by decide) hi hx), gd_of (gdk 2 rfl (by decide) hi hx), gd_of (gdk 3 rfl (by decide) hi hx), gd_of (gdk 4 rfl (by decide) hi hx), gd_of (gdk 5 rfl (by decide) hi hx), e1, e2, bd2_some, bd_some, f_X10_thrown_67, bb_X10_thrown_67_0, e3, eq_self, if_true, ltv_eq, n6]
  by_cases hv : v = 0
  · rw [if_pos hv, if_pos (e4 hv)]
  · rw [if_neg hv]
theorem st_1375 {xL : Nat} {xs : Nat → Int32} {k23 : Int32 → Mm → Option Unit} {i : Nat} {M : Mm} (hi : i + 6 ≤ xL) (hx : xL ≤ 390) (h : Rel M) : ∃ M', Rel M' ∧ bb_L_law_1375 xL xs k23 (nI i) M = k23 (nI (i + 6)) M' := by
  have n6 : nI i + 6 = nI (i + 6) := nI_add i 6
  obtain ⟨v, M1, w, M2, e1, e2, e3, e4, r⟩ := c_addFile ((xs (ix (nI i + (1 : Int32))))) ((xs (ix (nI i + (2 : Int32))))) ((xs (ix (nI i + (3 : Int32))))) h
  refine ⟨M2, r, ?_⟩
  unfold bb_L_law_1375
  simp only [gd_of (gdk 1 rfl (by decide) hi hx), gd_of (gdk 2 rfl (by decide) hi hx), gd_of (gdk 3 rfl (by decide) hi hx), gd_of (gdk 4 rfl (by decide) hi hx), gd_of (gdk 5 rfl (by decide) hi hx), e1, e2, bd2_some, bd_some, f_X10_thrown_67, bb_X10_thrown_67_0, e3, eq_self, if_true, ltv_eq, n6]
  by_cases hv : v = 0
  · rw [if_pos hv, if_pos (e4 hv)]
  · rw [if_neg hv]
theorem st_1455 {xL : Nat} {xs : Nat → Int32} {k23 : Int32 → Mm → Option Unit} {i : Nat} {M : Mm} (hi : i + 6 ≤ xL) (hx : xL ≤ 390) (h : Rel M) : ∃ M', Rel M' ∧ bb_L_law_1455 xL xs k23 (nI i) M = k23 (nI (i + 6)) M' := by
  have n6 : nI i + 6 = nI (i + 6) := nI_add i 6
  obtain ⟨v, M1, M2, e1, e2, r⟩ := c_clear  h
  refine ⟨M2, r, ?_⟩
  unfold bb_L_law_1455
  simp only [gd_of (gdk 1 rfl (by decide) hi hx), gd_of (gdk 2 rfl (by decide) hi hx), gd_of (gdk 3 rfl (by decide) hi hx), gd_of (gdk 4 rfl (by decide) hi hx), gd_of (gdk 5 rfl (by decide) hi hx), e1, e2, bd2_some, bd_some, eq_self, if_true, ltv_eq, n6]
theorem st_1468 {xL : Nat} {xs : Nat → Int32} {k23 : Int32 → Mm → Option Unit} {i : Nat} {M : Mm} (hi : i + 6 ≤ xL) (hx : xL ≤ 390) (h : Rel M) : ∃ M', Rel M' ∧ bb_L_law_1468 xL xs k23 (nI i) M = k23 (nI (i + 6)) M' := by
  have n6 : nI i + 6 = nI (i + 6) := nI_add i 6
  obtain ⟨v, M1, w, M2, e1, e2, e3, e4, r⟩ := c_judge ((xs (ix (nI i + (1 : Int32))))) ((xs (ix (nI i + (2 : Int32))))) h
  refine ⟨M2, r, ?_⟩
  unfold bb_L_law_1468
  simp only [gd_of (gdk 1 rfl (by decide) hi hx), gd_of (gdk 2 rfl (by decide) hi hx), gd_of (gdk 3 rfl (by decide) hi hx), gd_of (gdk 4 rfl (by decide) hi hx), gd_of (gdk 5 rfl (by decide) hi hx), e1, e2, bd2_some, bd_some, f_X10_thrown_67, bb_X10_thrown_67_0, e3, eq_self, if_true, ltv_eq, n6]
  by_cases hv : v = 0
  · rw [if_pos hv, if_pos (e4 hv)]
  · rw [if_neg hv]
theorem st_1536 {xL : Nat} {xs : Nat → Int32} {k23 : Int32 → Mm → Option Unit} {i : Nat} {M : Mm} (hi : i + 6 ≤ xL) (hx : xL ≤ 390) (h : Rel M) : ∃ M', Rel M' ∧ bb_L_law_1536 xL xs k23 (nI i) M = k23 (nI (i + 6)) M' := by
  have n6 : nI i + 6 = nI (i + 6) := nI_add i 6
  obtain ⟨v, M1, w, M2, e1, e2, e3, e4, r⟩ := c_hours ((xs (ix (nI i + (1 : Int32))))) ((xs (ix (nI i + (2 : Int32))))) ((xs (ix (nI i + (3 : Int32))))) h
  refine ⟨M2, r, ?_⟩
  unfold bb_L_law_1536
  simp only [gd_of (gdk 1 rfl (by decide) hi hx), gd_of (gdk 2 rfl (by decide) hi hx), gd_of (gdk 3 rfl (by decide) hi hx), gd_of (gdk 4 rfl (by decide) hi hx), gd_of (gdk 5 rfl (by decide) hi hx), e1, e2, bd2_some, bd_some, f_X10_thrown_67, bb_X10_thrown_67_0, e3, eq_self, if_true, ltv_eq, n6]
  by_cases hv : v = 0
  · rw [if_pos hv, if_pos (e4 hv)]
  · rw [if_neg hv]
theorem st_1615 {xL : Nat} {xs : Nat → Int32} {k23 : Int32 → Mm → Option Unit} {i : Nat} {M : Mm} (hi : i + 6 ≤ xL) (hx : xL ≤ 390) (h : Rel M) : ∃ M', Rel M' ∧ bb_L_law_1615 xL xs k23 (nI i) M = k23 (nI (i + 6)) M' := by
  have n6 : nI i + 6 = nI (i + 6) := nI_add i 6
  obtain ⟨v, M1, w, M2, e1, e2, e3, e4, r⟩ := c_order ((xs (ix (nI i + (1 : Int32))))) ((xs (ix (nI i + (2 : Int32))))) ((xs (ix (nI i + (3 : Int32))))) ((xs (ix (nI i + (4 : Int32))))) h
  refine ⟨M2, r, ?_⟩
  unfold bb_L_law_1615
  simp only [gd_of (gdk 1 rfl (by decide) hi hx), gd_of (gdk 2 rfl (by decide) hi hx), gd_of (gdk 3 rfl (by decide) hi hx), gd_of (gdk 4 rfl (by decide) hi hx), gd_of (gdk 5 rfl (by decide) hi hx), e1, e2, bd2_some, bd_some, f_X10_thrown_67, bb_X10_thrown_67_0, e3, eq_self, if_true, ltv_eq, n6]
  by_cases hv : v = 0
  · rw [if_pos hv, if_pos (e4 hv)]
  · rw [if_neg hv]
theorem st_1707 {xL : Nat} {xs : Nat → Int32} {k23 : Int32 → Mm → Option Unit} {i : Nat} {M : Mm} (hi : i + 6 ≤ xL) (hx : xL ≤ 390) (h : Rel M) : ∃ M', Rel M' ∧ bb_L_law_1707 xL xs k23 (nI i) M = k23 (nI (i + 6)) M' := by
  have n6 : nI i + 6 = nI (i + 6) := nI_add i 6
  obtain ⟨v, M1, w, M2, e1, e2, e3, e4, r⟩ := c_black ((xs (ix (nI i + (1 : Int32))))) ((xs (ix (nI i + (2 : Int32))))) h
  refine ⟨M2, r, ?_⟩
  unfold bb_L_law_1707
  simp only [gd_of (gdk 1 rfl (by decide) hi hx), gd_of (gdk 2 rfl (by decide) hi hx), gd_of (gdk 3 rfl (by decide) hi hx), gd_of (gdk 4 rfl (by decide) hi hx), gd_of (gdk 5 rfl (by decide) hi hx), e1, e2, bd2_some, bd_some, f_X10_thrown_67, bb_X10_thrown_67_0, e3, eq_self, if_true, ltv_eq, n6]
  by_cases hv : v = 0
  · rw [if_pos hv, if_pos (e4 hv)]
  · rw [if_neg hv]
theorem st_1775 {xL : Nat} {xs : Nat → Int32} {k23 : Int32 → Mm → Option Unit} {i : Nat} {M : Mm} (hi : i + 6 ≤ xL) (hx : xL ≤ 390) (h : Rel M) : ∃ M', Rel M' ∧ bb_L_law_1775 xL xs k23 (nI i) M = k23 (nI (i + 6)) M' := by
  have n6 : nI i + 6 = nI (i + 6) := nI_add i 6
  obtain ⟨v, M1, w, M2, e1, e2, e3, e4, r⟩ := c_colour ((xs (ix (nI i + (1 : Int32))))) ((xs (ix (nI i + (2 : Int32))))) ((xs (ix (nI i + (3 : Int32))))) h
  refine ⟨M2, r, ?_⟩
  unfold bb_L_law_1775
  simp only [gd_of (gdk 1 rfl (by decide) hi hx), gd_of (gdk 2 rfl (by decide) hi hx), gd_of (gdk 3 rfl (by decide) hi hx), gd_of (gdk 4 rfl (by decide) hi hx), gd_of (gdk 5 rfl (by decide) hi hx), e1, e2, bd2_some, bd_some, f_X10_thrown_67, bb_X10_thrown_67_0, e3, eq_self, if_true, ltv_eq, n6]
  by_cases hv : v = 0
  · rw [if_pos hv, if_pos (e4 hv)]
  · rw [if_neg hv]
theorem st_1855 {xL : Nat} {xs : Nat → Int32} {k23 : Int32 → Mm → Option Unit} {i : Nat} {M : Mm} (hi : i + 6 ≤ xL) (hx : xL ≤ 390) (h : Rel M) : ∃ M', Rel M' ∧ bb_L_law_1855 xL xs k23 (nI i) M = k23 (nI (i + 6)) M' := by
  have n6 : nI i + 6 = nI (i + 6) := nI_add i 6
  obtain ⟨v, M1, w, M2, e1, e2, e3, e4, r⟩ := c_uneven ((xs (ix (nI i + (1 : Int32))))) ((xs (ix (nI i + (2 : Int32))))) h
  refine ⟨M2, r, ?_⟩
  unfold bb_L_law_1855
  simp only [gd_of (gdk 1 rfl (by decide) hi hx), gd_of (gdk 2 rfl (by decide) hi hx), gd_of (gdk 3 rfl (by decide) hi hx), gd_of (gdk 4 rfl (by decide) hi hx), gd_of (gdk 5 rfl (by decide) hi hx), e1, e2, bd2_some, bd_some, f_X10_thrown_67, bb_X10_thrown_67_0, e3, eq_self, if_true, ltv_eq, n6]
  by_cases hv : v = 0
  · rw [if_pos hv, if_pos (e4 hv)]
  · rw [if_neg hv]
theorem st_1923 {xL : Nat} {xs : Nat → Int32} {k23 : Int32 → Mm → Option Unit} {i : Nat} {M : Mm} (hi : i + 6 ≤ xL) (hx : xL ≤ 390) (h : Rel M) : ∃ M', Rel M' ∧ bb_L_law_1923 xL xs k23 (nI i) M = k23 (nI (i + 6)) M' := by
  have n6 : nI i + 6 = nI (i + 6) := nI_add i 6
  obtain ⟨v, M1, w, M2, e1, e2, e3, e4, r⟩ := c_even ((xs (ix (nI i + (1 : Int32))))) h
  refine ⟨M2, r, ?_⟩
  unfold bb_L_law_1923
  simp only [gd_of (gdk 1 rfl (by decide) hi hx), gd_of (gdk 2 rfl (by decide) hi hx), gd_of (gdk 3 rfl (by decide) hi hx), gd_of (gdk 4 rfl (by decide) hi hx), gd_of (gdk 5 rfl (by decide) hi hx), e1, e2, bd2_some, bd_some, f_X10_thrown_67, bb_X10_thrown_67_0, e3, eq_self, if_true, ltv_eq, n6]
  by_cases hv : v = 0
  · rw [if_pos hv, if_pos (e4 hv)]
  · rw [if_neg hv]
theorem st_1979 {xL : Nat} {xs : Nat → Int32} {k23 : Int32 → Mm → Option Unit} {i : Nat} {M : Mm} (hi : i + 6 ≤ xL) (hx : xL ≤ 390) (h : Rel M) : ∃ M', Rel M' ∧ bb_L_law_1979 xL xs k23 (nI i) M = k23 (nI (i + 6)) M' := by
  have n6 : nI i + 6 = nI (i + 6) := nI_add i 6
  obtain ⟨v, M1, w, M2, e1, e2, e3, e4, r⟩ := c_press ((xs (ix (nI i + (1 : Int32))))) h
  refine ⟨M2, r, ?_⟩
  unfold bb_L_law_1979
  simp only [gd_of (gdk 1 rfl (by decide) hi hx), gd_of (gdk 2 rfl (by decide) hi hx), gd_of (gdk 3 rfl (by decide) hi hx), gd_of (gdk 4 rfl (by decide) hi hx), gd_of (gdk 5 rfl (by decide) hi hx), e1, e2, bd2_some, bd_some, f_X10_thrown_67, bb_X10_thrown_67_0, e3, eq_self, if_true, ltv_eq, n6]
  by_cases hv : v = 0
  · rw [if_pos hv, if_pos (e4 hv)]
  · rw [if_neg hv]
theorem st_2035 {xL : Nat} {xs : Nat → Int32} {k23 : Int32 → Mm → Option Unit} {i : Nat} {M : Mm} (hi : i + 6 ≤ xL) (hx : xL ≤ 390) (h : Rel M) : ∃ M', Rel M' ∧ bb_L_law_2035 xL xs k23 (nI i) M = k23 (nI (i + 6)) M' := by
  have n6 : nI i + 6 = nI (i + 6) := nI_add i 6
  obtain ⟨v, M1, w, M2, e1, e2, e3, e4, r⟩ := c_print (((shL ((xs (ix (nI i + (1 : Int32)))).toInt64) (32 : Int32)) ||| (((xs (ix (nI i + (2 : Int32)))).toInt64) &&& (4294967295 : Int64)))) h
  refine ⟨M2, r, ?_⟩
  unfold bb_L_law_2035
  simp only [gd_of (gdk 1 rfl (by decide) hi hx), gd_of (gdk 2 rfl (by decide) hi hx), gd_of (gdk 3 rfl (by decide) hi hx), gd_of (gdk 4 rfl (by decide) hi hx), gd_of (gdk 5 rfl (by decide) hi hx), e1, e2, bd2_some, bd_some, f_X10_thrown_67, bb_X10_thrown_67_0, e3, eq_self, if_true, ltv_eq, n6]
  by_cases hv : v = 0
  · rw [if_pos hv, if_pos (e4 hv)]
  · rw [if_neg hv]
theorem st_2123 {xL : Nat} {xs : Nat → Int32} {k23 : Int32 → Mm → Option Unit} {i : Nat} {M : Mm} (hi : i + 6 ≤ xL) (hx : xL ≤ 390) (h : Rel M) : ∃ M', Rel M' ∧ bb_L_law_2123 xL xs k23 (nI i) M = k23 (nI (i + 6)) M' := by
  have n6 : nI i + 6 = nI (i + 6) := nI_add i 6
  by_cases z : xs (ix (nI i + (4 : Int32))) = 0
  · obtain ⟨v, M1, w, M2, e1, e2, e3, e4, r⟩ := c_kin ((xs (ix (nI i + (1 : Int32))))) ((xs (ix (nI i + (2 : Int32))))) ((xs (ix (nI i + (3 : Int32))))) ((0 : Int32)) h
    refine ⟨M2, r, ?_⟩
    unfold bb_L_law_2123
    simp only [gd_of (gdk 1 rfl (by decide) hi hx), gd_of (gdk 2 rfl (by decide) hi hx), gd_of (gdk 3 rfl (by decide) hi hx), gd_of (gdk 4 rfl (by decide) hi hx), gd_of (gdk 5 rfl (by decide) hi hx), if_pos z, e1, e2, bd2_some, bd_some, f_X10_thrown_67, bb_X10_thrown_67_0, e3, eq_self, if_true, ltv_eq, n6]
    by_cases hv : v = 0
    · obtain ⟨hw, e5⟩ := e4 hv
      rw [if_pos hv, e5]
      rcases hw with hw | hw
      · rw [hw]
        rfl
      · rw [hw]
        rfl
    · rw [if_neg hv]
  · obtain ⟨v, M1, w, M2, e1, e2, e3, e4, r⟩ := c_kin ((xs (ix (nI i + (1 : Int32))))) ((xs (ix (nI i + (2 : Int32))))) ((xs (ix (nI i + (3 : Int32))))) ((1 : Int32)) h
    refine ⟨M2, r, ?_⟩
    unfold bb_L_law_2123
    simp only [gd_of (gdk 1 rfl (by decide) hi hx), gd_of (gdk 2 rfl (by decide) hi hx), gd_of (gdk 3 rfl (by decide) hi hx), gd_of (gdk 4 rfl (by decide) hi hx), gd_of (gdk 5 rfl (by decide) hi hx), if_neg z, e1, e2, bd2_some, bd_some, f_X10_thrown_67, bb_X10_thrown_67_0, e3, eq_self, if_true, ltv_eq, n6]
    by_cases hv : v = 0
    · obtain ⟨hw, e5⟩ := e4 hv
      rw [if_pos hv, e5]
      rcases hw with hw | hw
      · rw [hw]
        rfl
      · rw [hw]
        rfl
    · rw [if_neg hv]
theorem st_2238 {xL : Nat} {xs : Nat → Int32} {k23 : Int32 → Mm → Option Unit} {i : Nat} {M : Mm} (hi : i + 6 ≤ xL) (hx : xL ≤ 390) (h : Rel M) : ∃ M', Rel M' ∧ bb_L_law_2238 xL xs k23 (nI i) M = k23 (nI (i + 6)) M' := by
  have n6 : nI i + 6 = nI (i + 6) := nI_add i 6
  by_cases z : xs (ix (nI i + (2 : Int32))) = 0
  · obtain ⟨v, M1, w, M2, e1, e2, e3, e4, r⟩ := c_partings ((xs (ix (nI i + (1 : Int32))))) ((0 : Int32)) ((xs (ix (nI i + (3 : Int32))))) h
    refine ⟨M2, r, ?_⟩
    unfold bb_L_law_2238
    simp only [gd_of (gdk 1 rfl (by decide) hi hx), gd_of (gdk 2 rfl (by decide) hi hx), gd_of (gdk 3 rfl (by decide) hi hx), gd_of (gdk 4 rfl (by decide) hi hx), gd_of (gdk 5 rfl (by decide) hi hx), if_pos z, e1, e2, bd2_some, bd_some, f_X10_thrown_67, bb_X10_thrown_67_0, e3, eq_self, if_true, ltv_eq, n6]
    by_cases hv : v = 0
    · rw [if_pos hv, if_pos (e4 hv)]
    · rw [if_neg hv]
  · obtain ⟨v, M1, w, M2, e1, e2, e3, e4, r⟩ := c_partings ((xs (ix (nI i + (1 : Int32))))) ((1 : Int32)) ((xs (ix (nI i + (3 : Int32))))) h
    refine ⟨M2, r, ?_⟩
    unfold bb_L_law_2238
    simp only [gd_of (gdk 1 rfl (by decide) hi hx), gd_of (gdk 2 rfl (by decide) hi hx), gd_of (gdk 3 rfl (by decide) hi hx), gd_of (gdk 4 rfl (by decide) hi hx), gd_of (gdk 5 rfl (by decide) hi hx), if_neg z, e1, e2, bd2_some, bd_some, f_X10_thrown_67, bb_X10_thrown_67_0, e3, eq_self, if_true, ltv_eq, n6]
    by_cases hv : v = 0
    · rw [if_pos hv, if_pos (e4 hv)]
    · rw [if_neg hv]
theorem st_2334 {xL : Nat} {xs : Nat → Int32} {k23 : Int32 → Mm → Option Unit} {i : Nat} {M : Mm} (hi : i + 6 ≤ xL) (hx : xL ≤ 390) (h : Rel M) : ∃ M', Rel M' ∧ bb_L_law_2334 xL xs k23 (nI i) M = k23 (nI (i + 6)) M' := by
  have n6 : nI i + 6 = nI (i + 6) := nI_add i 6
  obtain ⟨v, M2, e1, e2, r⟩ := c_can  h
  refine ⟨M2, r, ?_⟩
  unfold bb_L_law_2334
  simp only [gd_of (gdk 1 rfl (by decide) hi hx), gd_of (gdk 2 rfl (by decide) hi hx), gd_of (gdk 3 rfl (by decide) hi hx), gd_of (gdk 4 rfl (by decide) hi hx), gd_of (gdk 5 rfl (by decide) hi hx), e1, e2, bd2_some, bd_some, eq_self, if_true, ltv_eq, n6]
theorem st_2347 {xL : Nat} {xs : Nat → Int32} {k23 : Int32 → Mm → Option Unit} {i : Nat} {M : Mm} (hi : i + 6 ≤ xL) (hx : xL ≤ 390) (h : Rel M) : ∃ M', Rel M' ∧ bb_L_law_2347 xL xs k23 (nI i) M = k23 (nI (i + 6)) M' := by
  have n6 : nI i + 6 = nI (i + 6) := nI_add i 6
  obtain ⟨v, M1, M2, e1, e2, r⟩ := c_left  h
  refine ⟨M2, r, ?_⟩
  unfold bb_L_law_2347
  simp only [gd_of (gdk 1 rfl (by decide) hi hx), gd_of (gdk 2 rfl (by decide) hi hx), gd_of (gdk 3 rfl (by decide) hi hx), gd_of (gdk 4 rfl (by decide) hi hx), gd_of (gdk 5 rfl (by decide) hi hx), e1, e2, bd2_some, bd_some, eq_self, if_true, ltv_eq, n6]
theorem st_2360 {xL : Nat} {xs : Nat → Int32} {k23 : Int32 → Mm → Option Unit} {i : Nat} {M : Mm} (hi : i + 6 ≤ xL) (hx : xL ≤ 390) (h : Rel M) : ∃ M', Rel M' ∧ bb_L_law_2360 xL xs k23 (nI i) M = k23 (nI (i + 6)) M' := by
  have n6 : nI i + 6 = nI (i + 6) := nI_add i 6
  obtain ⟨v, M1, w, M2, e1, e2, e3, e4, r⟩ := c_bars ((xs (ix (nI i + (1 : Int32))))) ((xs (ix (nI i + (2 : Int32))))) ((xs (ix (nI i + (3 : Int32))))) h
  refine ⟨M2, r, ?_⟩
  unfold bb_L_law_2360
  simp only [gd_of (gdk 1 rfl (by decide) hi hx), gd_of (gdk 2 rfl (by decide) hi hx), gd_of (gdk 3 rfl (by decide) hi hx), gd_of (gdk 4 rfl (by decide) hi hx), gd_of (gdk 5 rfl (by decide) hi hx), e1, e2, bd2_some, bd_some, f_X10_thrown_67, bb_X10_thrown_67_0, e3, eq_self, if_true, ltv_eq, n6]
  by_cases hv : v = 0
  · rw [if_pos hv, if_pos (e4 hv)]
  · rw [if_neg hv]
theorem st_2439 {xL : Nat} {xs : Nat → Int32} {k23 : Int32 → Mm → Option Unit} {i : Nat} {M : Mm} (hi : i + 6 ≤ xL) (hx : xL ≤ 390) (h : Rel M) : ∃ M', Rel M' ∧ bb_L_law_2439 xL xs k23 (nI i) M = k23 (nI (i + 6)) M' := by
  have n6 : nI i + 6 = nI (i + 6) := nI_add i 6
  by_cases z : xs (ix (nI i + (3 : Int32))) = 0
  · obtain ⟨v, M1, w, M2, e1, e2, e3, e4, r⟩ := c_nearest (((shL ((xs (ix (nI i + (1 : Int32)))).toInt64) (32 : Int32)) ||| (((xs (ix (nI i + (2 : Int32)))).toInt64) &&& (4294967295 : Int64)))) ((0 : Int32)) ((xs (ix (nI i + (4 : Int32))))) h
    refine ⟨M2, r, ?_⟩
    unfold bb_L_law_2439
    simp only [gd_of (gdk 1 rfl (by decide) hi hx), gd_of (gdk 2 rfl (by decide) hi hx), gd_of (gdk 3 rfl (by decide) hi hx), gd_of (gdk 4 rfl (by decide) hi hx), gd_of (gdk 5 rfl (by decide) hi hx), if_pos z, e1, e2, bd2_some, bd_some, f_X10_thrown_67, bb_X10_thrown_67_0, e3, eq_self, if_true, ltv_eq, n6]
    by_cases hv : v = 0
    · rw [if_pos hv, if_pos (e4 hv)]
    · rw [if_neg hv]
  · obtain ⟨v, M1, w, M2, e1, e2, e3, e4, r⟩ := c_nearest (((shL ((xs (ix (nI i + (1 : Int32)))).toInt64) (32 : Int32)) ||| (((xs (ix (nI i + (2 : Int32)))).toInt64) &&& (4294967295 : Int64)))) ((1 : Int32)) ((xs (ix (nI i + (4 : Int32))))) h
    refine ⟨M2, r, ?_⟩
    unfold bb_L_law_2439
    simp only [gd_of (gdk 1 rfl (by decide) hi hx), gd_of (gdk 2 rfl (by decide) hi hx), gd_of (gdk 3 rfl (by decide) hi hx), gd_of (gdk 4 rfl (by decide) hi hx), gd_of (gdk 5 rfl (by decide) hi hx), if_neg z, e1, e2, bd2_some, bd_some, f_X10_thrown_67, bb_X10_thrown_67_0, e3, eq_self, if_true, ltv_eq, n6]
    by_cases hv : v = 0
    · rw [if_pos hv, if_pos (e4 hv)]
    · rw [if_neg hv]
theorem st_2567 {xL : Nat} {xs : Nat → Int32} {k23 : Int32 → Mm → Option Unit} {i : Nat} {M : Mm} (hi : i + 6 ≤ xL) (hx : xL ≤ 390) (h : Rel M) : ∃ M', Rel M' ∧ bb_L_law_2567 xL xs k23 (nI i) M = k23 (nI (i + 6)) M' := by
  have n6 : nI i + 6 = nI (i + 6) := nI_add i 6
  by_cases z : xs (ix (nI i + (1 : Int32))) = 0
  · obtain ⟨v, M1, w, M2, e1, e2, e3, e4, r⟩ := c_originals ((0 : Int32)) ((xs (ix (nI i + (2 : Int32))))) h
    refine ⟨M2, r, ?_⟩
    unfold bb_L_law_2567
    simp only [gd_of (gdk 1 rfl (by decide) hi hx), gd_of (gdk 2 rfl (by decide) hi hx), gd_of (gdk 3 rfl (by decide) hi hx), gd_of (gdk 4 rfl (by decide) hi hx), gd_of (gdk 5 rfl (by decide) hi hx), if_pos z, e1, e2, bd2_some, bd_some, f_X10_thrown_67, bb_X10_thrown_67_0, e3, eq_self, if_true, ltv_eq, n6]
    by_cases hv : v = 0
    · rw [if_pos hv, if_pos (e4 hv)]
    · rw [if_neg hv]
  · obtain ⟨v, M1, w, M2, e1, e2, e3, e4, r⟩ := c_originals ((1 : Int32)) ((xs (ix (nI i + (2 : Int32))))) h
    refine ⟨M2, r, ?_⟩
    unfold bb_L_law_2567
    simp only [gd_of (gdk 1 rfl (by decide) hi hx), gd_of (gdk 2 rfl (by decide) hi hx), gd_of (gdk 3 rfl (by decide) hi hx), gd_of (gdk 4 rfl (by decide) hi hx), gd_of (gdk 5 rfl (by decide) hi hx), if_neg z, e1, e2, bd2_some, bd_some, f_X10_thrown_67, bb_X10_thrown_67_0, e3, eq_self, if_true, ltv_eq, n6]
    by_cases hv : v = 0
    · rw [if_pos hv, if_pos (e4 hv)]
    · rw [if_neg hv]
theorem st_2651 {xL : Nat} {xs : Nat → Int32} {k23 : Int32 → Mm → Option Unit} {i : Nat} {M : Mm} (hi : i + 6 ≤ xL) (hx : xL ≤ 390) (h : Rel M) : ∃ M', Rel M' ∧ bb_L_law_2651 xL xs k23 (nI i) M = k23 (nI (i + 6)) M' := by
  have n6 : nI i + 6 = nI (i + 6) := nI_add i 6
  by_cases z : xs (ix (nI i + (3 : Int32))) = 0
  · obtain ⟨v, M1, w, M2, e1, e2, e3, e4, r⟩ := c_fount ((xs (ix (nI i + (1 : Int32))))) ((xs (ix (nI i + (2 : Int32))))) ((0 : Int32)) h
    refine ⟨M2, r, ?_⟩
    unfold bb_L_law_2651
    simp only [gd_of (gdk 1 rfl (by decide) hi hx), gd_of (gdk 2 rfl (by decide) hi hx), gd_of (gdk 3 rfl (by decide) hi hx), gd_of (gdk 4 rfl (by decide) hi hx), gd_of (gdk 5 rfl (by decide) hi hx), if_pos z, e1, e2, bd2_some, bd_some, f_X10_thrown_67, bb_X10_thrown_67_0, e3, eq_self, if_true, ltv_eq, n6]
    by_cases hv : v = 0
    · rw [if_pos hv, if_pos (e4 hv)]
    · rw [if_neg hv]
  · obtain ⟨v, M1, w, M2, e1, e2, e3, e4, r⟩ := c_fount ((xs (ix (nI i + (1 : Int32))))) ((xs (ix (nI i + (2 : Int32))))) ((1 : Int32)) h
    refine ⟨M2, r, ?_⟩
    unfold bb_L_law_2651
    simp only [gd_of (gdk 1 rfl (by decide) hi hx), gd_of (gdk 2 rfl (by decide) hi hx), gd_of (gdk 3 rfl (by decide) hi hx), gd_of (gdk 4 rfl (by decide) hi hx), gd_of (gdk 5 rfl (by decide) hi hx), if_neg z, e1, e2, bd2_some, bd_some, f_X10_thrown_67, bb_X10_thrown_67_0, e3, eq_self, if_true, ltv_eq, n6]
    by_cases hv : v = 0
    · rw [if_pos hv, if_pos (e4 hv)]
    · rw [if_neg hv]
theorem st_2747 {xL : Nat} {xs : Nat → Int32} {k23 : Int32 → Mm → Option Unit} {i : Nat} {M : Mm} (hi : i + 6 ≤ xL) (hx : xL ≤ 390) (h : Rel M) : ∃ M', Rel M' ∧ bb_L_law_2747 xL xs k23 (nI i) M = k23 (nI (i + 6)) M' := by
  have n6 : nI i + 6 = nI (i + 6) := nI_add i 6
  obtain ⟨v, M1, M2, e1, e2, r⟩ := c_image  h
  refine ⟨M2, r, ?_⟩
  unfold bb_L_law_2747
  simp only [gd_of (gdk 1 rfl (by decide) hi hx), gd_of (gdk 2 rfl (by decide) hi hx), gd_of (gdk 3 rfl (by decide) hi hx), gd_of (gdk 4 rfl (by decide) hi hx), gd_of (gdk 5 rfl (by decide) hi hx), e1, e2, bd2_some, bd_some, eq_self, if_true, ltv_eq, n6]
theorem st_2760 {xL : Nat} {xs : Nat → Int32} {k23 : Int32 → Mm → Option Unit} {i : Nat} {M : Mm} (hi : i + 6 ≤ xL) (hx : xL ≤ 390) (h : Rel M) : ∃ M', Rel M' ∧ bb_L_law_2760 xL xs k23 (nI i) M = k23 (nI (i + 6)) M' := by
  have n6 : nI i + 6 = nI (i + 6) := nI_add i 6
  obtain ⟨v, M1, M2, e1, e2, r⟩ := c_restore  h
  refine ⟨M2, r, ?_⟩
  unfold bb_L_law_2760
  simp only [gd_of (gdk 1 rfl (by decide) hi hx), gd_of (gdk 2 rfl (by decide) hi hx), gd_of (gdk 3 rfl (by decide) hi hx), gd_of (gdk 4 rfl (by decide) hi hx), gd_of (gdk 5 rfl (by decide) hi hx), e1, e2, bd2_some, bd_some, eq_self, if_true, ltv_eq, n6]
theorem st_2773 {xL : Nat} {xs : Nat → Int32} {k23 : Int32 → Mm → Option Unit} {i : Nat} {M : Mm} (hi : i + 6 ≤ xL) (hx : xL ≤ 390) (h : Rel M) : ∃ M', Rel M' ∧ bb_L_law_2773 xL xs k23 (nI i) M = k23 (nI (i + 6)) M' := by
  have n6 : nI i + 6 = nI (i + 6) := nI_add i 6
  obtain ⟨v, M2, e1, e2, r⟩ := c_count ((xs (ix (nI i + (1 : Int32))))) h
  refine ⟨M2, r, ?_⟩
  unfold bb_L_law_2773
  simp only [gd_of (gdk 1 rfl (by decide) hi hx), gd_of (gdk 2 rfl (by decide) hi hx), gd_of (gdk 3 rfl (by decide) hi hx), gd_of (gdk 4 rfl (by decide) hi hx), gd_of (gdk 5 rfl (by decide) hi hx), e1, e2, bd2_some, bd_some, eq_self, if_true, ltv_eq, n6]
theorem st_23 {xL : Nat} {xs : Nat → Int32} {k23 : Int32 → Mm → Option Unit} {i : Nat} {M : Mm} (hi : i + 6 ≤ xL) (hx : xL ≤ 390) (h : Rel M) : ∃ M', Rel M' ∧ bb_L_law_23 xL xs k23 (nI i) M = k23 (nI (i + 6)) M' := by
  unfold bb_L_law_23
  rw [show Int32.ofNat xL - 6 = nI (xL - 6) from nI_sub (b := 6) (by omega), if_neg (nI_nlt (by omega) (by omega)), gd_of (inb_nI (by omega) (by omega))]
  by_cases c0 : xs (ix (nI i)) &&& 63 = 0
  · rw [if_pos c0]
    exact st_220 hi hx h
  rw [if_neg c0]
  by_cases c1 : xs (ix (nI i)) &&& 63 = 1
  · rw [if_pos c1]
    exact st_293 hi hx h
  rw [if_neg c1]
  by_cases c2 : xs (ix (nI i)) &&& 63 = 2
  · rw [if_pos c2]
    exact st_349 hi hx h
  rw [if_neg c2]
  by_cases c3 : xs (ix (nI i)) &&& 63 = 3
  · rw [if_pos c3]
    exact st_362 hi hx h
  rw [if_neg c3]
  by_cases c4 : xs (ix (nI i)) &&& 63 = 4
  · rw [if_pos c4]
    exact st_418 hi hx h
  rw [if_neg c4]
  by_cases c5 : xs (ix (nI i)) &&& 63 = 5
  · rw [if_pos c5]
    exact st_485 hi hx h
  rw [if_neg c5]
  by_cases c6 : xs (ix (nI i)) &&& 63 = 6
  · rw [if_pos c6]
    exact st_553 hi hx h
  rw [if_neg c6]
  by_cases c7 : xs (ix (nI i)) &&& 63 = 7
  · rw [if_pos c7]
    exact st_608 hi hx h
  rw [if_neg c7]
  by_cases c8 : xs (ix (nI i)) &&& 63 = 8
  · rw [if_pos c8]
    exact st_666 hi hx h
  rw [if_neg c8]
  by_cases c9 : xs (ix (nI i)) &&& 63 = 9
  · rw [if_pos c9]
    exact st_762 hi hx h
  rw [if_neg c9]
  by_cases c10 : xs (ix (nI i)) &&& 63 = 10
  · rw [if_pos c10]
    exact st_858 hi hx h
  rw [if_neg c10]
  by_cases c11 : xs (ix (nI i)) &&& 63 = 11
  · rw [if_pos c11]
    exact st_954 hi hx h
  rw [if_neg c11]
  by_cases c12 : xs (ix (nI i)) &&& 63 = 12
  · rw [if_pos c12]
    exact st_1022 hi hx h
  rw [if_neg c12]
  by_cases c13 : xs (ix (nI i)) &&& 63 = 13
  · rw [if_pos c13]
    exact st_1077 hi hx h
  rw [if_neg c13]
  by_cases c14 : xs (ix (nI i)) &&& 63 = 14
  · rw [if_pos c14]
    exact st_1113 hi hx h
  rw [if_neg c14]
  by_cases c15 : xs (ix (nI i)) &&& 63 = 15
  · rw [if_pos c15]
    exact st_1169 hi hx h
  rw [if_neg c15]
  by_cases c16 : xs (ix (nI i)) &&& 63 = 16
  · rw [if_pos c16]
    exact st_1249 hi hx h
  rw [if_neg c16]
  by_cases c17 : xs (ix (nI i)) &&& 63 = 17
  · rw [if_pos c17]
    exact st_1263 hi hx h
  rw [if_neg c17]
  by_cases c18 : xs (ix (nI i)) &&& 63 = 18
  · rw [if_pos c18]
    exact st_1319 hi hx h
  rw [if_neg c18]
  by_cases c19 : xs (ix (nI i)) &&& 63 = 19
  · rw [if_pos c19]
    exact st_1375 hi hx h
  rw [if_neg c19]
  by_cases c20 : xs (ix (nI i)) &&& 63 = 20
  · rw [if_pos c20]
    exact st_1455 hi hx h
  rw [if_neg c20]
  by_cases c21 : xs (ix (nI i)) &&& 63 = 21
  · rw [if_pos c21]
    exact st_1468 hi hx h
  rw [if_neg c21]
  by_cases c22 : xs (ix (nI i)) &&& 63 = 22
  · rw [if_pos c22]
    exact st_1536 hi hx h
  rw [if_neg c22]
  by_cases c23 : xs (ix (nI i)) &&& 63 = 23
  · rw [if_pos c23]
    exact st_1615 hi hx h
  rw [if_neg c23]
  by_cases c24 : xs (ix (nI i)) &&& 63 = 24
  · rw [if_pos c24]
    exact st_1707 hi hx h
  rw [if_neg c24]
  by_cases c25 : xs (ix (nI i)) &&& 63 = 25
  · rw [if_pos c25]
    exact st_1775 hi hx h
  rw [if_neg c25]
  by_cases c26 : xs (ix (nI i)) &&& 63 = 26
  · rw [if_pos c26]
    exact st_1855 hi hx h
  rw [if_neg c26]
  by_cases c27 : xs (ix (nI i)) &&& 63 = 27
  · rw [if_pos c27]
    exact st_1923 hi hx h
  rw [if_neg c27]
  by_cases c28 : xs (ix (nI i)) &&& 63 = 28
  · rw [if_pos c28]
    exact st_1979 hi hx h
  rw [if_neg c28]
  by_cases c29 : xs (ix (nI i)) &&& 63 = 29
  · rw [if_pos c29]
    exact st_2035 hi hx h
  rw [if_neg c29]
  by_cases c30 : xs (ix (nI i)) &&& 63 = 30
  · rw [if_pos c30]
    exact st_2123 hi hx h
  rw [if_neg c30]
  by_cases c31 : xs (ix (nI i)) &&& 63 = 31
  · rw [if_pos c31]
    exact st_2238 hi hx h
  rw [if_neg c31]
  by_cases c32 : xs (ix (nI i)) &&& 63 = 32
  · rw [if_pos c32]
    exact st_2334 hi hx h
  rw [if_neg c32]
  by_cases c33 : xs (ix (nI i)) &&& 63 = 33
  · rw [if_pos c33]
    exact st_2347 hi hx h
  rw [if_neg c33]
  by_cases c34 : xs (ix (nI i)) &&& 63 = 34
  · rw [if_pos c34]
    exact st_2360 hi hx h
  rw [if_neg c34]
  by_cases c35 : xs (ix (nI i)) &&& 63 = 35
  · rw [if_pos c35]
    exact st_2439 hi hx h
  rw [if_neg c35]
  by_cases c36 : xs (ix (nI i)) &&& 63 = 36
  · rw [if_pos c36]
    exact st_2567 hi hx h
  rw [if_neg c36]
  by_cases c37 : xs (ix (nI i)) &&& 63 = 37
  · rw [if_pos c37]
    exact st_2651 hi hx h
  rw [if_neg c37]
  by_cases c38 : xs (ix (nI i)) &&& 63 = 38
  · rw [if_pos c38]
    exact st_2747 hi hx h
  rw [if_neg c38]
  by_cases c39 : xs (ix (nI i)) &&& 63 = 39
  · rw [if_pos c39]
    exact st_2760 hi hx h
  rw [if_neg c39]
  by_cases c40 : xs (ix (nI i)) &&& 63 = 40
  · rw [if_pos c40]
    exact st_2773 hi hx h
  rw [if_neg c40]
  rw [ltv_eq, show nI i + 6 = nI (i + 6) from nI_add i 6]
  exact ⟨M, h, rfl⟩
theorem law_end : ∀ x, x < 6 → ∀ i, i < 7 → nI x - 6 < nI i := by decide +kernel
theorem law_ok {xL : Nat} {xs : Nat → Int32} (hx : xL ≤ 384) : ∀ (n i : Nat) (M : Mm), i ≤ xL → xL < i + 6 * n → Rel M → b_law xL xs n (nI i) M = some () := by
  intro n
  induction n with
  | zero =>
    intro i M h1 h2
    omega
  | succ n ih =>
    intro i M h1 h2 h
    show bb_L_law_23 xL xs (b_law xL xs n) (nI i) M = some ()
    by_cases c : i + 6 ≤ xL
    · obtain ⟨M', r, e⟩ := st_23 (k23 := b_law xL xs n) (xs := xs) c (by omega) h
      rw [e]
      exact ih (i + 6) M' c (by omega) r
    · unfold bb_L_law_23
      rw [if_pos]
      by_cases z : xL < 6
      · exact law_end xL z i (by omega)
      · rw [show Int32.ofNat xL - 6 = nI (xL - 6) from nI_sub (b := 6) (by omega)]
        exact nI_lt (by omega) (by omega)
