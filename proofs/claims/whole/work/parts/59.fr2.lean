theorem z_bb_X4_turnsInto_45_29 {k_29 : Int32 → Int64 → Int64 → Int32 → Mm → Option Mm} {x3 : Int32} {x4 : Int64} {x6 : Int64} {x8 : Int32} {M : Mm} {M' : Mm} (hk_29 : ∀ (y0 : Int32) (y1 : Int64) (y2 : Int64) (y3 : Int32) (N : Mm) (N' : Mm), k_29 y0 y1 y2 y3 N = some N' → Fr [(45, 999)] N N') (h : bb_X4_turnsInto_45_29 k_29 x3 x4 x6 x8 M = some M') : Fr [(45, 999)] M M' := by
  unfold bb_X4_turnsInto_45_29 at h
  rcases ite_ex h with ⟨hc, h⟩ | ⟨hc, h⟩
  · cases h
    exact Fr.refl
  · obtain ⟨v_4, _, h⟩ := bd_ex h
    obtain ⟨hg0, h⟩ := gd_ex h
    obtain ⟨M_6, he, h⟩ := ltv_ex h
    refine Fr.tr (M1 := M_6) (by rw [he]; exact Fr.wJa rfl) ?_
    obtain ⟨v_8, _, h⟩ := bd_ex h
    obtain ⟨hg1, h⟩ := gd_ex h
    obtain ⟨M_10, he, h⟩ := ltv_ex h
    refine Fr.tr (M1 := M_10) (by rw [he]; exact Fr.wJa rfl) ?_
    obtain ⟨v_12, _, h⟩ := bd_ex h
    obtain ⟨v_14, _, h⟩ := bd_ex h
    obtain ⟨x8_15, _, h⟩ := ltv_ex h
    exact hk_29 _ _ _ _ _ _ h
theorem z_b_X4_turnsInto_45_29  : ∀ (n : Nat) (y0 : Int32) (y1 : Int64) (y2 : Int64) (y3 : Int32) (M : Mm) (M' : Mm), b_X4_turnsInto_45_29 n y0 y1 y2 y3 M = some M' → Fr [(45, 999)] M M' := by
  intro n
  induction n with
  | zero =>
    intro y0 y1 y2 y3 M M' h
    have h : (none : Option _) = some _ := h
    cases h
  | succ n ih =>
    intro y0 y1 y2 y3 M M' h
    exact z_bb_X4_turnsInto_45_29 (fun y0 y1 y2 y3 M M' h => ih y0 y1 y2 y3 M M' h) h
theorem z_bb_X4_turnsInto_45_0 {x0 : Int64} {x3 : Int32} {M : Mm} {M' : Mm}  (h : bb_X4_turnsInto_45_0 x0 x3 M = some M') : Fr [(45, 999)] M M' := by
  unfold bb_X4_turnsInto_45_0 at h
  rcases ite_ex h with ⟨hc, h⟩ | ⟨hc, h⟩
  · cases h
    exact Fr.refl
  · rcases ite_ex h with ⟨hc, h⟩ | ⟨hc, h⟩
    · obtain ⟨v_2, _, h⟩ := bd_ex h
      exact z_b_X4_turnsInto_45_29 _ _ _ _ _ _ _ h
    · cases h
      exact Fr.refl
theorem z_f_X4_turnsInto_45 {x0 : Int64} {x3 : Int32} {M : Mm} {M' : Mm}  (h : f_X4_turnsInto_45 x0 x3 M = some M') : Fr [(45, 999)] M M' := by
  unfold f_X4_turnsInto_45 at h
  exact z_bb_X4_turnsInto_45_0 h
theorem z_bb_X5_lay_44_50_105 {k_70 : Int32 → Int32 → Int32 → Int32 → Mm → Option Mm} {x2 : Int32} {x3 : Int32} {x4 : Int32} {x5 : Int32} {M : Mm} {M' : Mm} (hk_70 : ∀ (y0 : Int32) (y1 : Int32) (y2 : Int32) (y3 : Int32) (N : Mm) (N' : Mm), k_70 y0 y1 y2 y3 N = some N' → Fr [(44, 5), (45, 999), (46, 999)] N N') (h : bb_X5_lay_44_50_105 k_70 x2 x3 x4 x5 M = some M') : Fr [(44, 5), (45, 999), (46, 999)] M M' := by
  unfold bb_X5_lay_44_50_105 at h
  obtain ⟨hg0, h⟩ := gd_ex h
  obtain ⟨hg1, h⟩ := gd_ex h
  obtain ⟨M_16, he, h⟩ := ltv_ex h
  refine Fr.tr (M1 := M_16) (by rw [he]; exact Fr.wIa rfl) ?_
  obtain ⟨x5_17, _, h⟩ := ltv_ex h
  exact hk_70 _ _ _ _ _ _ h
theorem z_bb_X5_lay_44_50_70 {k_50 : Int32 → Int32 → Int32 → Mm → Option Mm} {k_70 : Int32 → Int32 → Int32 → Int32 → Mm → Option Mm} {x2 : Int32} {x3 : Int32} {x4 : Int32} {x5 : Int32} {M : Mm} {M' : Mm} (hk_50 : ∀ (y0 : Int32) (y1 : Int32) (y2 : Int32) (N : Mm) (N' : Mm), k_50 y0 y1 y2 N = some N' → Fr [(44, 5), (45, 999), (46, 999)] N N') (hk_70 : ∀ (y0 : Int32) (y1 : Int32) (y2 : Int32) (y3 : Int32) (N : Mm) (N' : Mm), k_70 y0 y1 y2 y3 N = some N' → Fr [(44, 5), (45, 999), (46, 999)] N N') (h : bb_X5_lay_44_50_70 k_50 k_70 x2 x3 x4 x5 M = some M') : Fr [(44, 5), (45, 999), (46, 999)] M M' := by
  unfold bb_X5_lay_44_50_70 at h
  rcases ite_ex h with ⟨hc, h⟩ | ⟨hc, h⟩
  · obtain ⟨x4_8, _, h⟩ := ltv_ex h
    exact hk_50 _ _ _ _ _ h
  · obtain ⟨v_10, _, h⟩ := bd_ex h
    rcases ite_ex h with ⟨hc, h⟩ | ⟨hc, h⟩
    · obtain ⟨v_12, _, h⟩ := bd_ex h
      rcases ite_ex h with ⟨hc, h⟩ | ⟨hc, h⟩
      · obtain ⟨x5_13, _, h⟩ := ltv_ex h
        exact hk_70 _ _ _ _ _ _ h
      · exact z_bb_X5_lay_44_50_105 hk_70 h
    · exact z_bb_X5_lay_44_50_105 hk_70 h
theorem z_b_X5_lay_44_50_70 {k_50 : Int32 → Int32 → Int32 → Mm → Option Mm} (hk_50 : ∀ (y0 : Int32) (y1 : Int32) (y2 : Int32) (N : Mm) (N' : Mm), k_50 y0 y1 y2 N = some N' → Fr [(44, 5), (45, 999), (46, 999)] N N') : ∀ (n : Nat) (y0 : Int32) (y1 : Int32) (y2 : Int32) (y3 : Int32) (M : Mm) (M' : Mm), b_X5_lay_44_50_70 k_50 n y0 y1 y2 y3 M = some M' → Fr [(44, 5), (45, 999), (46, 999)] M M' := by
  intro n
  induction n with
  | zero =>
    intro y0 y1 y2 y3 M M' h
    have h : (none : Option _) = some _ := h
    cases h
  | succ n ih =>
    intro y0 y1 y2 y3 M M' h
    exact z_bb_X5_lay_44_50_70 hk_50 (fun y0 y1 y2 y3 M M' h => ih y0 y1 y2 y3 M M' h) h
theorem z_bb_X5_lay_44_50_50 {k_50 : Int32 → Int32 → Int32 → Mm → Option Mm} {x2 : Int32} {x3 : Int32} {x4 : Int32} {M : Mm} {M' : Mm} (hk_50 : ∀ (y0 : Int32) (y1 : Int32) (y2 : Int32) (N : Mm) (N' : Mm), k_50 y0 y1 y2 N = some N' → Fr [(44, 5), (45, 999), (46, 999)] N N') (h : bb_X5_lay_44_50_50 k_50 x2 x3 x4 M = some M') : Fr [(44, 5), (45, 999), (46, 999)] M M' := by
  unfold bb_X5_lay_44_50_50 at h
  rcases ite_ex h with ⟨hc, h⟩ | ⟨hc, h⟩
  · cases h
    exact Fr.refl
  · obtain ⟨hg0, h⟩ := gd_ex h
    obtain ⟨M_7, he, h⟩ := ltv_ex h
    refine Fr.tr (M1 := M_7) (by rw [he]; exact Fr.wIa rfl) ?_
    exact z_b_X5_lay_44_50_70 hk_50 _ _ _ _ _ _ _ h
theorem z_b_X5_lay_44_50_50  : ∀ (n : Nat) (y0 : Int32) (y1 : Int32) (y2 : Int32) (M : Mm) (M' : Mm), b_X5_lay_44_50_50 n y0 y1 y2 M = some M' → Fr [(44, 5), (45, 999), (46, 999)] M M' := by
  intro n
  induction n with
  | zero =>
    intro y0 y1 y2 M M' h
    have h : (none : Option _) = some _ := h
    cases h
  | succ n ih =>
    intro y0 y1 y2 M M' h
    exact z_bb_X5_lay_44_50_50 (fun y0 y1 y2 M M' h => ih y0 y1 y2 M M' h) h
theorem z_bb_X5_lay_44_50_16 {k_16 : Int32 → Int32 → Int32 → Mm → Option Mm} {x2 : Int32} {x3 : Int32} {x4 : Int32} {M : Mm} {M' : Mm} (hk_16 : ∀ (y0 : Int32) (y1 : Int32) (y2 : Int32) (N : Mm) (N' : Mm), k_16 y0 y1 y2 N = some N' → Fr [(44, 5), (45, 999), (46, 999)] N N') (h : bb_X5_lay_44_50_16 k_16 x2 x3 x4 M = some M') : Fr [(44, 5), (45, 999), (46, 999)] M M' := by
  unfold bb_X5_lay_44_50_16 at h
  rcases ite_ex h with ⟨hc, h⟩ | ⟨hc, h⟩
  · exact z_b_X5_lay_44_50_50 _ _ _ _ _ _ h
  · obtain ⟨hg0, h⟩ := gd_ex h
    obtain ⟨M_4, hc, h⟩ := bd_ex h
    refine Fr.tr (Fr.sub (z_f_X4_turnsInto_45 hc) rfl) ?_
    obtain ⟨x4_5, _, h⟩ := ltv_ex h
    exact hk_16 _ _ _ _ _ h
theorem z_b_X5_lay_44_50_16  : ∀ (n : Nat) (y0 : Int32) (y1 : Int32) (y2 : Int32) (M : Mm) (M' : Mm), b_X5_lay_44_50_16 n y0 y1 y2 M = some M' → Fr [(44, 5), (45, 999), (46, 999)] M M' := by
  intro n
  induction n with
  | zero =>
    intro y0 y1 y2 M M' h
    have h : (none : Option _) = some _ := h
    cases h
  | succ n ih =>
    intro y0 y1 y2 M M' h
    exact z_bb_X5_lay_44_50_16 (fun y0 y1 y2 M M' h => ih y0 y1 y2 M M' h) h
theorem z_bb_X5_lay_44_50_0 {x2 : Int32} {x3 : Int32} {M : Mm} {M' : Mm}  (h : bb_X5_lay_44_50_0 x2 x3 M = some M') : Fr [(44, 5), (45, 999), (46, 999)] M M' := by
  unfold bb_X5_lay_44_50_0 at h
  obtain ⟨M_1, he, h⟩ := ltv_ex h
  refine Fr.tr (M1 := M_1) (by rw [he]; exact Fr.wrI rfl) ?_
  exact z_b_X5_lay_44_50_16 _ _ _ _ _ _ h
theorem z_f_X5_lay_44_50 {x2 : Int32} {x3 : Int32} {M : Mm} {M' : Mm}  (h : f_X5_lay_44_50 x2 x3 M = some M') : Fr [(44, 5), (45, 999), (46, 999)] M M' := by
  unfold f_X5_lay_44_50 at h
  exact z_bb_X5_lay_44_50_0 h
theorem z_bb_X5_countSet_44_88 {x1 : Int32} {x3 : Int32} {x4 : Int32} {M : Mm} {M' : Mm}  (h : bb_X5_countSet_44_88 x1 x3 x4 M = some M') : Fr [(48, 999), (49, 999)] M M' := by
  unfold bb_X5_countSet_44_88 at h
  obtain ⟨hg0, h⟩ := gd_ex h
  obtain ⟨M_8, he, h⟩ := ltv_ex h
  refine Fr.tr (M1 := M_8) (by rw [he]; exact Fr.wIa rfl) ?_
  obtain ⟨hg1, h⟩ := gd_ex h
  obtain ⟨M_10, he, h⟩ := ltv_ex h
  refine Fr.tr (M1 := M_10) (by rw [he]; exact Fr.wIa rfl) ?_
  cases h
  exact Fr.refl
theorem z_bb_X5_countSet_44_66 {k_12 : Int32 → Int32 → Int32 → Int32 → Int32 → Int32 → Mm → Option Mm} {x1 : Int32} {x2 : Int32} {x3 : Int32} {x4 : Int32} {x5 : Int32} {x6 : Int32} {M : Mm} {M' : Mm} (hk_12 : ∀ (y0 : Int32) (y1 : Int32) (y2 : Int32) (y3 : Int32) (y4 : Int32) (y5 : Int32) (N : Mm) (N' : Mm), k_12 y0 y1 y2 y3 y4 y5 N = some N' → Fr [(48, 999), (49, 999)] N N') (h : bb_X5_countSet_44_66 k_12 x1 x2 x3 x4 x5 x6 M = some M') : Fr [(48, 999), (49, 999)] M M' := by
  unfold bb_X5_countSet_44_66 at h
  rcases ite_ex h with ⟨hc, h⟩ | ⟨hc, h⟩
  · exact z_bb_X5_countSet_44_88 h
  · obtain ⟨x5_11, _, h⟩ := ltv_ex h
    obtain ⟨x6_12, _, h⟩ := ltv_ex h
    exact hk_12 _ _ _ _ _ _ _ _ h
theorem z_bb_X5_countSet_44_12 {k_12 : Int32 → Int32 → Int32 → Int32 → Int32 → Int32 → Mm → Option Mm} {x1 : Int32} {x2 : Int32} {x3 : Int32} {x4 : Int32} {x5 : Int32} {x6 : Int32} {M : Mm} {M' : Mm} (hk_12 : ∀ (y0 : Int32) (y1 : Int32) (y2 : Int32) (y3 : Int32) (y4 : Int32) (y5 : Int32) (N : Mm) (N' : Mm), k_12 y0 y1 y2 y3 y4 y5 N = some N' → Fr [(48, 999), (49, 999)] N N') (h : bb_X5_countSet_44_12 k_12 x1 x2 x3 x4 x5 x6 M = some M') : Fr [(48, 999), (49, 999)] M M' := by
  unfold bb_X5_countSet_44_12 at h
  rcases ite_ex h with ⟨hc, h⟩ | ⟨hc, h⟩
  · exact z_bb_X5_countSet_44_88 h
  · obtain ⟨x7_1, _, h⟩ := ltv_ex h
    obtain ⟨hg0, h⟩ := gd_ex h
    rcases ite_ex h with ⟨hc, h⟩ | ⟨hc, h⟩
    · exact z_bb_X5_countSet_44_66 hk_12 h
    · obtain ⟨hg1, h⟩ := gd_ex h
      obtain ⟨x3_4, _, h⟩ := ltv_ex h
      obtain ⟨hg2, h⟩ := gd_ex h
      obtain ⟨x4_6, _, h⟩ := ltv_ex h
      exact z_bb_X5_countSet_44_66 hk_12 h
theorem z_b_X5_countSet_44_12  : ∀ (n : Nat) (y0 : Int32) (y1 : Int32) (y2 : Int32) (y3 : Int32) (y4 : Int32) (y5 : Int32) (M : Mm) (M' : Mm), b_X5_countSet_44_12 n y0 y1 y2 y3 y4 y5 M = some M' → Fr [(48, 999), (49, 999)] M M' := by
  intro n
  induction n with
  | zero =>
    intro y0 y1 y2 y3 y4 y5 M M' h
    have h : (none : Option _) = some _ := h
    cases h
  | succ n ih =>
    intro y0 y1 y2 y3 y4 y5 M M' h
    exact z_bb_X5_countSet_44_12 (fun y0 y1 y2 y3 y4 y5 M M' h => ih y0 y1 y2 y3 y4 y5 M M' h) h
theorem z_bb_X5_countSet_44_0 {x1 : Int32} {x2 : Int32} {M : Mm} {M' : Mm}  (h : bb_X5_countSet_44_0 x1 x2 M = some M') : Fr [(48, 999), (49, 999)] M M' := by
  unfold bb_X5_countSet_44_0 at h
  exact z_b_X5_countSet_44_12 _ _ _ _ _ _ _ _ _ h
theorem z_f_X5_countSet_44 {x1 : Int32} {x2 : Int32} {M : Mm} {M' : Mm}  (h : f_X5_countSet_44 x1 x2 M = some M') : Fr [(48, 999), (49, 999)] M M' := by
  unfold f_X5_countSet_44 at h
  exact z_bb_X5_countSet_44_0 h
theorem z_bb_X5_countSets_44_91 {k_23 : Int32 → Mm → Option Mm} {x1 : Int32} {x3 : Int32} {s1 : Int32} {M : Mm} {M' : Mm} (hk_23 : ∀ (y0 : Int32) (N : Mm) (N' : Mm), k_23 y0 N = some N' → Fr [(47, 999), (48, 999), (49, 999)] N N') (h : bb_X5_countSets_44_91 k_23 x1 x3 s1 M = some M') : Fr [(47, 999), (48, 999), (49, 999)] M M' := by
  unfold bb_X5_countSets_44_91 at h
  obtain ⟨hg0, h⟩ := gd_ex h
  obtain ⟨M_17, he, h⟩ := ltv_ex h
  refine Fr.tr (M1 := M_17) (by rw [he]; exact Fr.wIa rfl) ?_
  obtain ⟨M_19, hc, h⟩ := bd_ex h
  refine Fr.tr (Fr.sub (z_f_X5_countSet_44 hc) rfl) ?_
  obtain ⟨x1_20, _, h⟩ := ltv_ex h
  exact hk_23 _ _ _ h
theorem z_bb_X5_countSets_44_23 {k_23 : Int32 → Mm → Option Mm} {x1 : Int32} {M : Mm} {M' : Mm} (hk_23 : ∀ (y0 : Int32) (N : Mm) (N' : Mm), k_23 y0 N = some N' → Fr [(47, 999), (48, 999), (49, 999)] N N') (h : bb_X5_countSets_44_23 k_23 x1 M = some M') : Fr [(47, 999), (48, 999), (49, 999)] M M' := by
  unfold bb_X5_countSets_44_23 at h
  obtain ⟨v_5, _, h⟩ := bd_ex h
  rcases ite_ex h with ⟨hc, h⟩ | ⟨hc, h⟩
  · cases h
    exact Fr.refl
  · rcases ite_ex h with ⟨hc, h⟩ | ⟨hc, h⟩
    · cases h
      exact Fr.refl
    · obtain ⟨v_7, _, h⟩ := bd_ex h
      obtain ⟨x3_8, _, h⟩ := ltv_ex h
      rcases ite_ex h with ⟨hc, h⟩ | ⟨hc, h⟩
      · exact z_bb_X5_countSets_44_91 hk_23 h
      · obtain ⟨hg0, h⟩ := gd_ex h
        rcases ite_ex h with ⟨hc, h⟩ | ⟨hc, h⟩
        · exact z_bb_X5_countSets_44_91 hk_23 h
        · obtain ⟨hg1, h⟩ := gd_ex h
          rcases ite_ex h with ⟨hc, h⟩ | ⟨hc, h⟩
          · obtain ⟨hg2, h⟩ := gd_ex h
            obtain ⟨M_12, he, h⟩ := ltv_ex h
            refine Fr.tr (M1 := M_12) (by rw [he]; exact Fr.wIa rfl) ?_
            obtain ⟨M_14, hc, h⟩ := bd_ex h
            refine Fr.tr (Fr.sub (z_f_X5_countSet_44 hc) rfl) ?_
            obtain ⟨x1_15, _, h⟩ := ltv_ex h
            exact hk_23 _ _ _ h
          · exact z_bb_X5_countSets_44_91 hk_23 h
theorem z_b_X5_countSets_44_23  : ∀ (n : Nat) (y0 : Int32) (M : Mm) (M' : Mm), b_X5_countSets_44_23 n y0 M = some M' → Fr [(47, 999), (48, 999), (49, 999)] M M' := by
  intro n
  induction n with
  | zero =>
    intro y0 M M' h
    have h : (none : Option _) = some _ := h
    cases h
  | succ n ih =>
    intro y0 M M' h
    exact z_bb_X5_countSets_44_23 (fun y0 M M' h => ih y0 M M' h) h
theorem z_bb_X5_countSets_44_0 {M : Mm} {M' : Mm}  (h : bb_X5_countSets_44_0 M = some M') : Fr [(47, 999), (48, 999), (49, 999)] M M' := by
  unfold bb_X5_countSets_44_0 at h
  obtain ⟨M_1, he, h⟩ := ltv_ex h
  refine Fr.tr (M1 := M_1) (by rw [he]; exact Fr.wIa rfl) ?_
  obtain ⟨M_2, he, h⟩ := ltv_ex h
  refine Fr.tr (M1 := M_2) (by rw [he]; exact Fr.wIa rfl) ?_
  obtain ⟨M_3, he, h⟩ := ltv_ex h
  refine Fr.tr (M1 := M_3) (by rw [he]; exact Fr.wIa rfl) ?_
  exact z_b_X5_countSets_44_23 _ _ _ _ h
theorem z_f_X5_countSets_44 {M : Mm} {M' : Mm}  (h : f_X5_countSets_44 M = some M') : Fr [(47, 999), (48, 999), (49, 999)] M M' := by
  unfold f_X5_countSets_44 at h
  exact z_bb_X5_countSets_44_0 h
theorem z_bb_X5_ways_44_0 {M : Mm} {v : Int32} {M' : Mm}  (h : bb_X5_ways_44_0 M = some (v, M')) : Fr [(47, 999), (48, 999), (49, 999)] M M' := by
  unfold bb_X5_ways_44_0 at h
  obtain ⟨M_2, hc, h⟩ := bd_ex h
  refine Fr.tr (Fr.sub (z_f_X5_countSets_44 hc) rfl) ?_
  obtain ⟨v_4, _, h⟩ := bd_ex h
  obtain ⟨hg0, h⟩ := gd_ex h
  cases h
  exact Fr.refl
theorem z_f_X5_ways_44 {M : Mm} {v : Int32} {M' : Mm}  (h : f_X5_ways_44 M = some (v, M')) : Fr [(47, 999), (48, 999), (49, 999)] M M' := by
  unfold f_X5_ways_44 at h
  exact z_bb_X5_ways_44_0 h
theorem z_bb_X5_fewest_44_0 {M : Mm} {v : Int32} {M' : Mm}  (h : bb_X5_fewest_44_0 M = some (v, M')) : Fr [(47, 999), (48, 999), (49, 999)] M M' := by
  unfold bb_X5_fewest_44_0 at h
  obtain ⟨M_2, hc, h⟩ := bd_ex h
  refine Fr.tr (Fr.sub (z_f_X5_countSets_44 hc) rfl) ?_
  obtain ⟨v_4, _, h⟩ := bd_ex h
  obtain ⟨hg0, h⟩ := gd_ex h
  cases h
  exact Fr.refl
theorem z_f_X5_fewest_44 {M : Mm} {v : Int32} {M' : Mm}  (h : f_X5_fewest_44 M = some (v, M')) : Fr [(47, 999), (48, 999), (49, 999)] M M' := by
  unfold f_X5_fewest_44 at h
  exact z_bb_X5_fewest_44_0 h
theorem z_bb_X9_feed_0_0 {x1 : Int32} {x2 : Int32} {x3 : Int32} {x4 : Int32} {x5 : Int32} {M : Mm} {v : Int32} {M' : Mm}  (h : bb_X9_feed_0_0 x1 x2 x3 x4 x5 M = some (v, M')) : Fr [(1, 2), (2, 999)] M M' := by
  unfold bb_X9_feed_0_0 at h
  rcases ite_ex h with ⟨hc, h⟩ | ⟨hc, h⟩
  · obtain ⟨M_2, hc, h⟩ := bd_ex h
    refine Fr.tr (Fr.sub (z_f_X8_putNumber_1 hc) rfl) ?_
    obtain ⟨M_4, hc, h⟩ := bd_ex h
    refine Fr.tr (Fr.sub (z_f_X8_putNumber_1 hc) rfl) ?_
    obtain ⟨M_6, hc, h⟩ := bd_ex h
    refine Fr.tr (Fr.sub (z_f_X8_putNumber_1 hc) rfl) ?_
    obtain ⟨M_8, hc, h⟩ := bd_ex h
    refine Fr.tr (Fr.sub (z_f_X8_putNumber_1 hc) rfl) ?_
    obtain ⟨M_10, hc, h⟩ := bd_ex h
    refine Fr.tr (Fr.sub (z_f_X8_putNumber_1 hc) rfl) ?_
    cases h
    exact Fr.refl
  · cases h
    exact Fr.refl
theorem z_f_X9_feed_0 {x1 : Int32} {x2 : Int32} {x3 : Int32} {x4 : Int32} {x5 : Int32} {M : Mm} {v : Int32} {M' : Mm}  (h : f_X9_feed_0 x1 x2 x3 x4 x5 M = some (v, M')) : Fr [(1, 2), (2, 999)] M M' := by
  unfold f_X9_feed_0 at h
  exact z_bb_X9_feed_0_0 h
theorem z_bb_X9_clear_0_0 {M : Mm} {v : Int32} {M' : Mm}  (h : bb_X9_clear_0_0 M = some (v, M')) : Fr [(50, 5)] M M' := by
  unfold bb_X9_clear_0_0 at h
  obtain ⟨x1_1, _, h⟩ := ltv_ex h
  obtain ⟨M_2, he, h⟩ := ltv_ex h
  refine Fr.tr (M1 := M_2) (by rw [he]; exact Fr.wrI rfl) ?_
  cases h
  exact Fr.refl
theorem z_f_X9_clear_0 {M : Mm} {v : Int32} {M' : Mm}  (h : f_X9_clear_0 M = some (v, M')) : Fr [(50, 5)] M M' := by
  unfold f_X9_clear_0 at h
  exact z_bb_X9_clear_0_0 h
theorem z_bb_X9_left_0_0 {M : Mm} {v : Int32} {M' : Mm}  (h : bb_X9_left_0_0 M = some (v, M')) : Fr [(20, 999), (21, 999), (22, 999), (23, 999)] M M' := by
  unfold bb_X9_left_0_0 at h
  obtain ⟨v_2, _, h⟩ := bd_ex h
  rcases ite_ex h with ⟨hc, h⟩ | ⟨hc, h⟩
  · cases h
    exact Fr.refl
  · obtain ⟨v_4, _, h⟩ := bd_ex h
    rcases ite_ex h with ⟨hc, h⟩ | ⟨hc, h⟩
    · cases h
      exact Fr.refl
    · obtain ⟨hg0, h⟩ := gd_ex h
      obtain ⟨x1_6, _, h⟩ := ltv_ex h
      obtain ⟨M_8, hc, h⟩ := bd_ex h
      refine Fr.tr (Fr.sub (z_f_X3_lay_19 hc) rfl) ?_
      obtain ⟨v_10, _, h⟩ := bd_ex h
      obtain ⟨v_12, _, h⟩ := bd_ex h
      obtain ⟨v_15, M_14, hc, h⟩ := bd2_ex h
      refine Fr.tr (Fr.sub (z_f_X3_fewest_19 hc) rfl) ?_
      cases h
      exact Fr.refl
theorem z_f_X9_left_0 {M : Mm} {v : Int32} {M' : Mm}  (h : f_X9_left_0 M = some (v, M')) : Fr [(20, 999), (21, 999), (22, 999), (23, 999)] M M' := by
  unfold f_X9_left_0 at h
  exact z_bb_X9_left_0_0 h
theorem z_bb_X9_image_0_0 {M : Mm} {v : Int32} {M' : Mm}  (h : bb_X9_image_0_0 M = some (v, M')) : Fr [(0, 10), (55, 0), (55, 1), (55, 2), (55, 5), (55, 7), (56, 999), (57, 999), (58, 999), (59, 0), (59, 1), (59, 2), (59, 5), (59, 7), (60, 999), (61, 999), (62, 999), (63, 0), (63, 1), (63, 2), (63, 5), (63, 7), (64, 999), (65, 999), (66, 999)] M M' := by
  unfold bb_X9_image_0_0 at h
  rcases ite_ex h with ⟨hc, h⟩ | ⟨hc, h⟩
  · cases h
    exact Fr.refl
  · rcases ite_ex h with ⟨hc, h⟩ | ⟨hc, h⟩
    · rcases ite_ex h with ⟨hc, h⟩ | ⟨hc, h⟩
      · obtain ⟨M_2, hc, h⟩ := bd_ex h
        refine Fr.tr (Fr.sub (z_f_X0_copyOf_55_50 hc) rfl) ?_
        obtain ⟨M_3, he, h⟩ := ltv_ex h
        refine Fr.tr (M1 := M_3) (by rw [he]; exact Fr.wrI rfl) ?_
        cases h
        exact Fr.refl
      · rcases ite_ex h with ⟨hc, h⟩ | ⟨hc, h⟩
        · obtain ⟨M_5, hc, h⟩ := bd_ex h
          refine Fr.tr (Fr.sub (z_f_X0_copyOf_59_50 hc) rfl) ?_
          obtain ⟨M_6, he, h⟩ := ltv_ex h
          refine Fr.tr (M1 := M_6) (by rw [he]; exact Fr.wrI rfl) ?_
          cases h
          exact Fr.refl
        · rcases ite_ex h with ⟨hc, h⟩ | ⟨hc, h⟩
          · obtain ⟨M_8, hc, h⟩ := bd_ex h
            refine Fr.tr (Fr.sub (z_f_X0_copyOf_63_50 hc) rfl) ?_
            obtain ⟨M_9, he, h⟩ := ltv_ex h
            refine Fr.tr (M1 := M_9) (by rw [he]; exact Fr.wrI rfl) ?_
            cases h
            exact Fr.refl
          · cases h
    · cases h
      exact Fr.refl
theorem z_f_X9_image_0 {M : Mm} {v : Int32} {M' : Mm}  (h : f_X9_image_0 M = some (v, M')) : Fr [(0, 10), (55, 0), (55, 1), (55, 2), (55, 5), (55, 7), (56, 999), (57, 999), (58, 999), (59, 0), (59, 1), (59, 2), (59, 5), (59, 7), (60, 999), (61, 999), (62, 999), (63, 0), (63, 1), (63, 2), (63, 5), (63, 7), (64, 999), (65, 999), (66, 999)] M M' := by
  unfold f_X9_image_0 at h
  exact z_bb_X9_image_0_0 h
theorem z_bb_X9_restore_0_0 {M : Mm} {v : Int32} {M' : Mm}  (h : bb_X9_restore_0_0 M = some (v, M')) : Fr [(0, 10), (50, 0), (50, 1), (50, 2), (50, 5), (50, 7), (51, 999), (52, 999), (53, 999)] M M' := by
  unfold bb_X9_restore_0_0 at h
  rcases ite_ex h with ⟨hc, h⟩ | ⟨hc, h⟩
  · cases h
    exact Fr.refl
  · rcases ite_ex h with ⟨hc, h⟩ | ⟨hc, h⟩
    · obtain ⟨M_1, he, h⟩ := ltv_ex h
      refine Fr.tr (M1 := M_1) (by rw [he]; exact Fr.wrI rfl) ?_
      rcases ite_ex h with ⟨hc, h⟩ | ⟨hc, h⟩
      · obtain ⟨M_3, hc, h⟩ := bd_ex h
        refine Fr.tr (Fr.sub (z_f_X0_copyOf_50_55 hc) rfl) ?_
        cases h
        exact Fr.refl
      · rcases ite_ex h with ⟨hc, h⟩ | ⟨hc, h⟩
        · obtain ⟨M_5, hc, h⟩ := bd_ex h
          refine Fr.tr (Fr.sub (z_f_X0_copyOf_50_59 hc) rfl) ?_
          cases h
          exact Fr.refl
        · rcases ite_ex h with ⟨hc, h⟩ | ⟨hc, h⟩
          · obtain ⟨M_7, hc, h⟩ := bd_ex h
            refine Fr.tr (Fr.sub (z_f_X0_copyOf_50_63 hc) rfl) ?_
            cases h
            exact Fr.refl
          · cases h
    · cases h
      exact Fr.refl
theorem z_f_X9_restore_0 {M : Mm} {v : Int32} {M' : Mm}  (h : f_X9_restore_0 M = some (v, M')) : Fr [(0, 10), (50, 0), (50, 1), (50, 2), (50, 5), (50, 7), (51, 999), (52, 999), (53, 999)] M M' := by
  unfold f_X9_restore_0 at h
  exact z_bb_X9_restore_0_0 h
theorem z_bb_X9_linesOf_0_0 {x1 : Int32} {M : Mm} {v : Int64} {M' : Mm}  (h : bb_X9_linesOf_0_0 x1 M = some (v, M')) : Fr [(13, 999), (20, 999), (21, 999), (22, 999), (23, 999)] M M' := by
  unfold bb_X9_linesOf_0_0 at h
  rcases ite_ex h with ⟨hc, h⟩ | ⟨hc, h⟩
  · cases h
    exact Fr.refl
  · rcases ite_ex h with ⟨hc, h⟩ | ⟨hc, h⟩
    · obtain ⟨hg0, h⟩ := gd_ex h
      obtain ⟨x2_2, _, h⟩ := ltv_ex h
      rcases ite_ex h with ⟨hc, h⟩ | ⟨hc, h⟩
      · obtain ⟨hg1, h⟩ := gd_ex h
        obtain ⟨x4_4, _, h⟩ := ltv_ex h
        obtain ⟨M_6, hc, h⟩ := bd_ex h
        refine Fr.tr (Fr.sub (z_f_X3_lay_19 hc) rfl) ?_
        obtain ⟨v_8, _, h⟩ := bd_ex h
        obtain ⟨v_11, M_10, hc, h⟩ := bd2_ex h
        refine Fr.tr (Fr.sub (z_f_X3_leastSet_19 hc) rfl) ?_
        obtain ⟨hg2, h⟩ := gd_ex h
        obtain ⟨M_13, he, h⟩ := ltv_ex h
        refine Fr.tr (M1 := M_13) (by rw [he]; exact Fr.wJa rfl) ?_
        cases h
        exact Fr.refl
      · cases h
        exact Fr.refl
    · cases h
      exact Fr.refl
theorem z_f_X9_linesOf_0 {x1 : Int32} {M : Mm} {v : Int64} {M' : Mm}  (h : f_X9_linesOf_0 x1 M = some (v, M')) : Fr [(13, 999), (20, 999), (21, 999), (22, 999), (23, 999)] M M' := by
  unfold f_X9_linesOf_0 at h
  exact z_bb_X9_linesOf_0_0 h
theorem z_bb_X9_sheet_0_0 {x1 : Int32} {M : Mm} {v : Int32} {M' : Mm}  (h : bb_X9_sheet_0_0 x1 M = some (v, M')) : Fr [(0, 2), (0, 10), (1, 2), (1, 3), (1, 4), (1, 5), (1, 6), (3, 7), (3, 8), (3, 9), (4, 999), (5, 999), (6, 999), (7, 999), (8, 999), (11, 7), (11, 8), (11, 9), (12, 999), (13, 999), (14, 999), (15, 999), (16, 999), (17, 999), (18, 999), (24, 5), (25, 999), (29, 999), (34, 0), (34, 1), (35, 999), (36, 999), (37, 999), (38, 999), (43, 999), (50, 0), (50, 1), (50, 2), (50, 5), (50, 7)] M M' := by
  unfold bb_X9_sheet_0_0 at h
  obtain ⟨_v, _, h⟩ := bd_ex h
  obtain ⟨v_5, M_4, hc, h⟩ := bd2_ex h
  refine Fr.tr (Fr.sub (z_f_X8_readFirst_1 hc) rfl) ?_
  obtain ⟨M_6, he, h⟩ := ltv_ex h
  refine Fr.tr (M1 := M_6) (by rw [he]; exact Fr.wrI rfl) ?_
  rcases ite_ex h with ⟨hc, h⟩ | ⟨hc, h⟩
  · obtain ⟨M_8, hc, h⟩ := bd_ex h
    refine Fr.tr (Fr.sub (z_f_X7_copyOf_11_3 hc) rfl) ?_
    obtain ⟨M_10, hc, h⟩ := bd_ex h
    refine Fr.tr (Fr.sub (z_f_X7_findHollows_11 hc) rfl) ?_
    obtain ⟨M_12, hc, h⟩ := bd_ex h
    refine Fr.tr (Fr.sub (z_f_X1_lay_24_11 hc) rfl) ?_
    obtain ⟨M_14, hc, h⟩ := bd_ex h
    refine Fr.tr (Fr.sub (z_f_X6_lay_34_11 hc) rfl) ?_
    obtain ⟨M_16, hc, h⟩ := bd_ex h
    refine Fr.tr (Fr.sub (z_f_X0_wipe_50 hc) rfl) ?_
    obtain ⟨M_17, he, h⟩ := ltv_ex h
    refine Fr.tr (M1 := M_17) (by rw [he]; exact Fr.wrI rfl) ?_
    cases h
    exact Fr.refl
  · cases h
    exact Fr.refl
theorem z_f_X9_sheet_0 {x1 : Int32} {M : Mm} {v : Int32} {M' : Mm}  (h : f_X9_sheet_0 x1 M = some (v, M')) : Fr [(0, 2), (0, 10), (1, 2), (1, 3), (1, 4), (1, 5), (1, 6), (3, 7), (3, 8), (3, 9), (4, 999), (5, 999), (6, 999), (7, 999), (8, 999), (11, 7), (11, 8), (11, 9), (12, 999), (13, 999), (14, 999), (15, 999), (16, 999), (17, 999), (18, 999), (24, 5), (25, 999), (29, 999), (34, 0), (34, 1), (35, 999), (36, 999), (37, 999), (38, 999), (43, 999), (50, 0), (50, 1), (50, 2), (50, 5), (50, 7)] M M' := by
  unfold f_X9_sheet_0 at h
  exact z_bb_X9_sheet_0_0 h
theorem z_bb_X9_punches_0_0 {x1 : Int32} {x2 : Int32} {x3 : Int32} {M : Mm} {v : Int32} {M' : Mm}  (h : bb_X9_punches_0_0 x1 x2 x3 M = some (v, M')) : Fr [(27, 999), (28, 999), (29, 999)] M M' := by
  unfold bb_X9_punches_0_0 at h
  obtain ⟨_v, _, h⟩ := bd_ex h
  obtain ⟨_v, _, h⟩ := bd_ex h
  obtain ⟨v_7, M_6, hc, h⟩ := bd2_ex h
  refine Fr.tr (Fr.sub (z_f_X1_leastSet_24 hc) rfl) ?_
  rcases ite_ex h with ⟨hc, h⟩ | ⟨hc, h⟩
  · obtain ⟨v_9, _, h⟩ := bd_ex h
    cases h
    exact Fr.refl
  · cases h
    exact Fr.refl
theorem z_f_X9_punches_0 {x1 : Int32} {x2 : Int32} {x3 : Int32} {M : Mm} {v : Int32} {M' : Mm}  (h : f_X9_punches_0 x1 x2 x3 M = some (v, M')) : Fr [(27, 999), (28, 999), (29, 999)] M M' := by
  unfold f_X9_punches_0 at h
  exact z_bb_X9_punches_0_0 h
theorem z_bb_X9_served_0_0 {x1 : Int32} {x2 : Int32} {x3 : Int32} {M : Mm} {v : Int32} {M' : Mm}  (h : bb_X9_served_0_0 x1 x2 x3 M = some (v, M')) : Fr [(27, 999), (28, 999), (29, 999)] M M' := by
  unfold bb_X9_served_0_0 at h
  obtain ⟨_v, _, h⟩ := bd_ex h
  obtain ⟨_v, _, h⟩ := bd_ex h
  obtain ⟨v_7, M_6, hc, h⟩ := bd2_ex h
  refine Fr.tr (Fr.sub (z_f_X1_serverOf_24 hc) rfl) ?_
  cases h
  exact Fr.refl
theorem z_f_X9_served_0 {x1 : Int32} {x2 : Int32} {x3 : Int32} {M : Mm} {v : Int32} {M' : Mm}  (h : f_X9_served_0 x1 x2 x3 M = some (v, M')) : Fr [(27, 999), (28, 999), (29, 999)] M M' := by
  unfold f_X9_served_0 at h
  exact z_bb_X9_served_0_0 h
theorem z_bb_X9_bites_0_0 {x1 : Int32} {x2 : Int32} {M : Mm} {v : Int32} {M' : Mm}  (h : bb_X9_bites_0_0 x1 x2 M = some (v, M')) : Fr [(13, 999), (20, 999), (21, 999), (22, 999), (23, 999)] M M' := by
  unfold bb_X9_bites_0_0 at h
  obtain ⟨_v, _, h⟩ := bd_ex h
  obtain ⟨_v, _, h⟩ := bd_ex h
  obtain ⟨v_7, M_6, hc, h⟩ := bd2_ex h
  refine Fr.tr (Fr.sub (z_f_X9_linesOf_0 hc) rfl) ?_
  obtain ⟨v_9, _, h⟩ := bd_ex h
  cases h
  exact Fr.refl
theorem z_f_X9_bites_0 {x1 : Int32} {x2 : Int32} {M : Mm} {v : Int32} {M' : Mm}  (h : f_X9_bites_0 x1 x2 M = some (v, M')) : Fr [(13, 999), (20, 999), (21, 999), (22, 999), (23, 999)] M M' := by
  unfold f_X9_bites_0 at h
  exact z_bb_X9_bites_0_0 h
theorem z_bb_X9_lines_0_0 {x1 : Int32} {M : Mm} {v : Int64} {M' : Mm}  (h : bb_X9_lines_0_0 x1 M = some (v, M')) : Fr [(13, 999), (20, 999), (21, 999), (22, 999), (23, 999)] M M' := by
  unfold bb_X9_lines_0_0 at h
  obtain ⟨_v, _, h⟩ := bd_ex h
  obtain ⟨v_5, M_4, hc, h⟩ := bd2_ex h
  refine Fr.tr (Fr.sub (z_f_X9_linesOf_0 hc) rfl) ?_
  cases h
  exact Fr.refl
theorem z_f_X9_lines_0 {x1 : Int32} {M : Mm} {v : Int64} {M' : Mm}  (h : f_X9_lines_0 x1 M = some (v, M')) : Fr [(13, 999), (20, 999), (21, 999), (22, 999), (23, 999)] M M' := by
  unfold f_X9_lines_0 at h
  exact z_bb_X9_lines_0_0 h
theorem z_bb_X9_begin_0_0 {x1 : Int32} {M : Mm} {M' : Mm}  (h : bb_X9_begin_0_0 x1 M = some M') : Fr [(50, 0), (50, 1), (50, 2)] M M' := by
  unfold bb_X9_begin_0_0 at h
  obtain ⟨_v, _, h⟩ := bd_ex h
  obtain ⟨M_4, hc, h⟩ := bd_ex h
  refine Fr.tr (Fr.sub (z_f_X0_takePunch_50 hc) rfl) ?_
  cases h
  exact Fr.refl
theorem z_f_X9_begin_0 {x1 : Int32} {M : Mm} {M' : Mm}  (h : f_X9_begin_0 x1 M = some M') : Fr [(50, 0), (50, 1), (50, 2)] M M' := by
  unfold f_X9_begin_0 at h
  exact z_bb_X9_begin_0_0 h
theorem z_bb_X9_blow_0_0 {x1 : Int32} {M : Mm} {v : Int32} {M' : Mm}  (h : bb_X9_blow_0_0 x1 M = some (v, M')) : Fr [(50, 1), (50, 2)] M M' := by
  unfold bb_X9_blow_0_0 at h
  obtain ⟨_v, _, h⟩ := bd_ex h
  obtain ⟨v_4, _, h⟩ := bd_ex h
  rcases ite_ex h with ⟨hc, h⟩ | ⟨hc, h⟩
  · cases h
    exact Fr.refl
  · obtain ⟨hg0, h⟩ := gd_ex h
    rcases ite_ex h with ⟨hc, h⟩ | ⟨hc, h⟩
    · obtain ⟨hg1, h⟩ := gd_ex h
      obtain ⟨v_9, M_8, hc, h⟩ := bd2_ex h
      refine Fr.tr (Fr.sub (z_f_X0_strike_50 hc) rfl) ?_
      cases h
      exact Fr.refl
    · cases h
      exact Fr.refl
theorem z_f_X9_blow_0 {x1 : Int32} {M : Mm} {v : Int32} {M' : Mm}  (h : f_X9_blow_0 x1 M = some (v, M')) : Fr [(50, 1), (50, 2)] M M' := by
  unfold f_X9_blow_0 at h
  exact z_bb_X9_blow_0_0 h
theorem z_bb_X9_file_0_0 {x1 : Int32} {x2 : Int32} {x3 : Int32} {M : Mm} {v : Int32} {M' : Mm}  (h : bb_X9_file_0_0 x1 x2 x3 M = some (v, M')) : Fr [(50, 1)] M M' := by
  unfold bb_X9_file_0_0 at h
  obtain ⟨_v, _, h⟩ := bd_ex h
  obtain ⟨v_4, _, h⟩ := bd_ex h
  rcases ite_ex h with ⟨hc, h⟩ | ⟨hc, h⟩
  · cases h
    exact Fr.refl
  · obtain ⟨v_6, _, h⟩ := bd_ex h
    obtain ⟨v_9, M_8, hc, h⟩ := bd2_ex h
    refine Fr.tr (Fr.sub (z_f_X0_take_50 hc) rfl) ?_
    cases h
    exact Fr.refl
theorem z_f_X9_file_0 {x1 : Int32} {x2 : Int32} {x3 : Int32} {M : Mm} {v : Int32} {M' : Mm}  (h : f_X9_file_0 x1 x2 x3 M = some (v, M')) : Fr [(50, 1)] M M' := by
  unfold f_X9_file_0 at h
  exact z_bb_X9_file_0_0 h
theorem z_bb_X9_addBlow_0_0 {x1 : Int32} {M : Mm} {v : Int32} {M' : Mm}  (h : bb_X9_addBlow_0_0 x1 M = some (v, M')) : Fr [(50, 5), (51, 999), (52, 999)] M M' := by
  unfold bb_X9_addBlow_0_0 at h
  obtain ⟨_v, _, h⟩ := bd_ex h
  obtain ⟨v_5, M_4, hc, h⟩ := bd2_ex h
  refine Fr.tr (Fr.sub (z_f_X0_addAct_50 hc) rfl) ?_
  cases h
  exact Fr.refl
theorem z_f_X9_addBlow_0 {x1 : Int32} {M : Mm} {v : Int32} {M' : Mm}  (h : f_X9_addBlow_0 x1 M = some (v, M')) : Fr [(50, 5), (51, 999), (52, 999)] M M' := by
  unfold f_X9_addBlow_0 at h
  exact z_bb_X9_addBlow_0_0 h
theorem z_bb_X9_addFile_0_0 {x1 : Int32} {x2 : Int32} {x3 : Int32} {M : Mm} {v : Int32} {M' : Mm}  (h : bb_X9_addFile_0_0 x1 x2 x3 M = some (v, M')) : Fr [(50, 5), (51, 999), (52, 999)] M M' := by
  unfold bb_X9_addFile_0_0 at h
  obtain ⟨_v, _, h⟩ := bd_ex h
  obtain ⟨v_4, _, h⟩ := bd_ex h
  obtain ⟨v_7, M_6, hc, h⟩ := bd2_ex h
  refine Fr.tr (Fr.sub (z_f_X0_addAct_50 hc) rfl) ?_
  cases h
  exact Fr.refl
theorem z_f_X9_addFile_0 {x1 : Int32} {x2 : Int32} {x3 : Int32} {M : Mm} {v : Int32} {M' : Mm}  (h : f_X9_addFile_0 x1 x2 x3 M = some (v, M')) : Fr [(50, 5), (51, 999), (52, 999)] M M' := by
  unfold f_X9_addFile_0 at h
  exact z_bb_X9_addFile_0_0 h
theorem z_bb_X9_layCutting_0_0 {x1 : Int32} {x2 : Int32} {x3 : Int32} {M : Mm} {M' : Mm}  (h : bb_X9_layCutting_0_0 x1 x2 x3 M = some M') : Fr [(13, 999), (20, 999), (21, 999), (22, 999), (23, 999), (30, 3), (30, 4), (30, 5), (31, 999), (32, 999), (33, 999)] M M' := by
  unfold bb_X9_layCutting_0_0 at h
  obtain ⟨_v, _, h⟩ := bd_ex h
  obtain ⟨_v, _, h⟩ := bd_ex h
  obtain ⟨_v, _, h⟩ := bd_ex h
  obtain ⟨v_9, M_8, hc, h⟩ := bd2_ex h
  refine Fr.tr (Fr.sub (z_f_X9_linesOf_0 hc) rfl) ?_
  obtain ⟨hg0, h⟩ := gd_ex h
  obtain ⟨M_12, hc, h⟩ := bd_ex h
  refine Fr.tr (Fr.sub (z_f_X3_lay_19 hc) rfl) ?_
  obtain ⟨M_14, hc, h⟩ := bd_ex h
  refine Fr.tr (Fr.sub (z_f_X2_lay_30_11 hc) rfl) ?_
  obtain ⟨M_16, hc, h⟩ := bd_ex h
  refine Fr.tr (Fr.sub (z_f_X2_layBites_30_19 hc) rfl) ?_
  cases h
  exact Fr.refl
theorem z_f_X9_layCutting_0 {x1 : Int32} {x2 : Int32} {x3 : Int32} {M : Mm} {M' : Mm}  (h : f_X9_layCutting_0 x1 x2 x3 M = some M') : Fr [(13, 999), (20, 999), (21, 999), (22, 999), (23, 999), (30, 3), (30, 4), (30, 5), (31, 999), (32, 999), (33, 999)] M M' := by
  unfold f_X9_layCutting_0 at h
  exact z_bb_X9_layCutting_0_0 h
theorem z_bb_X9_hours_0_0 {x1 : Int32} {x2 : Int32} {x3 : Int32} {M : Mm} {v : Int64} {M' : Mm}  (h : bb_X9_hours_0_0 x1 x2 x3 M = some (v, M')) : Fr [(13, 999), (20, 999), (21, 999), (22, 999), (23, 999), (30, 3), (30, 4), (30, 5), (31, 999), (32, 999), (33, 999)] M M' := by
  unfold bb_X9_hours_0_0 at h
  obtain ⟨M_2, hc, h⟩ := bd_ex h
  refine Fr.tr (Fr.sub (z_f_X9_layCutting_0 hc) rfl) ?_
  obtain ⟨v_4, _, h⟩ := bd_ex h
  cases h
  exact Fr.refl
theorem z_f_X9_hours_0 {x1 : Int32} {x2 : Int32} {x3 : Int32} {M : Mm} {v : Int64} {M' : Mm}  (h : f_X9_hours_0 x1 x2 x3 M = some (v, M')) : Fr [(13, 999), (20, 999), (21, 999), (22, 999), (23, 999), (30, 3), (30, 4), (30, 5), (31, 999), (32, 999), (33, 999)] M M' := by
  unfold f_X9_hours_0 at h
  exact z_bb_X9_hours_0_0 h
theorem z_bb_X9_order_0_0 {x1 : Int32} {x2 : Int32} {x3 : Int32} {x4 : Int32} {M : Mm} {v : Int32} {M' : Mm}  (h : bb_X9_order_0_0 x1 x2 x3 x4 M = some (v, M')) : Fr [(13, 999), (20, 999), (21, 999), (22, 999), (23, 999), (30, 3), (30, 4), (30, 5), (31, 999), (32, 999), (33, 999)] M M' := by
  unfold bb_X9_order_0_0 at h
  obtain ⟨M_2, hc, h⟩ := bd_ex h
  refine Fr.tr (Fr.sub (z_f_X9_layCutting_0 hc) rfl) ?_
  obtain ⟨v_4, _, h⟩ := bd_ex h
  cases h
  exact Fr.refl
theorem z_f_X9_order_0 {x1 : Int32} {x2 : Int32} {x3 : Int32} {x4 : Int32} {M : Mm} {v : Int32} {M' : Mm}  (h : f_X9_order_0 x1 x2 x3 x4 M = some (v, M')) : Fr [(13, 999), (20, 999), (21, 999), (22, 999), (23, 999), (30, 3), (30, 4), (30, 5), (31, 999), (32, 999), (33, 999)] M M' := by
  unfold f_X9_order_0 at h
  exact z_bb_X9_order_0_0 h
theorem z_bb_X9_uneven_0_0 {x1 : Int32} {x2 : Int32} {M : Mm} {v : Int32} {M' : Mm}  (h : bb_X9_uneven_0_0 x1 x2 M = some (v, M')) : Fr [(40, 999), (41, 999)] M M' := by
  unfold bb_X9_uneven_0_0 at h
  obtain ⟨_v, _, h⟩ := bd_ex h
  obtain ⟨_v, _, h⟩ := bd_ex h
  obtain ⟨hg0, h⟩ := gd_ex h
  obtain ⟨v_8, M_7, hc, h⟩ := bd2_ex h
  refine Fr.tr (Fr.sub (z_f_X6_unevenOf_34 hc) rfl) ?_
  cases h
  exact Fr.refl
theorem z_f_X9_uneven_0 {x1 : Int32} {x2 : Int32} {M : Mm} {v : Int32} {M' : Mm}  (h : f_X9_uneven_0 x1 x2 M = some (v, M')) : Fr [(40, 999), (41, 999)] M M' := by
  unfold f_X9_uneven_0 at h
  exact z_bb_X9_uneven_0_0 h
theorem z_bb_X9_even_0_0 {x1 : Int32} {M : Mm} {v : Int32} {M' : Mm}  (h : bb_X9_even_0_0 x1 M = some (v, M')) : Fr [(34, 11), (34, 12), (38, 999), (39, 999), (40, 999), (41, 999), (42, 999)] M M' := by
  unfold bb_X9_even_0_0 at h
  obtain ⟨_v, _, h⟩ := bd_ex h
  obtain ⟨hg0, h⟩ := gd_ex h
  obtain ⟨v_6, M_5, hc, h⟩ := bd2_ex h
  refine Fr.tr (Fr.sub (z_f_X6_evenRoom_34 hc) rfl) ?_
  cases h
  exact Fr.refl
theorem z_f_X9_even_0 {x1 : Int32} {M : Mm} {v : Int32} {M' : Mm}  (h : f_X9_even_0 x1 M = some (v, M')) : Fr [(34, 11), (34, 12), (38, 999), (39, 999), (40, 999), (41, 999), (42, 999)] M M' := by
  unfold f_X9_even_0 at h
  exact z_bb_X9_even_0_0 h
theorem z_bb_X9_print_0_0 {x1 : Int64} {M : Mm} {v : Int32} {M' : Mm}  (h : bb_X9_print_0_0 x1 M = some (v, M')) : Fr [(50, 7), (53, 999)] M M' := by
  unfold bb_X9_print_0_0 at h
  rcases ite_ex h with ⟨hc, h⟩ | ⟨hc, h⟩
  · cases h
  · obtain ⟨v_3, M_2, hc, h⟩ := bd2_ex h
    refine Fr.tr (Fr.sub (z_f_X0_addPrint_50 hc) rfl) ?_
    cases h
    exact Fr.refl
theorem z_f_X9_print_0 {x1 : Int64} {M : Mm} {v : Int32} {M' : Mm}  (h : f_X9_print_0 x1 M = some (v, M')) : Fr [(50, 7), (53, 999)] M M' := by
  unfold f_X9_print_0 at h
  exact z_bb_X9_print_0_0 h
theorem z_bb_X9_kin_0_0 {x1 : Int32} {x2 : Int32} {x3 : Int32} {x4 : Int32} {M : Mm} {v : Int32} {M' : Mm}  (h : bb_X9_kin_0_0 x1 x2 x3 x4 M = some (v, M')) : Fr [(44, 5), (45, 999), (46, 999)] M M' := by
  unfold bb_X9_kin_0_0 at h
  obtain ⟨_v, _, h⟩ := bd_ex h
  obtain ⟨_v, _, h⟩ := bd_ex h
  obtain ⟨_v, _, h⟩ := bd_ex h
  obtain ⟨M_8, hc, h⟩ := bd_ex h
  refine Fr.tr (Fr.sub (z_f_X5_lay_44_50 hc) rfl) ?_
  obtain ⟨v_10, _, h⟩ := bd_ex h
  obtain ⟨hg0, h⟩ := gd_ex h
  cases h
  exact Fr.refl
theorem z_f_X9_kin_0 {x1 : Int32} {x2 : Int32} {x3 : Int32} {x4 : Int32} {M : Mm} {v : Int32} {M' : Mm}  (h : f_X9_kin_0 x1 x2 x3 x4 M = some (v, M')) : Fr [(44, 5), (45, 999), (46, 999)] M M' := by
  unfold f_X9_kin_0 at h
  exact z_bb_X9_kin_0_0 h
theorem z_bb_X9_partings_0_0 {x1 : Int32} {x2 : Int32} {x3 : Int32} {M : Mm} {v : Int32} {M' : Mm}  (h : bb_X9_partings_0_0 x1 x2 x3 M = some (v, M')) : Fr [(44, 5), (45, 999), (46, 999), (47, 999), (48, 999), (49, 999)] M M' := by
  unfold bb_X9_partings_0_0 at h
  obtain ⟨_v, _, h⟩ := bd_ex h
  obtain ⟨_v, _, h⟩ := bd_ex h
  obtain ⟨M_6, hc, h⟩ := bd_ex h
  refine Fr.tr (Fr.sub (z_f_X5_lay_44_50 hc) rfl) ?_
  rcases ite_ex h with ⟨hc, h⟩ | ⟨hc, h⟩
  · obtain ⟨v_14, _, h⟩ := bd_ex h
    cases h
    exact Fr.refl
  · rcases ite_ex h with ⟨hc, h⟩ | ⟨hc, h⟩
    · obtain ⟨v_12, M_11, hc, h⟩ := bd2_ex h
      refine Fr.tr (Fr.sub (z_f_X5_ways_44 hc) rfl) ?_
      cases h
      exact Fr.refl
    · obtain ⟨v_9, M_8, hc, h⟩ := bd2_ex h
      refine Fr.tr (Fr.sub (z_f_X5_fewest_44 hc) rfl) ?_
      cases h
      exact Fr.refl
theorem z_f_X9_partings_0 {x1 : Int32} {x2 : Int32} {x3 : Int32} {M : Mm} {v : Int32} {M' : Mm}  (h : f_X9_partings_0 x1 x2 x3 M = some (v, M')) : Fr [(44, 5), (45, 999), (46, 999), (47, 999), (48, 999), (49, 999)] M M' := by
  unfold f_X9_partings_0 at h
  exact z_bb_X9_partings_0_0 h
theorem z_bb_X9_bars_0_0 {x1 : Int32} {x2 : Int32} {x3 : Int32} {M : Mm} {v : Int64} {M' : Mm}  (h : bb_X9_bars_0_0 x1 x2 x3 M = some (v, M')) : Fr [(13, 999), (20, 999), (21, 999), (22, 999), (23, 999), (30, 3), (30, 4), (30, 5), (31, 999), (32, 999), (33, 999)] M M' := by
  unfold bb_X9_bars_0_0 at h
  obtain ⟨M_2, hc, h⟩ := bd_ex h
  refine Fr.tr (Fr.sub (z_f_X9_layCutting_0 hc) rfl) ?_
  obtain ⟨v_4, _, h⟩ := bd_ex h
  cases h
  exact Fr.refl
theorem z_f_X9_bars_0 {x1 : Int32} {x2 : Int32} {x3 : Int32} {M : Mm} {v : Int64} {M' : Mm}  (h : f_X9_bars_0 x1 x2 x3 M = some (v, M')) : Fr [(13, 999), (20, 999), (21, 999), (22, 999), (23, 999), (30, 3), (30, 4), (30, 5), (31, 999), (32, 999), (33, 999)] M M' := by
  unfold f_X9_bars_0 at h
  exact z_bb_X9_bars_0_0 h
theorem z_bb_X9_originals_0_0 {x1 : Int32} {x2 : Int32} {M : Mm} {v : Int32} {M' : Mm}  (h : bb_X9_originals_0_0 x1 x2 M = some (v, M')) : Fr [(26, 999)] M M' := by
  unfold bb_X9_originals_0_0 at h
  obtain ⟨_v, _, h⟩ := bd_ex h
  obtain ⟨v_5, M_4, hc, h⟩ := bd2_ex h
  refine Fr.tr (Fr.sub (z_f_X1_originalLetters_24_11 hc) rfl) ?_
  rcases ite_ex h with ⟨hc, h⟩ | ⟨hc, h⟩
  · obtain ⟨v_7, _, h⟩ := bd_ex h
    cases h
    exact Fr.refl
  · cases h
    exact Fr.refl
theorem z_f_X9_originals_0 {x1 : Int32} {x2 : Int32} {M : Mm} {v : Int32} {M' : Mm}  (h : f_X9_originals_0 x1 x2 M = some (v, M')) : Fr [(26, 999)] M M' := by
  unfold f_X9_originals_0 at h
  exact z_bb_X9_originals_0_0 h
theorem z_bb_X9_fount_0_0 {x1 : Int32} {x2 : Int32} {x3 : Int32} {M : Mm} {v : Int32} {M' : Mm}  (h : bb_X9_fount_0_0 x1 x2 x3 M = some (v, M')) : Fr [(27, 999), (28, 999), (29, 999)] M M' := by
  unfold bb_X9_fount_0_0 at h
  obtain ⟨_v, _, h⟩ := bd_ex h
  obtain ⟨_v, _, h⟩ := bd_ex h
  obtain ⟨v_6, _, h⟩ := bd_ex h
  obtain ⟨v_9, M_8, hc, h⟩ := bd2_ex h
  refine Fr.tr (Fr.sub (z_f_X1_leastSet_24 hc) rfl) ?_
  obtain ⟨v_11, _, h⟩ := bd_ex h
  cases h
  exact Fr.refl
theorem z_f_X9_fount_0 {x1 : Int32} {x2 : Int32} {x3 : Int32} {M : Mm} {v : Int32} {M' : Mm}  (h : f_X9_fount_0 x1 x2 x3 M = some (v, M')) : Fr [(27, 999), (28, 999), (29, 999)] M M' := by
  unfold f_X9_fount_0 at h
  exact z_bb_X9_fount_0_0 h
