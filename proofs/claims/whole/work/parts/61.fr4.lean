theorem z_bb_X10_swaps_67_104_0 {x2 : Int32} {M : Mm} {M' : Mm}  (h : bb_X10_swaps_67_104_0 x2 M = some M') : Fr [(104, 999)] M M' := by
  unfold bb_X10_swaps_67_104_0 at h
  obtain ⟨hg0, h⟩ := gd_ex h
  obtain ⟨x3_2, _, h⟩ := ltv_ex h
  obtain ⟨hg1, h⟩ := gd_ex h
  obtain ⟨hg2, h⟩ := gd_ex h
  obtain ⟨M_5, he, h⟩ := ltv_ex h
  refine Fr.tr (M1 := M_5) (by rw [he]; exact Fr.wIa rfl) ?_
  obtain ⟨hg3, h⟩ := gd_ex h
  obtain ⟨M_7, he, h⟩ := ltv_ex h
  refine Fr.tr (M1 := M_7) (by rw [he]; exact Fr.wIa rfl) ?_
  cases h
  exact Fr.refl
theorem z_f_X10_swaps_67_104 {x2 : Int32} {M : Mm} {M' : Mm}  (h : f_X10_swaps_67_104 x2 M = some M') : Fr [(104, 999)] M M' := by
  unfold f_X10_swaps_67_104 at h
  exact z_bb_X10_swaps_67_104_0 h
theorem z_bb_X10_swaps_67_105_0 {x2 : Int32} {M : Mm} {M' : Mm}  (h : bb_X10_swaps_67_105_0 x2 M = some M') : Fr [(105, 999)] M M' := by
  unfold bb_X10_swaps_67_105_0 at h
  obtain ⟨hg0, h⟩ := gd_ex h
  obtain ⟨x3_2, _, h⟩ := ltv_ex h
  obtain ⟨hg1, h⟩ := gd_ex h
  obtain ⟨hg2, h⟩ := gd_ex h
  obtain ⟨M_5, he, h⟩ := ltv_ex h
  refine Fr.tr (M1 := M_5) (by rw [he]; exact Fr.wIa rfl) ?_
  obtain ⟨hg3, h⟩ := gd_ex h
  obtain ⟨M_7, he, h⟩ := ltv_ex h
  refine Fr.tr (M1 := M_7) (by rw [he]; exact Fr.wIa rfl) ?_
  cases h
  exact Fr.refl
theorem z_f_X10_swaps_67_105 {x2 : Int32} {M : Mm} {M' : Mm}  (h : f_X10_swaps_67_105 x2 M = some M') : Fr [(105, 999)] M M' := by
  unfold f_X10_swaps_67_105 at h
  exact z_bb_X10_swaps_67_105_0 h
theorem z_bb_X10_swaps_67_106_0 {x2 : Int32} {M : Mm} {M' : Mm}  (h : bb_X10_swaps_67_106_0 x2 M = some M') : Fr [(106, 999)] M M' := by
  unfold bb_X10_swaps_67_106_0 at h
  obtain ⟨hg0, h⟩ := gd_ex h
  obtain ⟨x3_2, _, h⟩ := ltv_ex h
  obtain ⟨hg1, h⟩ := gd_ex h
  obtain ⟨hg2, h⟩ := gd_ex h
  obtain ⟨M_5, he, h⟩ := ltv_ex h
  refine Fr.tr (M1 := M_5) (by rw [he]; exact Fr.wIa rfl) ?_
  obtain ⟨hg3, h⟩ := gd_ex h
  obtain ⟨M_7, he, h⟩ := ltv_ex h
  refine Fr.tr (M1 := M_7) (by rw [he]; exact Fr.wIa rfl) ?_
  cases h
  exact Fr.refl
theorem z_f_X10_swaps_67_106 {x2 : Int32} {M : Mm} {M' : Mm}  (h : f_X10_swaps_67_106 x2 M = some M') : Fr [(106, 999)] M M' := by
  unfold f_X10_swaps_67_106 at h
  exact z_bb_X10_swaps_67_106_0 h
theorem z_bb_X10_sorts_67_12 {k_2 : Int32 → Int32 → Mm → Option Mm} {k_12 : Int32 → Int32 → Int32 → Mm → Option Mm} {x1 : Int32} {x2 : Int32} {x3 : Int32} {M : Mm} {M' : Mm} (hk_2 : ∀ (y0 : Int32) (y1 : Int32) (N : Mm) (N' : Mm), k_2 y0 y1 N = some N' → Fr [(104, 999), (105, 999), (106, 999)] N N') (hk_12 : ∀ (y0 : Int32) (y1 : Int32) (y2 : Int32) (N : Mm) (N' : Mm), k_12 y0 y1 y2 N = some N' → Fr [(104, 999), (105, 999), (106, 999)] N N') (h : bb_X10_sorts_67_12 k_2 k_12 x1 x2 x3 M = some M') : Fr [(104, 999), (105, 999), (106, 999)] M M' := by
  unfold bb_X10_sorts_67_12 at h
  rcases ite_ex h with ⟨hc, h⟩ | ⟨hc, h⟩
  · obtain ⟨x2_1, _, h⟩ := ltv_ex h
    exact hk_2 _ _ _ _ h
  · obtain ⟨v_3, _, h⟩ := bd_ex h
    rcases ite_ex h with ⟨hc, h⟩ | ⟨hc, h⟩
    · obtain ⟨x3_11, _, h⟩ := ltv_ex h
      exact hk_12 _ _ _ _ _ h
    · obtain ⟨M_5, hc, h⟩ := bd_ex h
      refine Fr.tr (Fr.sub (z_f_X10_swaps_67_104 hc) rfl) ?_
      obtain ⟨M_7, hc, h⟩ := bd_ex h
      refine Fr.tr (Fr.sub (z_f_X10_swaps_67_105 hc) rfl) ?_
      obtain ⟨M_9, hc, h⟩ := bd_ex h
      refine Fr.tr (Fr.sub (z_f_X10_swaps_67_106 hc) rfl) ?_
      obtain ⟨x3_10, _, h⟩ := ltv_ex h
      exact hk_12 _ _ _ _ _ h
theorem z_b_X10_sorts_67_12 {k_2 : Int32 → Int32 → Mm → Option Mm} (hk_2 : ∀ (y0 : Int32) (y1 : Int32) (N : Mm) (N' : Mm), k_2 y0 y1 N = some N' → Fr [(104, 999), (105, 999), (106, 999)] N N') : ∀ (n : Nat) (y0 : Int32) (y1 : Int32) (y2 : Int32) (M : Mm) (M' : Mm), b_X10_sorts_67_12 k_2 n y0 y1 y2 M = some M' → Fr [(104, 999), (105, 999), (106, 999)] M M' := by
  intro n
  induction n with
  | zero =>
    intro y0 y1 y2 M M' h
    have h : (none : Option _) = some _ := h
    cases h
  | succ n ih =>
    intro y0 y1 y2 M M' h
    exact z_bb_X10_sorts_67_12 hk_2 (fun y0 y1 y2 M M' h => ih y0 y1 y2 M M' h) h
theorem z_bb_X10_sorts_67_2 {k_2 : Int32 → Int32 → Mm → Option Mm} {x1 : Int32} {x2 : Int32} {M : Mm} {M' : Mm} (hk_2 : ∀ (y0 : Int32) (y1 : Int32) (N : Mm) (N' : Mm), k_2 y0 y1 N = some N' → Fr [(104, 999), (105, 999), (106, 999)] N N') (h : bb_X10_sorts_67_2 k_2 x1 x2 M = some M') : Fr [(104, 999), (105, 999), (106, 999)] M M' := by
  unfold bb_X10_sorts_67_2 at h
  rcases ite_ex h with ⟨hc, h⟩ | ⟨hc, h⟩
  · cases h
    exact Fr.refl
  · exact z_b_X10_sorts_67_12 hk_2 _ _ _ _ _ _ h
theorem z_b_X10_sorts_67_2  : ∀ (n : Nat) (y0 : Int32) (y1 : Int32) (M : Mm) (M' : Mm), b_X10_sorts_67_2 n y0 y1 M = some M' → Fr [(104, 999), (105, 999), (106, 999)] M M' := by
  intro n
  induction n with
  | zero =>
    intro y0 y1 M M' h
    have h : (none : Option _) = some _ := h
    cases h
  | succ n ih =>
    intro y0 y1 M M' h
    exact z_bb_X10_sorts_67_2 (fun y0 y1 M M' h => ih y0 y1 M M' h) h
theorem z_bb_X10_sorts_67_0 {x1 : Int32} {M : Mm} {M' : Mm}  (h : bb_X10_sorts_67_0 x1 M = some M') : Fr [(104, 999), (105, 999), (106, 999)] M M' := by
  unfold bb_X10_sorts_67_0 at h
  exact z_b_X10_sorts_67_2 _ _ _ _ _ h
theorem z_f_X10_sorts_67 {x1 : Int32} {M : Mm} {M' : Mm}  (h : f_X10_sorts_67 x1 M = some M') : Fr [(104, 999), (105, 999), (106, 999)] M M' := by
  unfold f_X10_sorts_67 at h
  exact z_bb_X10_sorts_67_0 h
theorem z_bb_X10_puts_67_0 {x1 : Int32} {x2 : Int32} {x3 : Int32} {M : Mm} {M' : Mm}  (h : bb_X10_puts_67_0 x1 x2 x3 M = some M') : Fr [(67, 41), (104, 999), (105, 999), (106, 999)] M M' := by
  unfold bb_X10_puts_67_0 at h
  obtain ⟨hg0, h⟩ := gd_ex h
  obtain ⟨M_2, he, h⟩ := ltv_ex h
  refine Fr.tr (M1 := M_2) (by rw [he]; exact Fr.wIa rfl) ?_
  obtain ⟨hg1, h⟩ := gd_ex h
  obtain ⟨M_4, he, h⟩ := ltv_ex h
  refine Fr.tr (M1 := M_4) (by rw [he]; exact Fr.wIa rfl) ?_
  obtain ⟨hg2, h⟩ := gd_ex h
  obtain ⟨M_6, he, h⟩ := ltv_ex h
  refine Fr.tr (M1 := M_6) (by rw [he]; exact Fr.wIa rfl) ?_
  obtain ⟨M_7, he, h⟩ := ltv_ex h
  refine Fr.tr (M1 := M_7) (by rw [he]; exact Fr.wrI rfl) ?_
  cases h
  exact Fr.refl
theorem z_f_X10_puts_67 {x1 : Int32} {x2 : Int32} {x3 : Int32} {M : Mm} {M' : Mm}  (h : f_X10_puts_67 x1 x2 x3 M = some M') : Fr [(67, 41), (104, 999), (105, 999), (106, 999)] M M' := by
  unfold f_X10_puts_67 at h
  exact z_bb_X10_puts_67_0 h
theorem z_bb_X10_findOrder_67_118 {k_118 : Int32 → Int32 → Int32 → Int32 → Mm → Option (Int32 × Mm)} {x3 : Int32} {x4 : Int32} {x5 : Int32} {x6 : Int32} {M : Mm} {v : Int32} {M' : Mm} (hk_118 : ∀ (y0 : Int32) (y1 : Int32) (y2 : Int32) (y3 : Int32) (N : Mm) (w : Int32) (N' : Mm), k_118 y0 y1 y2 y3 N = some (w, N') → Fr [(67, 37), (67, 41), (99, 999), (100, 999), (101, 999), (102, 999), (103, 999), (104, 999), (105, 999), (106, 999)] N N') (h : bb_X10_findOrder_67_118 k_118 x3 x4 x5 x6 M = some (v, M')) : Fr [(67, 37), (67, 41), (99, 999), (100, 999), (101, 999), (102, 999), (103, 999), (104, 999), (105, 999), (106, 999)] M M' := by
  unfold bb_X10_findOrder_67_118 at h
  rcases ite_ex h with ⟨hc, h⟩ | ⟨hc, h⟩
  · obtain ⟨M_27, hc, h⟩ := bd_ex h
    refine Fr.tr (Fr.sub (z_f_X10_sorts_67 hc) rfl) ?_
    rcases ite_ex h with ⟨hc, h⟩ | ⟨hc, h⟩
    · cases h
      exact Fr.refl
    · cases h
      exact Fr.refl
  · rcases ite_ex h with ⟨hc, h⟩ | ⟨hc, h⟩
    · obtain ⟨hg0, h⟩ := gd_ex h
      obtain ⟨v_31, _, h⟩ := bd_ex h
      obtain ⟨M_33, hc, h⟩ := bd_ex h
      refine Fr.tr (Fr.sub (z_f_X10_puts_67 hc) rfl) ?_
      obtain ⟨x6_34, _, h⟩ := ltv_ex h
      exact hk_118 _ _ _ _ _ _ _ h
    · obtain ⟨x6_28, _, h⟩ := ltv_ex h
      exact hk_118 _ _ _ _ _ _ _ h
theorem z_b_X10_findOrder_67_118  : ∀ (n : Nat) (y0 : Int32) (y1 : Int32) (y2 : Int32) (y3 : Int32) (M : Mm) (v : Int32) (M' : Mm), b_X10_findOrder_67_118 n y0 y1 y2 y3 M = some (v, M') → Fr [(67, 37), (67, 41), (99, 999), (100, 999), (101, 999), (102, 999), (103, 999), (104, 999), (105, 999), (106, 999)] M M' := by
  intro n
  induction n with
  | zero =>
    intro y0 y1 y2 y3 M v M' h
    have h : (none : Option _) = some _ := h
    cases h
  | succ n ih =>
    intro y0 y1 y2 y3 M v M' h
    exact z_bb_X10_findOrder_67_118 (fun y0 y1 y2 y3 M v M' h => ih y0 y1 y2 y3 M v M' h) h
theorem z_bb_X10_findOrder_67_8 {k_8 : Int32 → Int32 → Int32 → Int32 → Mm → Option (Int32 × Mm)} {x1 : Int32} {x2 : Int32} {x3 : Int32} {x4 : Int32} {M : Mm} {v : Int32} {M' : Mm} (hk_8 : ∀ (y0 : Int32) (y1 : Int32) (y2 : Int32) (y3 : Int32) (N : Mm) (w : Int32) (N' : Mm), k_8 y0 y1 y2 y3 N = some (w, N') → Fr [(67, 37), (67, 41), (99, 999), (100, 999), (101, 999), (102, 999), (103, 999), (104, 999), (105, 999), (106, 999)] N N') (h : bb_X10_findOrder_67_8 k_8 x1 x2 x3 x4 M = some (v, M')) : Fr [(67, 37), (67, 41), (99, 999), (100, 999), (101, 999), (102, 999), (103, 999), (104, 999), (105, 999), (106, 999)] M M' := by
  unfold bb_X10_findOrder_67_8 at h
  rcases ite_ex h with ⟨hc, h⟩ | ⟨hc, h⟩
  · obtain ⟨M_3, hc, h⟩ := bd_ex h
    refine Fr.tr (Fr.sub (z_f_X10_sorts_67 hc) rfl) ?_
    obtain ⟨x4_4, _, h⟩ := ltv_ex h
    obtain ⟨hg0, h⟩ := gd_ex h
    obtain ⟨M_7, hc, h⟩ := bd_ex h
    refine Fr.tr (Fr.sub (z_f_X10_findTakes_67 hc) rfl) ?_
    obtain ⟨hg1, h⟩ := gd_ex h
    obtain ⟨v_10, _, h⟩ := bd_ex h
    obtain ⟨v_13, M_12, hc, h⟩ := bd2_ex h
    refine Fr.tr (Fr.sub (z_f_X10_linesFor_67 hc) rfl) ?_
    exact z_b_X10_findOrder_67_118 _ _ _ _ _ _ _ _ h
  · obtain ⟨hg0, h⟩ := gd_ex h
    rcases ite_ex h with ⟨hc, h⟩ | ⟨hc, h⟩
    · obtain ⟨hg1, h⟩ := gd_ex h
      obtain ⟨v_17, _, h⟩ := bd_ex h
      obtain ⟨x6_18, _, h⟩ := ltv_ex h
      rcases ite_ex h with ⟨hc, h⟩ | ⟨hc, h⟩
      · obtain ⟨M_20, hc, h⟩ := bd_ex h
        refine Fr.tr (Fr.sub (z_f_X10_puts_67 hc) rfl) ?_
        obtain ⟨x4_21, _, h⟩ := ltv_ex h
        exact hk_8 _ _ _ _ _ _ _ h
      · obtain ⟨M_23, hc, h⟩ := bd_ex h
        refine Fr.tr (Fr.sub (z_f_X10_puts_67 hc) rfl) ?_
        obtain ⟨x4_24, _, h⟩ := ltv_ex h
        exact hk_8 _ _ _ _ _ _ _ h
    · obtain ⟨x4_25, _, h⟩ := ltv_ex h
      exact hk_8 _ _ _ _ _ _ _ h
theorem z_b_X10_findOrder_67_8  : ∀ (n : Nat) (y0 : Int32) (y1 : Int32) (y2 : Int32) (y3 : Int32) (M : Mm) (v : Int32) (M' : Mm), b_X10_findOrder_67_8 n y0 y1 y2 y3 M = some (v, M') → Fr [(67, 37), (67, 41), (99, 999), (100, 999), (101, 999), (102, 999), (103, 999), (104, 999), (105, 999), (106, 999)] M M' := by
  intro n
  induction n with
  | zero =>
    intro y0 y1 y2 y3 M v M' h
    have h : (none : Option _) = some _ := h
    cases h
  | succ n ih =>
    intro y0 y1 y2 y3 M v M' h
    exact z_bb_X10_findOrder_67_8 (fun y0 y1 y2 y3 M v M' h => ih y0 y1 y2 y3 M v M' h) h
theorem z_bb_X10_findOrder_67_0 {x1 : Int32} {x2 : Int32} {x3 : Int32} {M : Mm} {v : Int32} {M' : Mm}  (h : bb_X10_findOrder_67_0 x1 x2 x3 M = some (v, M')) : Fr [(67, 37), (67, 41), (99, 999), (100, 999), (101, 999), (102, 999), (103, 999), (104, 999), (105, 999), (106, 999)] M M' := by
  unfold bb_X10_findOrder_67_0 at h
  obtain ⟨M_1, he, h⟩ := ltv_ex h
  refine Fr.tr (M1 := M_1) (by rw [he]; exact Fr.wrI rfl) ?_
  exact z_b_X10_findOrder_67_8 _ _ _ _ _ _ _ _ h
theorem z_f_X10_findOrder_67 {x1 : Int32} {x2 : Int32} {x3 : Int32} {M : Mm} {v : Int32} {M' : Mm}  (h : f_X10_findOrder_67 x1 x2 x3 M = some (v, M')) : Fr [(67, 37), (67, 41), (99, 999), (100, 999), (101, 999), (102, 999), (103, 999), (104, 999), (105, 999), (106, 999)] M M' := by
  unfold f_X10_findOrder_67 at h
  exact z_bb_X10_findOrder_67_0 h
theorem z_bb_X10_hours_67_101 {k_101 : Int64 → Int64 → Int64 → Int32 → Mm → Option (Int64 × Mm)} {x4 : Int64} {x6 : Int64} {x8 : Int64} {x10 : Int32} {M : Mm} {v : Int64} {M' : Mm} (hk_101 : ∀ (y0 : Int64) (y1 : Int64) (y2 : Int64) (y3 : Int32) (N : Mm) (w : Int64) (N' : Mm), k_101 y0 y1 y2 y3 N = some (w, N') → Fr [(67, 0), (67, 37), (67, 41), (99, 999), (100, 999), (101, 999), (102, 999), (103, 999), (104, 999), (105, 999), (106, 999)] N N') (h : bb_X10_hours_67_101 k_101 x4 x6 x8 x10 M = some (v, M')) : Fr [(67, 0), (67, 37), (67, 41), (99, 999), (100, 999), (101, 999), (102, 999), (103, 999), (104, 999), (105, 999), (106, 999)] M M' := by
  unfold bb_X10_hours_67_101 at h
  rcases ite_ex h with ⟨hc, h⟩ | ⟨hc, h⟩
  · obtain ⟨hg0, h⟩ := gd_ex h
    cases h
    exact Fr.refl
  · obtain ⟨hg0, h⟩ := gd_ex h
    obtain ⟨x4_19, _, h⟩ := ltv_ex h
    obtain ⟨hg1, h⟩ := gd_ex h
    obtain ⟨x6_21, _, h⟩ := ltv_ex h
    obtain ⟨x8_22, _, h⟩ := ltv_ex h
    obtain ⟨x10_23, _, h⟩ := ltv_ex h
    exact hk_101 _ _ _ _ _ _ _ h
theorem z_b_X10_hours_67_101  : ∀ (n : Nat) (y0 : Int64) (y1 : Int64) (y2 : Int64) (y3 : Int32) (M : Mm) (v : Int64) (M' : Mm), b_X10_hours_67_101 n y0 y1 y2 y3 M = some (v, M') → Fr [(67, 0), (67, 37), (67, 41), (99, 999), (100, 999), (101, 999), (102, 999), (103, 999), (104, 999), (105, 999), (106, 999)] M M' := by
  intro n
  induction n with
  | zero =>
    intro y0 y1 y2 y3 M v M' h
    have h : (none : Option _) = some _ := h
    cases h
  | succ n ih =>
    intro y0 y1 y2 y3 M v M' h
    exact z_bb_X10_hours_67_101 (fun y0 y1 y2 y3 M v M' h => ih y0 y1 y2 y3 M v M' h) h
theorem z_bb_X10_hours_67_75 {k_75 : Int64 → Int64 → Int64 → Int32 → Mm → Option (Int64 × Mm)} {x4 : Int64} {x6 : Int64} {x8 : Int64} {x10 : Int32} {M : Mm} {v : Int64} {M' : Mm} (hk_75 : ∀ (y0 : Int64) (y1 : Int64) (y2 : Int64) (y3 : Int32) (N : Mm) (w : Int64) (N' : Mm), k_75 y0 y1 y2 y3 N = some (w, N') → Fr [(67, 0), (67, 37), (67, 41), (99, 999), (100, 999), (101, 999), (102, 999), (103, 999), (104, 999), (105, 999), (106, 999)] N N') (h : bb_X10_hours_67_75 k_75 x4 x6 x8 x10 M = some (v, M')) : Fr [(67, 0), (67, 37), (67, 41), (99, 999), (100, 999), (101, 999), (102, 999), (103, 999), (104, 999), (105, 999), (106, 999)] M M' := by
  unfold bb_X10_hours_67_75 at h
  rcases ite_ex h with ⟨hc, h⟩ | ⟨hc, h⟩
  · exact z_b_X10_hours_67_101 _ _ _ _ _ _ _ _ h
  · obtain ⟨x8_15, _, h⟩ := ltv_ex h
    obtain ⟨x10_16, _, h⟩ := ltv_ex h
    exact hk_75 _ _ _ _ _ _ _ h
theorem z_b_X10_hours_67_75  : ∀ (n : Nat) (y0 : Int64) (y1 : Int64) (y2 : Int64) (y3 : Int32) (M : Mm) (v : Int64) (M' : Mm), b_X10_hours_67_75 n y0 y1 y2 y3 M = some (v, M') → Fr [(67, 0), (67, 37), (67, 41), (99, 999), (100, 999), (101, 999), (102, 999), (103, 999), (104, 999), (105, 999), (106, 999)] M M' := by
  intro n
  induction n with
  | zero =>
    intro y0 y1 y2 y3 M v M' h
    have h : (none : Option _) = some _ := h
    cases h
  | succ n ih =>
    intro y0 y1 y2 y3 M v M' h
    exact z_bb_X10_hours_67_75 (fun y0 y1 y2 y3 M v M' h => ih y0 y1 y2 y3 M v M' h) h
theorem z_bb_X10_hours_67_40 {x1 : Int32} {x2 : Int32} {x3 : Int32} {s1 : Int32} {M : Mm} {v : Int64} {M' : Mm}  (h : bb_X10_hours_67_40 x1 x2 x3 s1 M = some (v, M')) : Fr [(67, 0), (67, 37), (67, 41), (99, 999), (100, 999), (101, 999), (102, 999), (103, 999), (104, 999), (105, 999), (106, 999)] M M' := by
  unfold bb_X10_hours_67_40 at h
  obtain ⟨v_11, M_10, hc, h⟩ := bd2_ex h
  refine Fr.tr (Fr.sub (z_f_X10_bad_67 hc) rfl) ?_
  rcases ite_ex h with ⟨hc, h⟩ | ⟨hc, h⟩
  · obtain ⟨v_14, M_13, hc, h⟩ := bd2_ex h
    refine Fr.tr (Fr.sub (z_f_X10_findOrder_67 hc) rfl) ?_
    rcases ite_ex h with ⟨hc, h⟩ | ⟨hc, h⟩
    · cases h
      exact Fr.refl
    · exact z_b_X10_hours_67_75 _ _ _ _ _ _ _ _ h
  · cases h
    exact Fr.refl
theorem z_bb_X10_hours_67_19 {x1 : Int32} {x2 : Int32} {x3 : Int32} {s1 : Int32} {M : Mm} {v : Int64} {M' : Mm}  (h : bb_X10_hours_67_19 x1 x2 x3 s1 M = some (v, M')) : Fr [(67, 0), (67, 37), (67, 41), (99, 999), (100, 999), (101, 999), (102, 999), (103, 999), (104, 999), (105, 999), (106, 999)] M M' := by
  unfold bb_X10_hours_67_19 at h
  obtain ⟨v_6, M_5, hc, h⟩ := bd2_ex h
  refine Fr.tr (Fr.sub (z_f_X10_bad_67 hc) rfl) ?_
  rcases ite_ex h with ⟨hc, h⟩ | ⟨hc, h⟩
  · obtain ⟨v_8, _, h⟩ := bd_ex h
    rcases ite_ex h with ⟨hc, h⟩ | ⟨hc, h⟩
    · exact z_bb_X10_hours_67_40 h
    · exact z_bb_X10_hours_67_40 h
  · cases h
    exact Fr.refl
theorem z_bb_X10_hours_67_0 {x1 : Int32} {x2 : Int32} {x3 : Int32} {M : Mm} {v : Int64} {M' : Mm}  (h : bb_X10_hours_67_0 x1 x2 x3 M = some (v, M')) : Fr [(67, 0), (67, 37), (67, 41), (99, 999), (100, 999), (101, 999), (102, 999), (103, 999), (104, 999), (105, 999), (106, 999)] M M' := by
  unfold bb_X10_hours_67_0 at h
  obtain ⟨M_1, he, h⟩ := ltv_ex h
  refine Fr.tr (M1 := M_1) (by rw [he]; exact Fr.wrI rfl) ?_
  obtain ⟨v_3, _, h⟩ := bd_ex h
  rcases ite_ex h with ⟨hc, h⟩ | ⟨hc, h⟩
  · exact z_bb_X10_hours_67_19 h
  · exact z_bb_X10_hours_67_19 h
theorem z_f_X10_hours_67 {x1 : Int32} {x2 : Int32} {x3 : Int32} {M : Mm} {v : Int64} {M' : Mm}  (h : f_X10_hours_67 x1 x2 x3 M = some (v, M')) : Fr [(67, 0), (67, 37), (67, 41), (99, 999), (100, 999), (101, 999), (102, 999), (103, 999), (104, 999), (105, 999), (106, 999)] M M' := by
  unfold f_X10_hours_67 at h
  exact z_bb_X10_hours_67_0 h
theorem z_bb_X10_order_67_40 {x1 : Int32} {x2 : Int32} {x3 : Int32} {x4 : Int32} {s1 : Int32} {M : Mm} {v : Int32} {M' : Mm}  (h : bb_X10_order_67_40 x1 x2 x3 x4 s1 M = some (v, M')) : Fr [(67, 0), (67, 37), (67, 41), (99, 999), (100, 999), (101, 999), (102, 999), (103, 999), (104, 999), (105, 999), (106, 999)] M M' := by
  unfold bb_X10_order_67_40 at h
  obtain ⟨v_11, M_10, hc, h⟩ := bd2_ex h
  refine Fr.tr (Fr.sub (z_f_X10_bad_67 hc) rfl) ?_
  rcases ite_ex h with ⟨hc, h⟩ | ⟨hc, h⟩
  · obtain ⟨v_14, M_13, hc, h⟩ := bd2_ex h
    refine Fr.tr (Fr.sub (z_f_X10_findOrder_67 hc) rfl) ?_
    rcases ite_ex h with ⟨hc, h⟩ | ⟨hc, h⟩
    · cases h
      exact Fr.refl
    · obtain ⟨v_16, _, h⟩ := bd_ex h
      rcases ite_ex h with ⟨hc, h⟩ | ⟨hc, h⟩
      · cases h
        exact Fr.refl
      · obtain ⟨hg0, h⟩ := gd_ex h
        cases h
        exact Fr.refl
  · cases h
    exact Fr.refl
theorem z_bb_X10_order_67_19 {x1 : Int32} {x2 : Int32} {x3 : Int32} {x4 : Int32} {s1 : Int32} {M : Mm} {v : Int32} {M' : Mm}  (h : bb_X10_order_67_19 x1 x2 x3 x4 s1 M = some (v, M')) : Fr [(67, 0), (67, 37), (67, 41), (99, 999), (100, 999), (101, 999), (102, 999), (103, 999), (104, 999), (105, 999), (106, 999)] M M' := by
  unfold bb_X10_order_67_19 at h
  obtain ⟨v_6, M_5, hc, h⟩ := bd2_ex h
  refine Fr.tr (Fr.sub (z_f_X10_bad_67 hc) rfl) ?_
  rcases ite_ex h with ⟨hc, h⟩ | ⟨hc, h⟩
  · obtain ⟨v_8, _, h⟩ := bd_ex h
    rcases ite_ex h with ⟨hc, h⟩ | ⟨hc, h⟩
    · exact z_bb_X10_order_67_40 h
    · exact z_bb_X10_order_67_40 h
  · cases h
    exact Fr.refl
theorem z_bb_X10_order_67_0 {x1 : Int32} {x2 : Int32} {x3 : Int32} {x4 : Int32} {M : Mm} {v : Int32} {M' : Mm}  (h : bb_X10_order_67_0 x1 x2 x3 x4 M = some (v, M')) : Fr [(67, 0), (67, 37), (67, 41), (99, 999), (100, 999), (101, 999), (102, 999), (103, 999), (104, 999), (105, 999), (106, 999)] M M' := by
  unfold bb_X10_order_67_0 at h
  obtain ⟨M_1, he, h⟩ := ltv_ex h
  refine Fr.tr (M1 := M_1) (by rw [he]; exact Fr.wrI rfl) ?_
  obtain ⟨v_3, _, h⟩ := bd_ex h
  rcases ite_ex h with ⟨hc, h⟩ | ⟨hc, h⟩
  · exact z_bb_X10_order_67_19 h
  · exact z_bb_X10_order_67_19 h
theorem z_f_X10_order_67 {x1 : Int32} {x2 : Int32} {x3 : Int32} {x4 : Int32} {M : Mm} {v : Int32} {M' : Mm}  (h : f_X10_order_67 x1 x2 x3 x4 M = some (v, M')) : Fr [(67, 0), (67, 37), (67, 41), (99, 999), (100, 999), (101, 999), (102, 999), (103, 999), (104, 999), (105, 999), (106, 999)] M M' := by
  unfold f_X10_order_67 at h
  exact z_bb_X10_order_67_0 h
theorem z_bb_X10_bars_67_74 {k_74 : Int64 → Int64 → Int32 → Mm → Option (Int64 × Mm)} {x4 : Int64} {x6 : Int64} {x8 : Int32} {M : Mm} {v : Int64} {M' : Mm} (hk_74 : ∀ (y0 : Int64) (y1 : Int64) (y2 : Int32) (N : Mm) (w : Int64) (N' : Mm), k_74 y0 y1 y2 N = some (w, N') → Fr [(67, 0), (67, 37), (67, 41), (99, 999), (100, 999), (101, 999), (102, 999), (103, 999), (104, 999), (105, 999), (106, 999)] N N') (h : bb_X10_bars_67_74 k_74 x4 x6 x8 M = some (v, M')) : Fr [(67, 0), (67, 37), (67, 41), (99, 999), (100, 999), (101, 999), (102, 999), (103, 999), (104, 999), (105, 999), (106, 999)] M M' := by
  unfold bb_X10_bars_67_74 at h
  rcases ite_ex h with ⟨hc, h⟩ | ⟨hc, h⟩
  · obtain ⟨hg0, h⟩ := gd_ex h
    cases h
    exact Fr.refl
  · obtain ⟨x4_16, _, h⟩ := ltv_ex h
    obtain ⟨hg0, h⟩ := gd_ex h
    obtain ⟨x6_18, _, h⟩ := ltv_ex h
    obtain ⟨x8_19, _, h⟩ := ltv_ex h
    exact hk_74 _ _ _ _ _ _ h
theorem z_b_X10_bars_67_74  : ∀ (n : Nat) (y0 : Int64) (y1 : Int64) (y2 : Int32) (M : Mm) (v : Int64) (M' : Mm), b_X10_bars_67_74 n y0 y1 y2 M = some (v, M') → Fr [(67, 0), (67, 37), (67, 41), (99, 999), (100, 999), (101, 999), (102, 999), (103, 999), (104, 999), (105, 999), (106, 999)] M M' := by
  intro n
  induction n with
  | zero =>
    intro y0 y1 y2 M v M' h
    have h : (none : Option _) = some _ := h
    cases h
  | succ n ih =>
    intro y0 y1 y2 M v M' h
    exact z_bb_X10_bars_67_74 (fun y0 y1 y2 M v M' h => ih y0 y1 y2 M v M' h) h
theorem z_bb_X10_bars_67_40 {x1 : Int32} {x2 : Int32} {x3 : Int32} {s1 : Int32} {M : Mm} {v : Int64} {M' : Mm}  (h : bb_X10_bars_67_40 x1 x2 x3 s1 M = some (v, M')) : Fr [(67, 0), (67, 37), (67, 41), (99, 999), (100, 999), (101, 999), (102, 999), (103, 999), (104, 999), (105, 999), (106, 999)] M M' := by
  unfold bb_X10_bars_67_40 at h
  obtain ⟨v_11, M_10, hc, h⟩ := bd2_ex h
  refine Fr.tr (Fr.sub (z_f_X10_bad_67 hc) rfl) ?_
  rcases ite_ex h with ⟨hc, h⟩ | ⟨hc, h⟩
  · obtain ⟨v_14, M_13, hc, h⟩ := bd2_ex h
    refine Fr.tr (Fr.sub (z_f_X10_findOrder_67 hc) rfl) ?_
    rcases ite_ex h with ⟨hc, h⟩ | ⟨hc, h⟩
    · cases h
      exact Fr.refl
    · exact z_b_X10_bars_67_74 _ _ _ _ _ _ _ h
  · cases h
    exact Fr.refl
theorem z_bb_X10_bars_67_19 {x1 : Int32} {x2 : Int32} {x3 : Int32} {s1 : Int32} {M : Mm} {v : Int64} {M' : Mm}  (h : bb_X10_bars_67_19 x1 x2 x3 s1 M = some (v, M')) : Fr [(67, 0), (67, 37), (67, 41), (99, 999), (100, 999), (101, 999), (102, 999), (103, 999), (104, 999), (105, 999), (106, 999)] M M' := by
  unfold bb_X10_bars_67_19 at h
  obtain ⟨v_6, M_5, hc, h⟩ := bd2_ex h
  refine Fr.tr (Fr.sub (z_f_X10_bad_67 hc) rfl) ?_
  rcases ite_ex h with ⟨hc, h⟩ | ⟨hc, h⟩
  · obtain ⟨v_8, _, h⟩ := bd_ex h
    rcases ite_ex h with ⟨hc, h⟩ | ⟨hc, h⟩
    · exact z_bb_X10_bars_67_40 h
    · exact z_bb_X10_bars_67_40 h
  · cases h
    exact Fr.refl
theorem z_bb_X10_bars_67_0 {x1 : Int32} {x2 : Int32} {x3 : Int32} {M : Mm} {v : Int64} {M' : Mm}  (h : bb_X10_bars_67_0 x1 x2 x3 M = some (v, M')) : Fr [(67, 0), (67, 37), (67, 41), (99, 999), (100, 999), (101, 999), (102, 999), (103, 999), (104, 999), (105, 999), (106, 999)] M M' := by
  unfold bb_X10_bars_67_0 at h
  obtain ⟨M_1, he, h⟩ := ltv_ex h
  refine Fr.tr (M1 := M_1) (by rw [he]; exact Fr.wrI rfl) ?_
  obtain ⟨v_3, _, h⟩ := bd_ex h
  rcases ite_ex h with ⟨hc, h⟩ | ⟨hc, h⟩
  · exact z_bb_X10_bars_67_19 h
  · exact z_bb_X10_bars_67_19 h
theorem z_f_X10_bars_67 {x1 : Int32} {x2 : Int32} {x3 : Int32} {M : Mm} {v : Int64} {M' : Mm}  (h : f_X10_bars_67 x1 x2 x3 M = some (v, M')) : Fr [(67, 0), (67, 37), (67, 41), (99, 999), (100, 999), (101, 999), (102, 999), (103, 999), (104, 999), (105, 999), (106, 999)] M M' := by
  unfold f_X10_bars_67 at h
  exact z_bb_X10_bars_67_0 h
theorem z_bb_X10_black_67_42 {x1 : Int32} {x2 : Int32} {s1 : Int32} {M : Mm} {v : Int32} {M' : Mm}  (h : bb_X10_black_67_42 x1 x2 s1 M = some (v, M')) : Fr [(67, 0)] M M' := by
  unfold bb_X10_black_67_42 at h
  obtain ⟨v_11, M_10, hc, h⟩ := bd2_ex h
  refine Fr.tr (Fr.sub (z_f_X10_bad_67 hc) rfl) ?_
  rcases ite_ex h with ⟨hc, h⟩ | ⟨hc, h⟩
  · obtain ⟨hg0, h⟩ := gd_ex h
    obtain ⟨v_14, _, h⟩ := bd_ex h
    cases h
    exact Fr.refl
  · cases h
    exact Fr.refl
theorem z_bb_X10_black_67_19 {x1 : Int32} {x2 : Int32} {s1 : Int32} {M : Mm} {v : Int32} {M' : Mm}  (h : bb_X10_black_67_19 x1 x2 s1 M = some (v, M')) : Fr [(67, 0)] M M' := by
  unfold bb_X10_black_67_19 at h
  obtain ⟨v_6, M_5, hc, h⟩ := bd2_ex h
  refine Fr.tr (Fr.sub (z_f_X10_bad_67 hc) rfl) ?_
  rcases ite_ex h with ⟨hc, h⟩ | ⟨hc, h⟩
  · obtain ⟨v_8, _, h⟩ := bd_ex h
    rcases ite_ex h with ⟨hc, h⟩ | ⟨hc, h⟩
    · exact z_bb_X10_black_67_42 h
    · exact z_bb_X10_black_67_42 h
  · cases h
    exact Fr.refl
theorem z_bb_X10_black_67_0 {x1 : Int32} {x2 : Int32} {M : Mm} {v : Int32} {M' : Mm}  (h : bb_X10_black_67_0 x1 x2 M = some (v, M')) : Fr [(67, 0)] M M' := by
  unfold bb_X10_black_67_0 at h
  obtain ⟨M_1, he, h⟩ := ltv_ex h
  refine Fr.tr (M1 := M_1) (by rw [he]; exact Fr.wrI rfl) ?_
  obtain ⟨v_3, _, h⟩ := bd_ex h
  rcases ite_ex h with ⟨hc, h⟩ | ⟨hc, h⟩
  · exact z_bb_X10_black_67_19 h
  · exact z_bb_X10_black_67_19 h
theorem z_f_X10_black_67 {x1 : Int32} {x2 : Int32} {M : Mm} {v : Int32} {M' : Mm}  (h : f_X10_black_67 x1 x2 M = some (v, M')) : Fr [(67, 0)] M M' := by
  unfold f_X10_black_67 at h
  exact z_bb_X10_black_67_0 h
theorem z_bb_X10_layBlacks_67_2 {k_2 : Int32 → Int32 → Mm → Option Mm} {x1 : Int32} {x2 : Int32} {M : Mm} {M' : Mm} (hk_2 : ∀ (y0 : Int32) (y1 : Int32) (N : Mm) (N' : Mm), k_2 y0 y1 N = some N' → Fr [(109, 999), (110, 999)] N N') (h : bb_X10_layBlacks_67_2 k_2 x1 x2 M = some M') : Fr [(109, 999), (110, 999)] M M' := by
  unfold bb_X10_layBlacks_67_2 at h
  rcases ite_ex h with ⟨hc, h⟩ | ⟨hc, h⟩
  · cases h
    exact Fr.refl
  · obtain ⟨v_2, _, h⟩ := bd_ex h
    obtain ⟨hg0, h⟩ := gd_ex h
    obtain ⟨M_4, he, h⟩ := ltv_ex h
    refine Fr.tr (M1 := M_4) (by rw [he]; exact Fr.wIa rfl) ?_
    obtain ⟨v_6, _, h⟩ := bd_ex h
    obtain ⟨hg1, h⟩ := gd_ex h
    obtain ⟨M_8, he, h⟩ := ltv_ex h
    refine Fr.tr (M1 := M_8) (by rw [he]; exact Fr.wIa rfl) ?_
    obtain ⟨x2_9, _, h⟩ := ltv_ex h
    exact hk_2 _ _ _ _ h
theorem z_b_X10_layBlacks_67_2  : ∀ (n : Nat) (y0 : Int32) (y1 : Int32) (M : Mm) (M' : Mm), b_X10_layBlacks_67_2 n y0 y1 M = some M' → Fr [(109, 999), (110, 999)] M M' := by
  intro n
  induction n with
  | zero =>
    intro y0 y1 M M' h
    have h : (none : Option _) = some _ := h
    cases h
  | succ n ih =>
    intro y0 y1 M M' h
    exact z_bb_X10_layBlacks_67_2 (fun y0 y1 M M' h => ih y0 y1 M M' h) h
theorem z_bb_X10_layBlacks_67_0 {x1 : Int32} {M : Mm} {M' : Mm}  (h : bb_X10_layBlacks_67_0 x1 M = some M') : Fr [(109, 999), (110, 999)] M M' := by
  unfold bb_X10_layBlacks_67_0 at h
  exact z_b_X10_layBlacks_67_2 _ _ _ _ _ h
theorem z_f_X10_layBlacks_67 {x1 : Int32} {M : Mm} {M' : Mm}  (h : f_X10_layBlacks_67 x1 M = some M') : Fr [(109, 999), (110, 999)] M M' := by
  unfold f_X10_layBlacks_67 at h
  exact z_bb_X10_layBlacks_67_0 h
theorem z_bb_X10_colour_67_48 {x1 : Int32} {x2 : Int32} {x3 : Int32} {s1 : Int32} {M : Mm} {v : Int32} {M' : Mm}  (h : bb_X10_colour_67_48 x1 x2 x3 s1 M = some (v, M')) : Fr [(67, 0), (109, 999), (110, 999)] M M' := by
  unfold bb_X10_colour_67_48 at h
  obtain ⟨v_11, M_10, hc, h⟩ := bd2_ex h
  refine Fr.tr (Fr.sub (z_f_X10_bad_67 hc) rfl) ?_
  rcases ite_ex h with ⟨hc, h⟩ | ⟨hc, h⟩
  · obtain ⟨hg0, h⟩ := gd_ex h
    obtain ⟨M_14, hc, h⟩ := bd_ex h
    refine Fr.tr (Fr.sub (z_f_X10_layBlacks_67 hc) rfl) ?_
    obtain ⟨v_16, _, h⟩ := bd_ex h
    cases h
    exact Fr.refl
  · cases h
    exact Fr.refl
theorem z_bb_X10_colour_67_27 {x1 : Int32} {x2 : Int32} {x3 : Int32} {s1 : Int32} {M : Mm} {v : Int32} {M' : Mm}  (h : bb_X10_colour_67_27 x1 x2 x3 s1 M = some (v, M')) : Fr [(67, 0), (109, 999), (110, 999)] M M' := by
  unfold bb_X10_colour_67_27 at h
  obtain ⟨v_6, M_5, hc, h⟩ := bd2_ex h
  refine Fr.tr (Fr.sub (z_f_X10_bad_67 hc) rfl) ?_
  rcases ite_ex h with ⟨hc, h⟩ | ⟨hc, h⟩
  · obtain ⟨v_8, _, h⟩ := bd_ex h
    rcases ite_ex h with ⟨hc, h⟩ | ⟨hc, h⟩
    · exact z_bb_X10_colour_67_48 h
    · exact z_bb_X10_colour_67_48 h
  · cases h
    exact Fr.refl
theorem z_bb_X10_colour_67_0 {x1 : Int32} {x2 : Int32} {x3 : Int32} {M : Mm} {v : Int32} {M' : Mm}  (h : bb_X10_colour_67_0 x1 x2 x3 M = some (v, M')) : Fr [(67, 0), (109, 999), (110, 999)] M M' := by
  unfold bb_X10_colour_67_0 at h
  obtain ⟨M_1, he, h⟩ := ltv_ex h
  refine Fr.tr (M1 := M_1) (by rw [he]; exact Fr.wrI rfl) ?_
  obtain ⟨v_3, _, h⟩ := bd_ex h
  rcases ite_ex h with ⟨hc, h⟩ | ⟨hc, h⟩
  · exact z_bb_X10_colour_67_27 h
  · exact z_bb_X10_colour_67_27 h
theorem z_f_X10_colour_67 {x1 : Int32} {x2 : Int32} {x3 : Int32} {M : Mm} {v : Int32} {M' : Mm}  (h : f_X10_colour_67 x1 x2 x3 M = some (v, M')) : Fr [(67, 0), (109, 999), (110, 999)] M M' := by
  unfold f_X10_colour_67 at h
  exact z_bb_X10_colour_67_0 h
theorem z_bb_X10_uneven_67_19 {x1 : Int32} {x2 : Int32} {s1 : Int32} {M : Mm} {v : Int32} {M' : Mm}  (h : bb_X10_uneven_67_19 x1 x2 s1 M = some (v, M')) : Fr [(67, 0), (109, 999), (110, 999)] M M' := by
  unfold bb_X10_uneven_67_19 at h
  obtain ⟨v_6, M_5, hc, h⟩ := bd2_ex h
  refine Fr.tr (Fr.sub (z_f_X10_bad_67 hc) rfl) ?_
  rcases ite_ex h with ⟨hc, h⟩ | ⟨hc, h⟩
  · obtain ⟨hg0, h⟩ := gd_ex h
    obtain ⟨M_9, hc, h⟩ := bd_ex h
    refine Fr.tr (Fr.sub (z_f_X10_layBlacks_67 hc) rfl) ?_
    obtain ⟨v_11, _, h⟩ := bd_ex h
    cases h
    exact Fr.refl
  · cases h
    exact Fr.refl
theorem z_bb_X10_uneven_67_0 {x1 : Int32} {x2 : Int32} {M : Mm} {v : Int32} {M' : Mm}  (h : bb_X10_uneven_67_0 x1 x2 M = some (v, M')) : Fr [(67, 0), (109, 999), (110, 999)] M M' := by
  unfold bb_X10_uneven_67_0 at h
  obtain ⟨M_1, he, h⟩ := ltv_ex h
  refine Fr.tr (M1 := M_1) (by rw [he]; exact Fr.wrI rfl) ?_
  obtain ⟨v_3, _, h⟩ := bd_ex h
  rcases ite_ex h with ⟨hc, h⟩ | ⟨hc, h⟩
  · exact z_bb_X10_uneven_67_19 h
  · exact z_bb_X10_uneven_67_19 h
theorem z_f_X10_uneven_67 {x1 : Int32} {x2 : Int32} {M : Mm} {v : Int32} {M' : Mm}  (h : f_X10_uneven_67 x1 x2 M = some (v, M')) : Fr [(67, 0), (109, 999), (110, 999)] M M' := by
  unfold f_X10_uneven_67 at h
  exact z_bb_X10_uneven_67_0 h
theorem z_bb_X10_even_67_57 {k_43 : Int32 → Int32 → Int32 → Int32 → Int32 → Int32 → Mm → Option (Int32 × Mm)} {k_57 : Int32 → Int32 → Int32 → Int32 → Int32 → Int32 → Int32 → Mm → Option (Int32 × Mm)} {x1 : Int32} {x2 : Int32} {x3 : Int32} {x4 : Int32} {x5 : Int32} {x6 : Int32} {x7 : Int32} {M : Mm} {v : Int32} {M' : Mm} (hk_43 : ∀ (y0 : Int32) (y1 : Int32) (y2 : Int32) (y3 : Int32) (y4 : Int32) (y5 : Int32) (N : Mm) (w : Int32) (N' : Mm), k_43 y0 y1 y2 y3 y4 y5 N = some (w, N') → Fr [(67, 0), (109, 999), (110, 999)] N N') (hk_57 : ∀ (y0 : Int32) (y1 : Int32) (y2 : Int32) (y3 : Int32) (y4 : Int32) (y5 : Int32) (y6 : Int32) (N : Mm) (w : Int32) (N' : Mm), k_57 y0 y1 y2 y3 y4 y5 y6 N = some (w, N') → Fr [(67, 0), (109, 999), (110, 999)] N N') (h : bb_X10_even_67_57 k_43 k_57 x1 x2 x3 x4 x5 x6 x7 M = some (v, M')) : Fr [(67, 0), (109, 999), (110, 999)] M M' := by
  unfold bb_X10_even_67_57 at h
  obtain ⟨hg0, h⟩ := gd_ex h
  rcases ite_ex h with ⟨hc, h⟩ | ⟨hc, h⟩
  · obtain ⟨x6_17, _, h⟩ := ltv_ex h
    exact hk_43 _ _ _ _ _ _ _ _ _ h
  · obtain ⟨hg1, h⟩ := gd_ex h
    obtain ⟨hg2, h⟩ := gd_ex h
    obtain ⟨x2_21, _, h⟩ := ltv_ex h
    obtain ⟨x7_22, _, h⟩ := ltv_ex h
    exact hk_57 _ _ _ _ _ _ _ _ _ _ h
theorem z_b_X10_even_67_57 {k_43 : Int32 → Int32 → Int32 → Int32 → Int32 → Int32 → Mm → Option (Int32 × Mm)} (hk_43 : ∀ (y0 : Int32) (y1 : Int32) (y2 : Int32) (y3 : Int32) (y4 : Int32) (y5 : Int32) (N : Mm) (w : Int32) (N' : Mm), k_43 y0 y1 y2 y3 y4 y5 N = some (w, N') → Fr [(67, 0), (109, 999), (110, 999)] N N') : ∀ (n : Nat) (y0 : Int32) (y1 : Int32) (y2 : Int32) (y3 : Int32) (y4 : Int32) (y5 : Int32) (y6 : Int32) (M : Mm) (v : Int32) (M' : Mm), b_X10_even_67_57 k_43 n y0 y1 y2 y3 y4 y5 y6 M = some (v, M') → Fr [(67, 0), (109, 999), (110, 999)] M M' := by
  intro n
  induction n with
  | zero =>
    intro y0 y1 y2 y3 y4 y5 y6 M v M' h
    have h : (none : Option _) = some _ := h
    cases h
  | succ n ih =>
    intro y0 y1 y2 y3 y4 y5 y6 M v M' h
    exact z_bb_X10_even_67_57 hk_43 (fun y0 y1 y2 y3 y4 y5 y6 M v M' h => ih y0 y1 y2 y3 y4 y5 y6 M v M' h) h
theorem z_bb_X10_even_67_163 {k_144 : Int32 → Int32 → Int32 → Int32 → Int32 → Mm → Option (Int32 × Mm)} {k_163 : Int32 → Int32 → Int32 → Int32 → Int32 → Int32 → Int32 → Int32 → Int32 → Mm → Option (Int32 × Mm)} {x2 : Int32} {x3 : Int32} {x4 : Int32} {x5 : Int32} {x6 : Int32} {x7 : Int32} {x8 : Int32} {x9 : Int32} {x10 : Int32} {M : Mm} {v : Int32} {M' : Mm} (hk_144 : ∀ (y0 : Int32) (y1 : Int32) (y2 : Int32) (y3 : Int32) (y4 : Int32) (N : Mm) (w : Int32) (N' : Mm), k_144 y0 y1 y2 y3 y4 N = some (w, N') → Fr [(67, 0), (109, 999), (110, 999)] N N') (hk_163 : ∀ (y0 : Int32) (y1 : Int32) (y2 : Int32) (y3 : Int32) (y4 : Int32) (y5 : Int32) (y6 : Int32) (y7 : Int32) (y8 : Int32) (N : Mm) (w : Int32) (N' : Mm), k_163 y0 y1 y2 y3 y4 y5 y6 y7 y8 N = some (w, N') → Fr [(67, 0), (109, 999), (110, 999)] N N') (h : bb_X10_even_67_163 k_144 k_163 x2 x3 x4 x5 x6 x7 x8 x9 x10 M = some (v, M')) : Fr [(67, 0), (109, 999), (110, 999)] M M' := by
  unfold bb_X10_even_67_163 at h
  rcases ite_ex h with ⟨hc, h⟩ | ⟨hc, h⟩
  · obtain ⟨v_24, _, h⟩ := bd_ex h
    rcases ite_ex h with ⟨hc, h⟩ | ⟨hc, h⟩
    · obtain ⟨x6_25, _, h⟩ := ltv_ex h
      exact hk_144 _ _ _ _ _ _ _ _ h
    · rcases ite_ex h with ⟨hc, h⟩ | ⟨hc, h⟩
      · obtain ⟨x6_26, _, h⟩ := ltv_ex h
        exact hk_144 _ _ _ _ _ _ _ _ h
      · obtain ⟨x6_27, _, h⟩ := ltv_ex h
        exact hk_144 _ _ _ _ _ _ _ _ h
  · rcases ite_ex h with ⟨hc, h⟩ | ⟨hc, h⟩
    · obtain ⟨x7_30, _, h⟩ := ltv_ex h
      obtain ⟨x9_31, _, h⟩ := ltv_ex h
      obtain ⟨x8_32, _, h⟩ := ltv_ex h
      obtain ⟨x10_33, _, h⟩ := ltv_ex h
      exact hk_163 _ _ _ _ _ _ _ _ _ _ _ _ h
    · obtain ⟨x8_28, _, h⟩ := ltv_ex h
      obtain ⟨x10_29, _, h⟩ := ltv_ex h
      exact hk_163 _ _ _ _ _ _ _ _ _ _ _ _ h
theorem z_b_X10_even_67_163 {k_144 : Int32 → Int32 → Int32 → Int32 → Int32 → Mm → Option (Int32 × Mm)} (hk_144 : ∀ (y0 : Int32) (y1 : Int32) (y2 : Int32) (y3 : Int32) (y4 : Int32) (N : Mm) (w : Int32) (N' : Mm), k_144 y0 y1 y2 y3 y4 N = some (w, N') → Fr [(67, 0), (109, 999), (110, 999)] N N') : ∀ (n : Nat) (y0 : Int32) (y1 : Int32) (y2 : Int32) (y3 : Int32) (y4 : Int32) (y5 : Int32) (y6 : Int32) (y7 : Int32) (y8 : Int32) (M : Mm) (v : Int32) (M' : Mm), b_X10_even_67_163 k_144 n y0 y1 y2 y3 y4 y5 y6 y7 y8 M = some (v, M') → Fr [(67, 0), (109, 999), (110, 999)] M M' := by
  intro n
  induction n with
  | zero =>
    intro y0 y1 y2 y3 y4 y5 y6 y7 y8 M v M' h
    have h : (none : Option _) = some _ := h
    cases h
  | succ n ih =>
    intro y0 y1 y2 y3 y4 y5 y6 y7 y8 M v M' h
    exact z_bb_X10_even_67_163 hk_144 (fun y0 y1 y2 y3 y4 y5 y6 y7 y8 M v M' h => ih y0 y1 y2 y3 y4 y5 y6 y7 y8 M v M' h) h
theorem z_bb_X10_even_67_144 {k_144 : Int32 → Int32 → Int32 → Int32 → Int32 → Mm → Option (Int32 × Mm)} {x2 : Int32} {x3 : Int32} {x4 : Int32} {x5 : Int32} {x6 : Int32} {M : Mm} {v : Int32} {M' : Mm} (hk_144 : ∀ (y0 : Int32) (y1 : Int32) (y2 : Int32) (y3 : Int32) (y4 : Int32) (N : Mm) (w : Int32) (N' : Mm), k_144 y0 y1 y2 y3 y4 N = some (w, N') → Fr [(67, 0), (109, 999), (110, 999)] N N') (h : bb_X10_even_67_144 k_144 x2 x3 x4 x5 x6 M = some (v, M')) : Fr [(67, 0), (109, 999), (110, 999)] M M' := by
  unfold bb_X10_even_67_144 at h
  rcases ite_ex h with ⟨hc, h⟩ | ⟨hc, h⟩
  · cases h
    exact Fr.refl
  · exact z_b_X10_even_67_163 hk_144 _ _ _ _ _ _ _ _ _ _ _ _ _ h
theorem z_b_X10_even_67_144  : ∀ (n : Nat) (y0 : Int32) (y1 : Int32) (y2 : Int32) (y3 : Int32) (y4 : Int32) (M : Mm) (v : Int32) (M' : Mm), b_X10_even_67_144 n y0 y1 y2 y3 y4 M = some (v, M') → Fr [(67, 0), (109, 999), (110, 999)] M M' := by
  intro n
  induction n with
  | zero =>
    intro y0 y1 y2 y3 y4 M v M' h
    have h : (none : Option _) = some _ := h
    cases h
  | succ n ih =>
    intro y0 y1 y2 y3 y4 M v M' h
    exact z_bb_X10_even_67_144 (fun y0 y1 y2 y3 y4 M v M' h => ih y0 y1 y2 y3 y4 M v M' h) h
theorem z_bb_X10_even_67_111 {k_111 : Int32 → Int32 → Int32 → Int32 → Int32 → Int32 → Mm → Option (Int32 × Mm)} {x1 : Int32} {x2 : Int32} {x3 : Int32} {x4 : Int32} {x5 : Int32} {x6 : Int32} {M : Mm} {v : Int32} {M' : Mm} (hk_111 : ∀ (y0 : Int32) (y1 : Int32) (y2 : Int32) (y3 : Int32) (y4 : Int32) (y5 : Int32) (N : Mm) (w : Int32) (N' : Mm), k_111 y0 y1 y2 y3 y4 y5 N = some (w, N') → Fr [(67, 0), (109, 999), (110, 999)] N N') (h : bb_X10_even_67_111 k_111 x1 x2 x3 x4 x5 x6 M = some (v, M')) : Fr [(67, 0), (109, 999), (110, 999)] M M' := by
  unfold bb_X10_even_67_111 at h
  obtain ⟨v_10, _, h⟩ := bd_ex h
  rcases ite_ex h with ⟨hc, h⟩ | ⟨hc, h⟩
  · obtain ⟨hg0, h⟩ := gd_ex h
    obtain ⟨M_13, hc, h⟩ := bd_ex h
    refine Fr.tr (Fr.sub (z_f_X10_layBlacks_67 hc) rfl) ?_
    exact z_b_X10_even_67_144 _ _ _ _ _ _ _ _ _ h
  · obtain ⟨x3_14, _, h⟩ := ltv_ex h
    obtain ⟨x6_15, _, h⟩ := ltv_ex h
    exact hk_111 _ _ _ _ _ _ _ _ _ h
theorem z_b_X10_even_67_111  : ∀ (n : Nat) (y0 : Int32) (y1 : Int32) (y2 : Int32) (y3 : Int32) (y4 : Int32) (y5 : Int32) (M : Mm) (v : Int32) (M' : Mm), b_X10_even_67_111 n y0 y1 y2 y3 y4 y5 M = some (v, M') → Fr [(67, 0), (109, 999), (110, 999)] M M' := by
  intro n
  induction n with
  | zero =>
    intro y0 y1 y2 y3 y4 y5 M v M' h
    have h : (none : Option _) = some _ := h
    cases h
  | succ n ih =>
    intro y0 y1 y2 y3 y4 y5 M v M' h
    exact z_bb_X10_even_67_111 (fun y0 y1 y2 y3 y4 y5 M v M' h => ih y0 y1 y2 y3 y4 y5 M v M' h) h
theorem z_bb_X10_even_67_43 {k_43 : Int32 → Int32 → Int32 → Int32 → Int32 → Int32 → Mm → Option (Int32 × Mm)} {x1 : Int32} {x2 : Int32} {x3 : Int32} {x4 : Int32} {x5 : Int32} {x6 : Int32} {M : Mm} {v : Int32} {M' : Mm} (hk_43 : ∀ (y0 : Int32) (y1 : Int32) (y2 : Int32) (y3 : Int32) (y4 : Int32) (y5 : Int32) (N : Mm) (w : Int32) (N' : Mm), k_43 y0 y1 y2 y3 y4 y5 N = some (w, N') → Fr [(67, 0), (109, 999), (110, 999)] N N') (h : bb_X10_even_67_43 k_43 x1 x2 x3 x4 x5 x6 M = some (v, M')) : Fr [(67, 0), (109, 999), (110, 999)] M M' := by
  unfold bb_X10_even_67_43 at h
  rcases ite_ex h with ⟨hc, h⟩ | ⟨hc, h⟩
  · obtain ⟨v_8, _, h⟩ := bd_ex h
    rcases ite_ex h with ⟨hc, h⟩ | ⟨hc, h⟩
    · exact z_b_X10_even_67_111 _ _ _ _ _ _ _ _ _ _ h
    · cases h
      exact Fr.refl
  · exact z_b_X10_even_67_57 hk_43 _ _ _ _ _ _ _ _ _ _ _ h
theorem z_b_X10_even_67_43  : ∀ (n : Nat) (y0 : Int32) (y1 : Int32) (y2 : Int32) (y3 : Int32) (y4 : Int32) (y5 : Int32) (M : Mm) (v : Int32) (M' : Mm), b_X10_even_67_43 n y0 y1 y2 y3 y4 y5 M = some (v, M') → Fr [(67, 0), (109, 999), (110, 999)] M M' := by
  intro n
  induction n with
  | zero =>
    intro y0 y1 y2 y3 y4 y5 M v M' h
    have h : (none : Option _) = some _ := h
    cases h
  | succ n ih =>
    intro y0 y1 y2 y3 y4 y5 M v M' h
    exact z_bb_X10_even_67_43 (fun y0 y1 y2 y3 y4 y5 M v M' h => ih y0 y1 y2 y3 y4 y5 M v M' h) h
theorem z_bb_X10_even_67_21 {x1 : Int32} {s1 : Int32} {M : Mm} {v : Int32} {M' : Mm}  (h : bb_X10_even_67_21 x1 s1 M = some (v, M')) : Fr [(67, 0), (109, 999), (110, 999)] M M' := by
  unfold bb_X10_even_67_21 at h
  obtain ⟨v_6, M_5, hc, h⟩ := bd2_ex h
  refine Fr.tr (Fr.sub (z_f_X10_bad_67 hc) rfl) ?_
  rcases ite_ex h with ⟨hc, h⟩ | ⟨hc, h⟩
  · exact z_b_X10_even_67_43 _ _ _ _ _ _ _ _ _ _ h
  · cases h
    exact Fr.refl
theorem z_bb_X10_even_67_0 {x1 : Int32} {M : Mm} {v : Int32} {M' : Mm}  (h : bb_X10_even_67_0 x1 M = some (v, M')) : Fr [(67, 0), (109, 999), (110, 999)] M M' := by
  unfold bb_X10_even_67_0 at h
  obtain ⟨M_1, he, h⟩ := ltv_ex h
  refine Fr.tr (M1 := M_1) (by rw [he]; exact Fr.wrI rfl) ?_
  obtain ⟨v_3, _, h⟩ := bd_ex h
  rcases ite_ex h with ⟨hc, h⟩ | ⟨hc, h⟩
  · exact z_bb_X10_even_67_21 h
  · exact z_bb_X10_even_67_21 h
theorem z_f_X10_even_67 {x1 : Int32} {M : Mm} {v : Int32} {M' : Mm}  (h : f_X10_even_67 x1 M = some (v, M')) : Fr [(67, 0), (109, 999), (110, 999)] M M' := by
  unfold f_X10_even_67 at h
  exact z_bb_X10_even_67_0 h
theorem z_bb_X10_press_67_66 {k_38 : Int32 → Int32 → Int32 → Int32 → Mm → Option (Int32 × Mm)} {k_66 : Int32 → Int32 → Int32 → Int32 → Int32 → Int32 → Mm → Option (Int32 × Mm)} {x1 : Int32} {x2 : Int32} {x3 : Int32} {x4 : Int32} {x5 : Int32} {x6 : Int32} {M : Mm} {v : Int32} {M' : Mm} (hk_38 : ∀ (y0 : Int32) (y1 : Int32) (y2 : Int32) (y3 : Int32) (N : Mm) (w : Int32) (N' : Mm), k_38 y0 y1 y2 y3 N = some (w, N') → Fr [(67, 0), (109, 999), (110, 999)] N N') (hk_66 : ∀ (y0 : Int32) (y1 : Int32) (y2 : Int32) (y3 : Int32) (y4 : Int32) (y5 : Int32) (N : Mm) (w : Int32) (N' : Mm), k_66 y0 y1 y2 y3 y4 y5 N = some (w, N') → Fr [(67, 0), (109, 999), (110, 999)] N N') (h : bb_X10_press_67_66 k_38 k_66 x1 x2 x3 x4 x5 x6 M = some (v, M')) : Fr [(67, 0), (109, 999), (110, 999)] M M' := by
  unfold bb_X10_press_67_66 at h
  rcases ite_ex h with ⟨hc, h⟩ | ⟨hc, h⟩
  · obtain ⟨hg0, h⟩ := gd_ex h
    obtain ⟨v_11, _, h⟩ := bd_ex h
    rcases ite_ex h with ⟨hc, h⟩ | ⟨hc, h⟩
    · obtain ⟨x4_12, _, h⟩ := ltv_ex h
      exact hk_38 _ _ _ _ _ _ _ h
    · rcases ite_ex h with ⟨hc, h⟩ | ⟨hc, h⟩
      · obtain ⟨x4_13, _, h⟩ := ltv_ex h
        exact hk_38 _ _ _ _ _ _ _ h
      · obtain ⟨x4_14, _, h⟩ := ltv_ex h
        exact hk_38 _ _ _ _ _ _ _ h
  · obtain ⟨v_16, _, h⟩ := bd_ex h
    obtain ⟨x5_17, _, h⟩ := ltv_ex h
    obtain ⟨x6_18, _, h⟩ := ltv_ex h
    exact hk_66 _ _ _ _ _ _ _ _ _ h
theorem z_b_X10_press_67_66 {k_38 : Int32 → Int32 → Int32 → Int32 → Mm → Option (Int32 × Mm)} (hk_38 : ∀ (y0 : Int32) (y1 : Int32) (y2 : Int32) (y3 : Int32) (N : Mm) (w : Int32) (N' : Mm), k_38 y0 y1 y2 y3 N = some (w, N') → Fr [(67, 0), (109, 999), (110, 999)] N N') : ∀ (n : Nat) (y0 : Int32) (y1 : Int32) (y2 : Int32) (y3 : Int32) (y4 : Int32) (y5 : Int32) (M : Mm) (v : Int32) (M' : Mm), b_X10_press_67_66 k_38 n y0 y1 y2 y3 y4 y5 M = some (v, M') → Fr [(67, 0), (109, 999), (110, 999)] M M' := by
  intro n
  induction n with
  | zero =>
    intro y0 y1 y2 y3 y4 y5 M v M' h
    have h : (none : Option _) = some _ := h
    cases h
  | succ n ih =>
    intro y0 y1 y2 y3 y4 y5 M v M' h
    exact z_bb_X10_press_67_66 hk_38 (fun y0 y1 y2 y3 y4 y5 M v M' h => ih y0 y1 y2 y3 y4 y5 M v M' h) h
theorem z_bb_X10_press_67_38 {k_38 : Int32 → Int32 → Int32 → Int32 → Mm → Option (Int32 × Mm)} {x1 : Int32} {x2 : Int32} {x3 : Int32} {x4 : Int32} {M : Mm} {v : Int32} {M' : Mm} (hk_38 : ∀ (y0 : Int32) (y1 : Int32) (y2 : Int32) (y3 : Int32) (N : Mm) (w : Int32) (N' : Mm), k_38 y0 y1 y2 y3 N = some (w, N') → Fr [(67, 0), (109, 999), (110, 999)] N N') (h : bb_X10_press_67_38 k_38 x1 x2 x3 x4 M = some (v, M')) : Fr [(67, 0), (109, 999), (110, 999)] M M' := by
  unfold bb_X10_press_67_38 at h
  rcases ite_ex h with ⟨hc, h⟩ | ⟨hc, h⟩
  · cases h
    exact Fr.refl
  · rcases ite_ex h with ⟨hc, h⟩ | ⟨hc, h⟩
    · cases h
      exact Fr.refl
    · obtain ⟨M_8, hc, h⟩ := bd_ex h
      refine Fr.tr (Fr.sub (z_f_X10_layBlacks_67 hc) rfl) ?_
      exact z_b_X10_press_67_66 hk_38 _ _ _ _ _ _ _ _ _ _ h
theorem z_b_X10_press_67_38  : ∀ (n : Nat) (y0 : Int32) (y1 : Int32) (y2 : Int32) (y3 : Int32) (M : Mm) (v : Int32) (M' : Mm), b_X10_press_67_38 n y0 y1 y2 y3 M = some (v, M') → Fr [(67, 0), (109, 999), (110, 999)] M M' := by
  intro n
  induction n with
  | zero =>
    intro y0 y1 y2 y3 M v M' h
    have h : (none : Option _) = some _ := h
    cases h
  | succ n ih =>
    intro y0 y1 y2 y3 M v M' h
    exact z_bb_X10_press_67_38 (fun y0 y1 y2 y3 M v M' h => ih y0 y1 y2 y3 M v M' h) h
theorem z_bb_X10_press_67_22 {x1 : Int32} {s1 : Int32} {M : Mm} {v : Int32} {M' : Mm}  (h : bb_X10_press_67_22 x1 s1 M = some (v, M')) : Fr [(67, 0), (109, 999), (110, 999)] M M' := by
  unfold bb_X10_press_67_22 at h
  obtain ⟨v_6, M_5, hc, h⟩ := bd2_ex h
  refine Fr.tr (Fr.sub (z_f_X10_bad_67 hc) rfl) ?_
  rcases ite_ex h with ⟨hc, h⟩ | ⟨hc, h⟩
  · exact z_b_X10_press_67_38 _ _ _ _ _ _ _ _ h
  · cases h
    exact Fr.refl
theorem z_bb_X10_press_67_0 {x1 : Int32} {M : Mm} {v : Int32} {M' : Mm}  (h : bb_X10_press_67_0 x1 M = some (v, M')) : Fr [(67, 0), (109, 999), (110, 999)] M M' := by
  unfold bb_X10_press_67_0 at h
  obtain ⟨M_1, he, h⟩ := ltv_ex h
  refine Fr.tr (M1 := M_1) (by rw [he]; exact Fr.wrI rfl) ?_
  obtain ⟨v_3, _, h⟩ := bd_ex h
  rcases ite_ex h with ⟨hc, h⟩ | ⟨hc, h⟩
  · exact z_bb_X10_press_67_22 h
  · exact z_bb_X10_press_67_22 h
theorem z_f_X10_press_67 {x1 : Int32} {M : Mm} {v : Int32} {M' : Mm}  (h : f_X10_press_67 x1 M = some (v, M')) : Fr [(67, 0), (109, 999), (110, 999)] M M' := by
  unfold f_X10_press_67 at h
  exact z_bb_X10_press_67_0 h
theorem z_bb_X10_print_67_17 {x1 : Int64} {s1 : Int32} {M : Mm} {v : Int32} {M' : Mm}  (h : bb_X10_print_67_17 x1 s1 M = some (v, M')) : Fr [(67, 0), (67, 26), (94, 999)] M M' := by
  unfold bb_X10_print_67_17 at h
  obtain ⟨v_4, M_3, hc, h⟩ := bd2_ex h
  refine Fr.tr (Fr.sub (z_f_X10_bad_67 hc) rfl) ?_
  rcases ite_ex h with ⟨hc, h⟩ | ⟨hc, h⟩
  · rcases ite_ex h with ⟨hc, h⟩ | ⟨hc, h⟩
    · cases h
      exact Fr.refl
    · obtain ⟨hg0, h⟩ := gd_ex h
      obtain ⟨M_6, he, h⟩ := ltv_ex h
      refine Fr.tr (M1 := M_6) (by rw [he]; exact Fr.wJa rfl) ?_
      obtain ⟨M_7, he, h⟩ := ltv_ex h
      refine Fr.tr (M1 := M_7) (by rw [he]; exact Fr.wrI rfl) ?_
      cases h
      exact Fr.refl
  · cases h
    exact Fr.refl
theorem z_bb_X10_print_67_0 {x1 : Int64} {M : Mm} {v : Int32} {M' : Mm}  (h : bb_X10_print_67_0 x1 M = some (v, M')) : Fr [(67, 0), (67, 26), (94, 999)] M M' := by
  unfold bb_X10_print_67_0 at h
  obtain ⟨M_1, he, h⟩ := ltv_ex h
  refine Fr.tr (M1 := M_1) (by rw [he]; exact Fr.wrI rfl) ?_
  rcases ite_ex h with ⟨hc, h⟩ | ⟨hc, h⟩
  · exact z_bb_X10_print_67_17 h
  · exact z_bb_X10_print_67_17 h
theorem z_f_X10_print_67 {x1 : Int64} {M : Mm} {v : Int32} {M' : Mm}  (h : f_X10_print_67 x1 M = some (v, M')) : Fr [(67, 0), (67, 26), (94, 999)] M M' := by
  unfold f_X10_print_67 at h
  exact z_bb_X10_print_67_0 h
theorem z_bb_X10_kin_67_62 {x1 : Int32} {x2 : Int32} {x3 : Int32} {x4 : Int32} {s1 : Int32} {M : Mm} {v : Int32} {M' : Mm}  (h : bb_X10_kin_67_62 x1 x2 x3 x4 s1 M = some (v, M')) : Fr [(67, 0)] M M' := by
  unfold bb_X10_kin_67_62 at h
  obtain ⟨v_13, M_12, hc, h⟩ := bd2_ex h
  refine Fr.tr (Fr.sub (z_f_X10_bad_67 hc) rfl) ?_
  rcases ite_ex h with ⟨hc, h⟩ | ⟨hc, h⟩
  · obtain ⟨v_15, _, h⟩ := bd_ex h
    obtain ⟨hg0, h⟩ := gd_ex h
    cases h
    exact Fr.refl
  · cases h
    exact Fr.refl
theorem z_bb_X10_kin_67_39 {x1 : Int32} {x2 : Int32} {x3 : Int32} {x4 : Int32} {s1 : Int32} {M : Mm} {v : Int32} {M' : Mm}  (h : bb_X10_kin_67_39 x1 x2 x3 x4 s1 M = some (v, M')) : Fr [(67, 0)] M M' := by
  unfold bb_X10_kin_67_39 at h
  obtain ⟨v_8, M_7, hc, h⟩ := bd2_ex h
  refine Fr.tr (Fr.sub (z_f_X10_bad_67 hc) rfl) ?_
  rcases ite_ex h with ⟨hc, h⟩ | ⟨hc, h⟩
  · obtain ⟨v_10, _, h⟩ := bd_ex h
    rcases ite_ex h with ⟨hc, h⟩ | ⟨hc, h⟩
    · exact z_bb_X10_kin_67_62 h
    · exact z_bb_X10_kin_67_62 h
  · cases h
    exact Fr.refl
theorem z_bb_X10_kin_67_34 {x1 : Int32} {x2 : Int32} {x3 : Int32} {x4 : Int32} {M : Mm} {v : Int32} {M' : Mm}  (h : bb_X10_kin_67_34 x1 x2 x3 x4 M = some (v, M')) : Fr [(67, 0)] M M' := by
  unfold bb_X10_kin_67_34 at h
  exact z_bb_X10_kin_67_39 h
theorem z_bb_X10_kin_67_0 {x1 : Int32} {x2 : Int32} {x3 : Int32} {x4 : Int32} {M : Mm} {v : Int32} {M' : Mm}  (h : bb_X10_kin_67_0 x1 x2 x3 x4 M = some (v, M')) : Fr [(67, 0)] M M' := by
  unfold bb_X10_kin_67_0 at h
  obtain ⟨M_1, he, h⟩ := ltv_ex h
  refine Fr.tr (M1 := M_1) (by rw [he]; exact Fr.wrI rfl) ?_
  obtain ⟨v_3, _, h⟩ := bd_ex h
  rcases ite_ex h with ⟨hc, h⟩ | ⟨hc, h⟩
  · exact z_bb_X10_kin_67_34 h
  · obtain ⟨v_5, _, h⟩ := bd_ex h
    rcases ite_ex h with ⟨hc, h⟩ | ⟨hc, h⟩
    · exact z_bb_X10_kin_67_34 h
    · exact z_bb_X10_kin_67_39 h
theorem z_f_X10_kin_67 {x1 : Int32} {x2 : Int32} {x3 : Int32} {x4 : Int32} {M : Mm} {v : Int32} {M' : Mm}  (h : f_X10_kin_67 x1 x2 x3 x4 M = some (v, M')) : Fr [(67, 0)] M M' := by
  unfold f_X10_kin_67 at h
  exact z_bb_X10_kin_67_0 h
theorem z_bb_X10_parts_67_59 {rc : Int32 → Int32 → Mm → Option Mm} {k_48 : Int32 → Mm → Option Mm} {k_59 : Int32 → Int32 → Mm → Option Mm} {x3 : Int32} {x4 : Int32} {M : Mm} {M' : Mm} (hrc : ∀ (y0 : Int32) (y1 : Int32) (N : Mm) (N' : Mm), rc y0 y1 N = some N' → Fr [(67, 43), (67, 44), (67, 45), (107, 999)] N N') (hk_48 : ∀ (y0 : Int32) (N : Mm) (N' : Mm), k_48 y0 N = some N' → Fr [(67, 43), (67, 44), (67, 45), (107, 999)] N N') (hk_59 : ∀ (y0 : Int32) (y1 : Int32) (N : Mm) (N' : Mm), k_59 y0 y1 N = some N' → Fr [(67, 43), (67, 44), (67, 45), (107, 999)] N N') (h : bb_X10_parts_67_59 rc k_48 k_59 x3 x4 M = some M') : Fr [(67, 43), (67, 44), (67, 45), (107, 999)] M M' := by
  unfold bb_X10_parts_67_59 at h
  rcases ite_ex h with ⟨hc, h⟩ | ⟨hc, h⟩
  · obtain ⟨x3_12, _, h⟩ := ltv_ex h
    exact hk_48 _ _ _ h
  · rcases ite_ex h with ⟨hc, h⟩ | ⟨hc, h⟩
    · obtain ⟨x4_13, _, h⟩ := ltv_ex h
      exact hk_59 _ _ _ _ h
    · obtain ⟨hg0, h⟩ := gd_ex h
      obtain ⟨hg1, h⟩ := gd_ex h
      rcases ite_ex h with ⟨hc, h⟩ | ⟨hc, h⟩
      · obtain ⟨M_17, he, h⟩ := ltv_ex h
        refine Fr.tr (M1 := M_17) (by rw [he]; exact Fr.wrI rfl) ?_
        obtain ⟨x4_18, _, h⟩ := ltv_ex h
        exact hk_59 _ _ _ _ h
      · obtain ⟨x4_16, _, h⟩ := ltv_ex h
        exact hk_59 _ _ _ _ h
theorem z_b_X10_parts_67_59 {rc : Int32 → Int32 → Mm → Option Mm} {k_48 : Int32 → Mm → Option Mm} (hrc : ∀ (y0 : Int32) (y1 : Int32) (N : Mm) (N' : Mm), rc y0 y1 N = some N' → Fr [(67, 43), (67, 44), (67, 45), (107, 999)] N N') (hk_48 : ∀ (y0 : Int32) (N : Mm) (N' : Mm), k_48 y0 N = some N' → Fr [(67, 43), (67, 44), (67, 45), (107, 999)] N N') : ∀ (n : Nat) (y0 : Int32) (y1 : Int32) (M : Mm) (M' : Mm), b_X10_parts_67_59 rc k_48 n y0 y1 M = some M' → Fr [(67, 43), (67, 44), (67, 45), (107, 999)] M M' := by
  intro n
  induction n with
  | zero =>
    intro y0 y1 M M' h
    have h : (none : Option _) = some _ := h
    cases h
  | succ n ih =>
    intro y0 y1 M M' h
    exact z_bb_X10_parts_67_59 hrc hk_48 (fun y0 y1 M M' h => ih y0 y1 M M' h) h
theorem z_bb_X10_parts_67_48 {rc : Int32 → Int32 → Mm → Option Mm} {k_48 : Int32 → Mm → Option Mm} {x3 : Int32} {M : Mm} {M' : Mm} (hrc : ∀ (y0 : Int32) (y1 : Int32) (N : Mm) (N' : Mm), rc y0 y1 N = some N' → Fr [(67, 43), (67, 44), (67, 45), (107, 999)] N N') (hk_48 : ∀ (y0 : Int32) (N : Mm) (N' : Mm), k_48 y0 N = some N' → Fr [(67, 43), (67, 44), (67, 45), (107, 999)] N N') (h : bb_X10_parts_67_48 rc k_48 x3 M = some M') : Fr [(67, 43), (67, 44), (67, 45), (107, 999)] M M' := by
  unfold bb_X10_parts_67_48 at h
  rcases ite_ex h with ⟨hc, h⟩ | ⟨hc, h⟩
  · cases h
    exact Fr.refl
  · exact z_b_X10_parts_67_59 hrc hk_48 _ _ _ _ _ h
theorem z_b_X10_parts_67_48 {rc : Int32 → Int32 → Mm → Option Mm} (hrc : ∀ (y0 : Int32) (y1 : Int32) (N : Mm) (N' : Mm), rc y0 y1 N = some N' → Fr [(67, 43), (67, 44), (67, 45), (107, 999)] N N') : ∀ (n : Nat) (y0 : Int32) (M : Mm) (M' : Mm), b_X10_parts_67_48 rc n y0 M = some M' → Fr [(67, 43), (67, 44), (67, 45), (107, 999)] M M' := by
  intro n
  induction n with
  | zero =>
    intro y0 M M' h
    have h : (none : Option _) = some _ := h
    cases h
  | succ n ih =>
    intro y0 M M' h
    exact z_bb_X10_parts_67_48 hrc (fun y0 M M' h => ih y0 M M' h) h
theorem z_bb_X10_parts_67_177 {rc : Int32 → Int32 → Mm → Option Mm} {k_119 : Int32 → Int32 → Int32 → Mm → Option Mm} {x1 : Int32} {x2 : Int32} {x3 : Int32} {x4 : Int32} {M : Mm} {M' : Mm} (hrc : ∀ (y0 : Int32) (y1 : Int32) (N : Mm) (N' : Mm), rc y0 y1 N = some N' → Fr [(67, 43), (67, 44), (67, 45), (107, 999)] N N') (hk_119 : ∀ (y0 : Int32) (y1 : Int32) (y2 : Int32) (N : Mm) (N' : Mm), k_119 y0 y1 y2 N = some N' → Fr [(67, 43), (67, 44), (67, 45), (107, 999)] N N') (h : bb_X10_parts_67_177 rc k_119 x1 x2 x3 x4 M = some M') : Fr [(67, 43), (67, 44), (67, 45), (107, 999)] M M' := by
  unfold bb_X10_parts_67_177 at h
  rcases ite_ex h with ⟨hc, h⟩ | ⟨hc, h⟩
  · obtain ⟨x3_27, _, h⟩ := ltv_ex h
    exact hk_119 _ _ _ _ _ h
  · obtain ⟨hg0, h⟩ := gd_ex h
    obtain ⟨M_20, he, h⟩ := ltv_ex h
    refine Fr.tr (M1 := M_20) (by rw [he]; exact Fr.wIa rfl) ?_
    rcases ite_ex h with ⟨hc, h⟩ | ⟨hc, h⟩
    · obtain ⟨M_25, hc, h⟩ := bd_ex h
      refine Fr.tr (hrc _ _ _ _ hc) ?_
      obtain ⟨x3_26, _, h⟩ := ltv_ex h
      exact hk_119 _ _ _ _ _ h
    · obtain ⟨M_22, hc, h⟩ := bd_ex h
      refine Fr.tr (hrc _ _ _ _ hc) ?_
      obtain ⟨x3_23, _, h⟩ := ltv_ex h
      exact hk_119 _ _ _ _ _ h
theorem z_bb_X10_parts_67_130 {rc : Int32 → Int32 → Mm → Option Mm} {k_119 : Int32 → Int32 → Int32 → Mm → Option Mm} {k_130 : Int32 → Int32 → Int32 → Int32 → Int32 → Mm → Option Mm} {x1 : Int32} {x2 : Int32} {x3 : Int32} {x4 : Int32} {x5 : Int32} {M : Mm} {M' : Mm} (hrc : ∀ (y0 : Int32) (y1 : Int32) (N : Mm) (N' : Mm), rc y0 y1 N = some N' → Fr [(67, 43), (67, 44), (67, 45), (107, 999)] N N') (hk_119 : ∀ (y0 : Int32) (y1 : Int32) (y2 : Int32) (N : Mm) (N' : Mm), k_119 y0 y1 y2 N = some N' → Fr [(67, 43), (67, 44), (67, 45), (107, 999)] N N') (hk_130 : ∀ (y0 : Int32) (y1 : Int32) (y2 : Int32) (y3 : Int32) (y4 : Int32) (N : Mm) (N' : Mm), k_130 y0 y1 y2 y3 y4 N = some N' → Fr [(67, 43), (67, 44), (67, 45), (107, 999)] N N') (h : bb_X10_parts_67_130 rc k_119 k_130 x1 x2 x3 x4 x5 M = some M') : Fr [(67, 43), (67, 44), (67, 45), (107, 999)] M M' := by
  unfold bb_X10_parts_67_130 at h
  rcases ite_ex h with ⟨hc, h⟩ | ⟨hc, h⟩
  · exact z_bb_X10_parts_67_177 hrc hk_119 h
  · rcases ite_ex h with ⟨hc, h⟩ | ⟨hc, h⟩
    · exact z_bb_X10_parts_67_177 hrc hk_119 h
    · obtain ⟨hg0, h⟩ := gd_ex h
      rcases ite_ex h with ⟨hc, h⟩ | ⟨hc, h⟩
      · obtain ⟨hg1, h⟩ := gd_ex h
        obtain ⟨hg2, h⟩ := gd_ex h
        rcases ite_ex h with ⟨hc, h⟩ | ⟨hc, h⟩
        · obtain ⟨x5_10, _, h⟩ := ltv_ex h
          exact hk_130 _ _ _ _ _ _ _ h
        · obtain ⟨x5_11, _, h⟩ := ltv_ex h
          exact hk_130 _ _ _ _ _ _ _ h
      · obtain ⟨x5_6, _, h⟩ := ltv_ex h
        exact hk_130 _ _ _ _ _ _ _ h
theorem z_b_X10_parts_67_130 {rc : Int32 → Int32 → Mm → Option Mm} {k_119 : Int32 → Int32 → Int32 → Mm → Option Mm} (hrc : ∀ (y0 : Int32) (y1 : Int32) (N : Mm) (N' : Mm), rc y0 y1 N = some N' → Fr [(67, 43), (67, 44), (67, 45), (107, 999)] N N') (hk_119 : ∀ (y0 : Int32) (y1 : Int32) (y2 : Int32) (N : Mm) (N' : Mm), k_119 y0 y1 y2 N = some N' → Fr [(67, 43), (67, 44), (67, 45), (107, 999)] N N') : ∀ (n : Nat) (y0 : Int32) (y1 : Int32) (y2 : Int32) (y3 : Int32) (y4 : Int32) (M : Mm) (M' : Mm), b_X10_parts_67_130 rc k_119 n y0 y1 y2 y3 y4 M = some M' → Fr [(67, 43), (67, 44), (67, 45), (107, 999)] M M' := by
  intro n
  induction n with
  | zero =>
    intro y0 y1 y2 y3 y4 M M' h
    have h : (none : Option _) = some _ := h
    cases h
  | succ n ih =>
    intro y0 y1 y2 y3 y4 M M' h
    exact z_bb_X10_parts_67_130 hrc hk_119 (fun y0 y1 y2 y3 y4 M M' h => ih y0 y1 y2 y3 y4 M M' h) h
theorem z_bb_X10_parts_67_119 {rc : Int32 → Int32 → Mm → Option Mm} {k_119 : Int32 → Int32 → Int32 → Mm → Option Mm} {x1 : Int32} {x2 : Int32} {x3 : Int32} {M : Mm} {M' : Mm} (hrc : ∀ (y0 : Int32) (y1 : Int32) (N : Mm) (N' : Mm), rc y0 y1 N = some N' → Fr [(67, 43), (67, 44), (67, 45), (107, 999)] N N') (hk_119 : ∀ (y0 : Int32) (y1 : Int32) (y2 : Int32) (N : Mm) (N' : Mm), k_119 y0 y1 y2 N = some N' → Fr [(67, 43), (67, 44), (67, 45), (107, 999)] N N') (h : bb_X10_parts_67_119 rc k_119 x1 x2 x3 M = some M') : Fr [(67, 43), (67, 44), (67, 45), (107, 999)] M M' := by
  unfold bb_X10_parts_67_119 at h
  rcases ite_ex h with ⟨hc, h⟩ | ⟨hc, h⟩
  · cases h
    exact Fr.refl
  · exact z_b_X10_parts_67_130 hrc hk_119 _ _ _ _ _ _ _ _ h
theorem z_b_X10_parts_67_119 {rc : Int32 → Int32 → Mm → Option Mm} (hrc : ∀ (y0 : Int32) (y1 : Int32) (N : Mm) (N' : Mm), rc y0 y1 N = some N' → Fr [(67, 43), (67, 44), (67, 45), (107, 999)] N N') : ∀ (n : Nat) (y0 : Int32) (y1 : Int32) (y2 : Int32) (M : Mm) (M' : Mm), b_X10_parts_67_119 rc n y0 y1 y2 M = some M' → Fr [(67, 43), (67, 44), (67, 45), (107, 999)] M M' := by
  intro n
  induction n with
  | zero =>
    intro y0 y1 y2 M M' h
    have h : (none : Option _) = some _ := h
    cases h
  | succ n ih =>
    intro y0 y1 y2 M M' h
    exact z_bb_X10_parts_67_119 hrc (fun y0 y1 y2 M M' h => ih y0 y1 y2 M M' h) h
theorem z_bb_X10_parts_67_0 {rc : Int32 → Int32 → Mm → Option Mm} {x1 : Int32} {x2 : Int32} {M : Mm} {M' : Mm} (hrc : ∀ (y0 : Int32) (y1 : Int32) (N : Mm) (N' : Mm), rc y0 y1 N = some N' → Fr [(67, 43), (67, 44), (67, 45), (107, 999)] N N') (h : bb_X10_parts_67_0 rc x1 x2 M = some M') : Fr [(67, 43), (67, 44), (67, 45), (107, 999)] M M' := by
  unfold bb_X10_parts_67_0 at h
  rcases ite_ex h with ⟨hc, h⟩ | ⟨hc, h⟩
  · obtain ⟨M_1, he, h⟩ := ltv_ex h
    refine Fr.tr (M1 := M_1) (by rw [he]; exact Fr.wrI rfl) ?_
    rcases ite_ex h with ⟨hc, h⟩ | ⟨hc, h⟩
    · obtain ⟨M_2, he, h⟩ := ltv_ex h
      refine Fr.tr (M1 := M_2) (by rw [he]; exact Fr.wrI rfl) ?_
      exact z_b_X10_parts_67_48 hrc _ _ _ _ h
    · rcases ite_ex h with ⟨hc, h⟩ | ⟨hc, h⟩
      · obtain ⟨M_3, he, h⟩ := ltv_ex h
        refine Fr.tr (M1 := M_3) (by rw [he]; exact Fr.wrI rfl) ?_
        exact z_b_X10_parts_67_48 hrc _ _ _ _ h
      · obtain ⟨M_4, he, h⟩ := ltv_ex h
        refine Fr.tr (M1 := M_4) (by rw [he]; exact Fr.wrI rfl) ?_
        exact z_b_X10_parts_67_48 hrc _ _ _ _ h
  · exact z_b_X10_parts_67_119 hrc _ _ _ _ _ _ h
theorem z_fr_X10_parts_67  : ∀ (n : Nat) (y0 : Int32) (y1 : Int32) (M : Mm) (M' : Mm), fr_X10_parts_67 n y0 y1 M = some M' → Fr [(67, 43), (67, 44), (67, 45), (107, 999)] M M' := by
  intro n
  induction n with
  | zero =>
    intro y0 y1 M M' h
    have h : (none : Option _) = some _ := h
    cases h
  | succ n ih =>
    intro y0 y1 M M' h
    exact z_bb_X10_parts_67_0 (fun y0 y1 M M' h => ih y0 y1 M M' h) h
theorem z_f_X10_parts_67 {x1 : Int32} {x2 : Int32} {M : Mm} {M' : Mm}  (h : f_X10_parts_67 x1 x2 M = some M') : Fr [(67, 43), (67, 44), (67, 45), (107, 999)] M M' := by
  unfold f_X10_parts_67 at h
  exact z_fr_X10_parts_67 _ _ _ _ _ h
theorem z_bb_X10_partings_67_54 {k_42 : Int32 → Int32 → Int32 → Int32 → Mm → Option (Int32 × Mm)} {k_54 : Int32 → Int32 → Int32 → Int32 → Int32 → Mm → Option (Int32 × Mm)} {x1 : Int32} {x2 : Int32} {x3 : Int32} {x4 : Int32} {x5 : Int32} {M : Mm} {v : Int32} {M' : Mm} (hk_42 : ∀ (y0 : Int32) (y1 : Int32) (y2 : Int32) (y3 : Int32) (N : Mm) (w : Int32) (N' : Mm), k_42 y0 y1 y2 y3 N = some (w, N') → Fr [(67, 0), (67, 43), (67, 44), (67, 45), (107, 999), (112, 999), (113, 999), (114, 999), (115, 999), (116, 999), (117, 999), (118, 999), (119, 999)] N N') (hk_54 : ∀ (y0 : Int32) (y1 : Int32) (y2 : Int32) (y3 : Int32) (y4 : Int32) (N : Mm) (w : Int32) (N' : Mm), k_54 y0 y1 y2 y3 y4 N = some (w, N') → Fr [(67, 0), (67, 43), (67, 44), (67, 45), (107, 999), (112, 999), (113, 999), (114, 999), (115, 999), (116, 999), (117, 999), (118, 999), (119, 999)] N N') (h : bb_X10_partings_67_54 k_42 k_54 x1 x2 x3 x4 x5 M = some (v, M')) : Fr [(67, 0), (67, 43), (67, 44), (67, 45), (107, 999), (112, 999), (113, 999), (114, 999), (115, 999), (116, 999), (117, 999), (118, 999), (119, 999)] M M' := by
  unfold bb_X10_partings_67_54 at h
  rcases ite_ex h with ⟨hc, h⟩ | ⟨hc, h⟩
  · obtain ⟨x4_17, _, h⟩ := ltv_ex h
    exact hk_42 _ _ _ _ _ _ _ h
  · obtain ⟨hg0, h⟩ := gd_ex h
    obtain ⟨v_21, _, h⟩ := bd_ex h
    obtain ⟨hg1, h⟩ := gd_ex h
    obtain ⟨M_23, he, h⟩ := ltv_ex h
    refine Fr.tr (M1 := M_23) (by rw [he]; exact Fr.wIv hg0 rfl) ?_
    obtain ⟨x5_24, _, h⟩ := ltv_ex h
    exact hk_54 _ _ _ _ _ _ _ _ h
theorem z_b_X10_partings_67_54 {k_42 : Int32 → Int32 → Int32 → Int32 → Mm → Option (Int32 × Mm)} (hk_42 : ∀ (y0 : Int32) (y1 : Int32) (y2 : Int32) (y3 : Int32) (N : Mm) (w : Int32) (N' : Mm), k_42 y0 y1 y2 y3 N = some (w, N') → Fr [(67, 0), (67, 43), (67, 44), (67, 45), (107, 999), (112, 999), (113, 999), (114, 999), (115, 999), (116, 999), (117, 999), (118, 999), (119, 999)] N N') : ∀ (n : Nat) (y0 : Int32) (y1 : Int32) (y2 : Int32) (y3 : Int32) (y4 : Int32) (M : Mm) (v : Int32) (M' : Mm), b_X10_partings_67_54 k_42 n y0 y1 y2 y3 y4 M = some (v, M') → Fr [(67, 0), (67, 43), (67, 44), (67, 45), (107, 999), (112, 999), (113, 999), (114, 999), (115, 999), (116, 999), (117, 999), (118, 999), (119, 999)] M M' := by
  intro n
  induction n with
  | zero =>
    intro y0 y1 y2 y3 y4 M v M' h
    have h : (none : Option _) = some _ := h
    cases h
  | succ n ih =>
    intro y0 y1 y2 y3 y4 M v M' h
    exact z_bb_X10_partings_67_54 hk_42 (fun y0 y1 y2 y3 y4 M v M' h => ih y0 y1 y2 y3 y4 M v M' h) h
theorem z_bb_X10_partings_67_42 {k_42 : Int32 → Int32 → Int32 → Int32 → Mm → Option (Int32 × Mm)} {x1 : Int32} {x2 : Int32} {x3 : Int32} {x4 : Int32} {M : Mm} {v : Int32} {M' : Mm} (hk_42 : ∀ (y0 : Int32) (y1 : Int32) (y2 : Int32) (y3 : Int32) (N : Mm) (w : Int32) (N' : Mm), k_42 y0 y1 y2 y3 N = some (w, N') → Fr [(67, 0), (67, 43), (67, 44), (67, 45), (107, 999), (112, 999), (113, 999), (114, 999), (115, 999), (116, 999), (117, 999), (118, 999), (119, 999)] N N') (h : bb_X10_partings_67_42 k_42 x1 x2 x3 x4 M = some (v, M')) : Fr [(67, 0), (67, 43), (67, 44), (67, 45), (107, 999), (112, 999), (113, 999), (114, 999), (115, 999), (116, 999), (117, 999), (118, 999), (119, 999)] M M' := by
  unfold bb_X10_partings_67_42 at h
  rcases ite_ex h with ⟨hc, h⟩ | ⟨hc, h⟩
  · obtain ⟨M_12, he, h⟩ := ltv_ex h
    refine Fr.tr (M1 := M_12) (by rw [he]; exact Fr.wrI rfl) ?_
    obtain ⟨M_13, he, h⟩ := ltv_ex h
    refine Fr.tr (M1 := M_13) (by rw [he]; exact Fr.wrI rfl) ?_
    obtain ⟨M_14, he, h⟩ := ltv_ex h
    refine Fr.tr (M1 := M_14) (by rw [he]; exact Fr.wrI rfl) ?_
    obtain ⟨M_16, hc, h⟩ := bd_ex h
    refine Fr.tr (Fr.sub (z_f_X10_parts_67 hc) rfl) ?_
    rcases ite_ex h with ⟨hc, h⟩ | ⟨hc, h⟩
    · cases h
      exact Fr.refl
    · rcases ite_ex h with ⟨hc, h⟩ | ⟨hc, h⟩
      · cases h
        exact Fr.refl
      · cases h
        exact Fr.refl
  · exact z_b_X10_partings_67_54 hk_42 _ _ _ _ _ _ _ _ _ h
theorem z_b_X10_partings_67_42  : ∀ (n : Nat) (y0 : Int32) (y1 : Int32) (y2 : Int32) (y3 : Int32) (M : Mm) (v : Int32) (M' : Mm), b_X10_partings_67_42 n y0 y1 y2 y3 M = some (v, M') → Fr [(67, 0), (67, 43), (67, 44), (67, 45), (107, 999), (112, 999), (113, 999), (114, 999), (115, 999), (116, 999), (117, 999), (118, 999), (119, 999)] M M' := by
  intro n
  induction n with
  | zero =>
    intro y0 y1 y2 y3 M v M' h
    have h : (none : Option _) = some _ := h
    cases h
  | succ n ih =>
    intro y0 y1 y2 y3 M v M' h
    exact z_bb_X10_partings_67_42 (fun y0 y1 y2 y3 M v M' h => ih y0 y1 y2 y3 M v M' h) h
theorem z_bb_X10_partings_67_25 {x1 : Int32} {x2 : Int32} {x3 : Int32} {M : Mm} {v : Int32} {M' : Mm}  (h : bb_X10_partings_67_25 x1 x2 x3 M = some (v, M')) : Fr [(67, 0), (67, 43), (67, 44), (67, 45), (107, 999), (112, 999), (113, 999), (114, 999), (115, 999), (116, 999), (117, 999), (118, 999), (119, 999)] M M' := by
  unfold bb_X10_partings_67_25 at h
  obtain ⟨v_11, M_10, hc, h⟩ := bd2_ex h
  refine Fr.tr (Fr.sub (z_f_X10_bad_67 hc) rfl) ?_
  rcases ite_ex h with ⟨hc, h⟩ | ⟨hc, h⟩
  · exact z_b_X10_partings_67_42 _ _ _ _ _ _ _ _ h
  · cases h
    exact Fr.refl
theorem z_bb_X10_partings_67_0 {x1 : Int32} {x2 : Int32} {x3 : Int32} {M : Mm} {v : Int32} {M' : Mm}  (h : bb_X10_partings_67_0 x1 x2 x3 M = some (v, M')) : Fr [(67, 0), (67, 43), (67, 44), (67, 45), (107, 999), (112, 999), (113, 999), (114, 999), (115, 999), (116, 999), (117, 999), (118, 999), (119, 999)] M M' := by
  unfold bb_X10_partings_67_0 at h
  obtain ⟨M_1, he, h⟩ := ltv_ex h
  refine Fr.tr (M1 := M_1) (by rw [he]; exact Fr.wrI rfl) ?_
  obtain ⟨v_3, _, h⟩ := bd_ex h
  rcases ite_ex h with ⟨hc, h⟩ | ⟨hc, h⟩
  · exact z_bb_X10_partings_67_25 h
  · obtain ⟨v_5, _, h⟩ := bd_ex h
    rcases ite_ex h with ⟨hc, h⟩ | ⟨hc, h⟩
    · exact z_bb_X10_partings_67_25 h
    · obtain ⟨v_8, M_7, hc, h⟩ := bd2_ex h
      refine Fr.tr (Fr.sub (z_f_X10_bad_67 hc) rfl) ?_
      rcases ite_ex h with ⟨hc, h⟩ | ⟨hc, h⟩
      · exact z_b_X10_partings_67_42 _ _ _ _ _ _ _ _ h
      · cases h
        exact Fr.refl
theorem z_f_X10_partings_67 {x1 : Int32} {x2 : Int32} {x3 : Int32} {M : Mm} {v : Int32} {M' : Mm}  (h : f_X10_partings_67 x1 x2 x3 M = some (v, M')) : Fr [(67, 0), (67, 43), (67, 44), (67, 45), (107, 999), (112, 999), (113, 999), (114, 999), (115, 999), (116, 999), (117, 999), (118, 999), (119, 999)] M M' := by
  unfold f_X10_partings_67 at h
  exact z_bb_X10_partings_67_0 h
theorem z_bb_X10_can_67_0 {M : Mm} {v : Int32} {M' : Mm}  (h : bb_X10_can_67_0 M = some (v, M')) : Fr [(67, 0)] M M' := by
  unfold bb_X10_can_67_0 at h
  obtain ⟨M_1, he, h⟩ := ltv_ex h
  refine Fr.tr (M1 := M_1) (by rw [he]; exact Fr.wrI rfl) ?_
  obtain ⟨v_3, _, h⟩ := bd_ex h
  obtain ⟨hg0, h⟩ := gd_ex h
  cases h
  exact Fr.refl
theorem z_f_X10_can_67 {M : Mm} {v : Int32} {M' : Mm}  (h : f_X10_can_67 M = some (v, M')) : Fr [(67, 0)] M M' := by
  unfold f_X10_can_67 at h
  exact z_bb_X10_can_67_0 h
theorem z_bb_X10_left_67_18 {k_18 : Int32 → Int32 → Mm → Option (Int32 × Mm)} {x1 : Int32} {x2 : Int32} {M : Mm} {v : Int32} {M' : Mm} (hk_18 : ∀ (y0 : Int32) (y1 : Int32) (N : Mm) (w : Int32) (N' : Mm), k_18 y0 y1 N = some (w, N') → Fr [(67, 0), (67, 37), (99, 999), (100, 999), (101, 999), (102, 999), (103, 999)] N N') (h : bb_X10_left_67_18 k_18 x1 x2 M = some (v, M')) : Fr [(67, 0), (67, 37), (99, 999), (100, 999), (101, 999), (102, 999), (103, 999)] M M' := by
  unfold bb_X10_left_67_18 at h
  rcases ite_ex h with ⟨hc, h⟩ | ⟨hc, h⟩
  · obtain ⟨hg0, h⟩ := gd_ex h
    obtain ⟨M_6, hc, h⟩ := bd_ex h
    refine Fr.tr (Fr.sub (z_f_X10_findTakes_67 hc) rfl) ?_
    obtain ⟨hg1, h⟩ := gd_ex h
    obtain ⟨v_9, _, h⟩ := bd_ex h
    obtain ⟨v_12, M_11, hc, h⟩ := bd2_ex h
    refine Fr.tr (Fr.sub (z_f_X10_fewestLines_67 hc) rfl) ?_
    cases h
    exact Fr.refl
  · obtain ⟨hg0, h⟩ := gd_ex h
    rcases ite_ex h with ⟨hc, h⟩ | ⟨hc, h⟩
    · obtain ⟨hg1, h⟩ := gd_ex h
      rcases ite_ex h with ⟨hc, h⟩ | ⟨hc, h⟩
      · obtain ⟨x1_17, _, h⟩ := ltv_ex h
        obtain ⟨x2_18, _, h⟩ := ltv_ex h
        exact hk_18 _ _ _ _ _ h
      · obtain ⟨x1_19, _, h⟩ := ltv_ex h
        obtain ⟨x2_20, _, h⟩ := ltv_ex h
        exact hk_18 _ _ _ _ _ h
    · obtain ⟨x1_14, _, h⟩ := ltv_ex h
      obtain ⟨x2_15, _, h⟩ := ltv_ex h
      exact hk_18 _ _ _ _ _ h
theorem z_b_X10_left_67_18  : ∀ (n : Nat) (y0 : Int32) (y1 : Int32) (M : Mm) (v : Int32) (M' : Mm), b_X10_left_67_18 n y0 y1 M = some (v, M') → Fr [(67, 0), (67, 37), (99, 999), (100, 999), (101, 999), (102, 999), (103, 999)] M M' := by
  intro n
  induction n with
  | zero =>
    intro y0 y1 M v M' h
    have h : (none : Option _) = some _ := h
    cases h
  | succ n ih =>
    intro y0 y1 M v M' h
    exact z_bb_X10_left_67_18 (fun y0 y1 M v M' h => ih y0 y1 M v M' h) h
theorem z_bb_X10_left_67_0 {M : Mm} {v : Int32} {M' : Mm}  (h : bb_X10_left_67_0 M = some (v, M')) : Fr [(67, 0), (67, 37), (99, 999), (100, 999), (101, 999), (102, 999), (103, 999)] M M' := by
  unfold bb_X10_left_67_0 at h
  obtain ⟨M_1, he, h⟩ := ltv_ex h
  refine Fr.tr (M1 := M_1) (by rw [he]; exact Fr.wrI rfl) ?_
  obtain ⟨v_3, _, h⟩ := bd_ex h
  rcases ite_ex h with ⟨hc, h⟩ | ⟨hc, h⟩
  · cases h
    exact Fr.refl
  · exact z_b_X10_left_67_18 _ _ _ _ _ _ h
theorem z_f_X10_left_67 {M : Mm} {v : Int32} {M' : Mm}  (h : f_X10_left_67 M = some (v, M')) : Fr [(67, 0), (67, 37), (99, 999), (100, 999), (101, 999), (102, 999), (103, 999)] M M' := by
  unfold f_X10_left_67 at h
  exact z_bb_X10_left_67_0 h
theorem z_bb_X10_nearest_67_45 {k_45 : Int64 → Int32 → Int32 → Int32 → Int32 → Int32 → Mm → Option (Int32 × Mm)} {x1 : Int64} {x3 : Int32} {x4 : Int32} {x5 : Int32} {x6 : Int32} {x7 : Int32} {M : Mm} {v : Int32} {M' : Mm} (hk_45 : ∀ (y0 : Int64) (y1 : Int32) (y2 : Int32) (y3 : Int32) (y4 : Int32) (y5 : Int32) (N : Mm) (w : Int32) (N' : Mm), k_45 y0 y1 y2 y3 y4 y5 N = some (w, N') → Fr [(67, 0)] N N') (h : bb_X10_nearest_67_45 k_45 x1 x3 x4 x5 x6 x7 M = some (v, M')) : Fr [(67, 0)] M M' := by
  unfold bb_X10_nearest_67_45 at h
  rcases ite_ex h with ⟨hc, h⟩ | ⟨hc, h⟩
  · rcases ite_ex h with ⟨hc, h⟩ | ⟨hc, h⟩
    · cases h
      exact Fr.refl
    · cases h
      exact Fr.refl
  · obtain ⟨hg0, h⟩ := gd_ex h
    obtain ⟨v_9, _, h⟩ := bd_ex h
    rcases ite_ex h with ⟨hc, h⟩ | ⟨hc, h⟩
    · obtain ⟨x7_10, _, h⟩ := ltv_ex h
      exact hk_45 _ _ _ _ _ _ _ _ _ h
    · rcases ite_ex h with ⟨hc, h⟩ | ⟨hc, h⟩
      · obtain ⟨x7_11, _, h⟩ := ltv_ex h
        exact hk_45 _ _ _ _ _ _ _ _ _ h
      · obtain ⟨x7_12, _, h⟩ := ltv_ex h
        exact hk_45 _ _ _ _ _ _ _ _ _ h
theorem z_b_X10_nearest_67_45  : ∀ (n : Nat) (y0 : Int64) (y1 : Int32) (y2 : Int32) (y3 : Int32) (y4 : Int32) (y5 : Int32) (M : Mm) (v : Int32) (M' : Mm), b_X10_nearest_67_45 n y0 y1 y2 y3 y4 y5 M = some (v, M') → Fr [(67, 0)] M M' := by
  intro n
  induction n with
  | zero =>
    intro y0 y1 y2 y3 y4 y5 M v M' h
    have h : (none : Option _) = some _ := h
    cases h
  | succ n ih =>
    intro y0 y1 y2 y3 y4 y5 M v M' h
    exact z_bb_X10_nearest_67_45 (fun y0 y1 y2 y3 y4 y5 M v M' h => ih y0 y1 y2 y3 y4 y5 M v M' h) h
theorem z_bb_X10_nearest_67_27 {x1 : Int64} {x3 : Int32} {x4 : Int32} {s1 : Int32} {M : Mm} {v : Int32} {M' : Mm}  (h : bb_X10_nearest_67_27 x1 x3 x4 s1 M = some (v, M')) : Fr [(67, 0)] M M' := by
  unfold bb_X10_nearest_67_27 at h
  obtain ⟨v_6, M_5, hc, h⟩ := bd2_ex h
  refine Fr.tr (Fr.sub (z_f_X10_bad_67 hc) rfl) ?_
  rcases ite_ex h with ⟨hc, h⟩ | ⟨hc, h⟩
  · exact z_b_X10_nearest_67_45 _ _ _ _ _ _ _ _ _ _ h
  · cases h
    exact Fr.refl
theorem z_bb_X10_nearest_67_22 {x1 : Int64} {x3 : Int32} {x4 : Int32} {M : Mm} {v : Int32} {M' : Mm}  (h : bb_X10_nearest_67_22 x1 x3 x4 M = some (v, M')) : Fr [(67, 0)] M M' := by
  unfold bb_X10_nearest_67_22 at h
  exact z_bb_X10_nearest_67_27 h
theorem z_bb_X10_nearest_67_0 {x1 : Int64} {x3 : Int32} {x4 : Int32} {M : Mm} {v : Int32} {M' : Mm}  (h : bb_X10_nearest_67_0 x1 x3 x4 M = some (v, M')) : Fr [(67, 0)] M M' := by
  unfold bb_X10_nearest_67_0 at h
  obtain ⟨M_1, he, h⟩ := ltv_ex h
  refine Fr.tr (M1 := M_1) (by rw [he]; exact Fr.wrI rfl) ?_
  rcases ite_ex h with ⟨hc, h⟩ | ⟨hc, h⟩
  · exact z_bb_X10_nearest_67_22 h
  · obtain ⟨v_3, _, h⟩ := bd_ex h
    rcases ite_ex h with ⟨hc, h⟩ | ⟨hc, h⟩
    · exact z_bb_X10_nearest_67_22 h
    · exact z_bb_X10_nearest_67_27 h
theorem z_f_X10_nearest_67 {x1 : Int64} {x3 : Int32} {x4 : Int32} {M : Mm} {v : Int32} {M' : Mm}  (h : f_X10_nearest_67 x1 x3 x4 M = some (v, M')) : Fr [(67, 0)] M M' := by
  unfold f_X10_nearest_67 at h
  exact z_bb_X10_nearest_67_0 h
theorem z_bb_X10_originals_67_125 {k_34 : Int32 → Int32 → Int32 → Int32 → Mm → Option (Int32 × Mm)} {x1 : Int32} {x2 : Int32} {x3 : Int32} {x4 : Int32} {x5 : Int32} {M : Mm} {v : Int32} {M' : Mm} (hk_34 : ∀ (y0 : Int32) (y1 : Int32) (y2 : Int32) (y3 : Int32) (N : Mm) (w : Int32) (N' : Mm), k_34 y0 y1 y2 y3 N = some (w, N') → Fr [(67, 0)] N N') (h : bb_X10_originals_67_125 k_34 x1 x2 x3 x4 x5 M = some (v, M')) : Fr [(67, 0)] M M' := by
  unfold bb_X10_originals_67_125 at h
  rcases ite_ex h with ⟨hc, h⟩ | ⟨hc, h⟩
  · obtain ⟨x3_18, _, h⟩ := ltv_ex h
    obtain ⟨x4_19, _, h⟩ := ltv_ex h
    exact hk_34 _ _ _ _ _ _ _ h
  · obtain ⟨x3_20, _, h⟩ := ltv_ex h
    obtain ⟨x4_21, _, h⟩ := ltv_ex h
    exact hk_34 _ _ _ _ _ _ _ h
theorem z_bb_X10_originals_67_67 {k_34 : Int32 → Int32 → Int32 → Int32 → Mm → Option (Int32 × Mm)} {k_67 : Int32 → Int32 → Int32 → Int32 → Int32 → Int32 → Mm → Option (Int32 × Mm)} {x1 : Int32} {x2 : Int32} {x3 : Int32} {x4 : Int32} {x5 : Int32} {x6 : Int32} {M : Mm} {v : Int32} {M' : Mm} (hk_34 : ∀ (y0 : Int32) (y1 : Int32) (y2 : Int32) (y3 : Int32) (N : Mm) (w : Int32) (N' : Mm), k_34 y0 y1 y2 y3 N = some (w, N') → Fr [(67, 0)] N N') (hk_67 : ∀ (y0 : Int32) (y1 : Int32) (y2 : Int32) (y3 : Int32) (y4 : Int32) (y5 : Int32) (N : Mm) (w : Int32) (N' : Mm), k_67 y0 y1 y2 y3 y4 y5 N = some (w, N') → Fr [(67, 0)] N N') (h : bb_X10_originals_67_67 k_34 k_67 x1 x2 x3 x4 x5 x6 M = some (v, M')) : Fr [(67, 0)] M M' := by
  unfold bb_X10_originals_67_67 at h
  rcases ite_ex h with ⟨hc, h⟩ | ⟨hc, h⟩
  · exact z_bb_X10_originals_67_125 hk_34 h
  · rcases ite_ex h with ⟨hc, h⟩ | ⟨hc, h⟩
    · exact z_bb_X10_originals_67_125 hk_34 h
    · obtain ⟨hg0, h⟩ := gd_ex h
      rcases ite_ex h with ⟨hc, h⟩ | ⟨hc, h⟩
      · obtain ⟨x6_11, _, h⟩ := ltv_ex h
        exact hk_67 _ _ _ _ _ _ _ _ _ h
      · obtain ⟨hg1, h⟩ := gd_ex h
        obtain ⟨hg2, h⟩ := gd_ex h
        obtain ⟨v_15, _, h⟩ := bd_ex h
        rcases ite_ex h with ⟨hc, h⟩ | ⟨hc, h⟩
        · obtain ⟨x6_16, _, h⟩ := ltv_ex h
          exact hk_67 _ _ _ _ _ _ _ _ _ h
        · obtain ⟨x6_17, _, h⟩ := ltv_ex h
          exact hk_67 _ _ _ _ _ _ _ _ _ h
theorem z_b_X10_originals_67_67 {k_34 : Int32 → Int32 → Int32 → Int32 → Mm → Option (Int32 × Mm)} (hk_34 : ∀ (y0 : Int32) (y1 : Int32) (y2 : Int32) (y3 : Int32) (N : Mm) (w : Int32) (N' : Mm), k_34 y0 y1 y2 y3 N = some (w, N') → Fr [(67, 0)] N N') : ∀ (n : Nat) (y0 : Int32) (y1 : Int32) (y2 : Int32) (y3 : Int32) (y4 : Int32) (y5 : Int32) (M : Mm) (v : Int32) (M' : Mm), b_X10_originals_67_67 k_34 n y0 y1 y2 y3 y4 y5 M = some (v, M') → Fr [(67, 0)] M M' := by
  intro n
  induction n with
  | zero =>
    intro y0 y1 y2 y3 y4 y5 M v M' h
    have h : (none : Option _) = some _ := h
    cases h
  | succ n ih =>
    intro y0 y1 y2 y3 y4 y5 M v M' h
    exact z_bb_X10_originals_67_67 hk_34 (fun y0 y1 y2 y3 y4 y5 M v M' h => ih y0 y1 y2 y3 y4 y5 M v M' h) h
theorem z_bb_X10_originals_67_34 {k_34 : Int32 → Int32 → Int32 → Int32 → Mm → Option (Int32 × Mm)} {x1 : Int32} {x2 : Int32} {x3 : Int32} {x4 : Int32} {M : Mm} {v : Int32} {M' : Mm} (hk_34 : ∀ (y0 : Int32) (y1 : Int32) (y2 : Int32) (y3 : Int32) (N : Mm) (w : Int32) (N' : Mm), k_34 y0 y1 y2 y3 N = some (w, N') → Fr [(67, 0)] N N') (h : bb_X10_originals_67_34 k_34 x1 x2 x3 x4 M = some (v, M')) : Fr [(67, 0)] M M' := by
  unfold bb_X10_originals_67_34 at h
  rcases ite_ex h with ⟨hc, h⟩ | ⟨hc, h⟩
  · rcases ite_ex h with ⟨hc, h⟩ | ⟨hc, h⟩
    · obtain ⟨v_8, _, h⟩ := bd_ex h
      cases h
      exact Fr.refl
    · cases h
      exact Fr.refl
  · obtain ⟨hg0, h⟩ := gd_ex h
    rcases ite_ex h with ⟨hc, h⟩ | ⟨hc, h⟩
    · exact z_b_X10_originals_67_67 hk_34 _ _ _ _ _ _ _ _ _ _ h
    · exact z_b_X10_originals_67_67 hk_34 _ _ _ _ _ _ _ _ _ _ h
theorem z_b_X10_originals_67_34  : ∀ (n : Nat) (y0 : Int32) (y1 : Int32) (y2 : Int32) (y3 : Int32) (M : Mm) (v : Int32) (M' : Mm), b_X10_originals_67_34 n y0 y1 y2 y3 M = some (v, M') → Fr [(67, 0)] M M' := by
  intro n
  induction n with
  | zero =>
    intro y0 y1 y2 y3 M v M' h
    have h : (none : Option _) = some _ := h
    cases h
  | succ n ih =>
    intro y0 y1 y2 y3 M v M' h
    exact z_bb_X10_originals_67_34 (fun y0 y1 y2 y3 M v M' h => ih y0 y1 y2 y3 M v M' h) h
theorem z_bb_X10_originals_67_20 {x1 : Int32} {x2 : Int32} {s1 : Int32} {M : Mm} {v : Int32} {M' : Mm}  (h : bb_X10_originals_67_20 x1 x2 s1 M = some (v, M')) : Fr [(67, 0)] M M' := by
  unfold bb_X10_originals_67_20 at h
  obtain ⟨v_6, M_5, hc, h⟩ := bd2_ex h
  refine Fr.tr (Fr.sub (z_f_X10_bad_67 hc) rfl) ?_
  rcases ite_ex h with ⟨hc, h⟩ | ⟨hc, h⟩
  · exact z_b_X10_originals_67_34 _ _ _ _ _ _ _ _ h
  · cases h
    exact Fr.refl
theorem z_bb_X10_originals_67_0 {x1 : Int32} {x2 : Int32} {M : Mm} {v : Int32} {M' : Mm}  (h : bb_X10_originals_67_0 x1 x2 M = some (v, M')) : Fr [(67, 0)] M M' := by
  unfold bb_X10_originals_67_0 at h
  obtain ⟨M_1, he, h⟩ := ltv_ex h
  refine Fr.tr (M1 := M_1) (by rw [he]; exact Fr.wrI rfl) ?_
  obtain ⟨v_3, _, h⟩ := bd_ex h
  rcases ite_ex h with ⟨hc, h⟩ | ⟨hc, h⟩
  · exact z_bb_X10_originals_67_20 h
  · exact z_bb_X10_originals_67_20 h
theorem z_f_X10_originals_67 {x1 : Int32} {x2 : Int32} {M : Mm} {v : Int32} {M' : Mm}  (h : f_X10_originals_67 x1 x2 M = some (v, M')) : Fr [(67, 0)] M M' := by
  unfold f_X10_originals_67 at h
  exact z_bb_X10_originals_67_0 h
theorem z_bb_X10_fount_67_50 {k_50 : Int32 → Int32 → Int32 → Int32 → Int32 → Int32 → Mm → Option (Int32 × Mm)} {x1 : Int32} {x2 : Int32} {x3 : Int32} {x4 : Int32} {x5 : Int32} {x6 : Int32} {M : Mm} {v : Int32} {M' : Mm} (hk_50 : ∀ (y0 : Int32) (y1 : Int32) (y2 : Int32) (y3 : Int32) (y4 : Int32) (y5 : Int32) (N : Mm) (w : Int32) (N' : Mm), k_50 y0 y1 y2 y3 y4 y5 N = some (w, N') → Fr [(67, 0), (108, 999)] N N') (h : bb_X10_fount_67_50 k_50 x1 x2 x3 x4 x5 x6 M = some (v, M')) : Fr [(67, 0), (108, 999)] M M' := by
  unfold bb_X10_fount_67_50 at h
  rcases ite_ex h with ⟨hc, h⟩ | ⟨hc, h⟩
  · obtain ⟨v_11, M_10, hc, h⟩ := bd2_ex h
    refine Fr.tr (Fr.sub (z_f_X10_findSet_67 hc) rfl) ?_
    obtain ⟨v_13, _, h⟩ := bd_ex h
    cases h
    exact Fr.refl
  · rcases ite_ex h with ⟨hc, h⟩ | ⟨hc, h⟩
    · obtain ⟨x6_14, _, h⟩ := ltv_ex h
      exact hk_50 _ _ _ _ _ _ _ _ _ h
    · rcases ite_ex h with ⟨hc, h⟩ | ⟨hc, h⟩
      · obtain ⟨x4_15, _, h⟩ := ltv_ex h
        obtain ⟨x6_16, _, h⟩ := ltv_ex h
        exact hk_50 _ _ _ _ _ _ _ _ _ h
      · rcases ite_ex h with ⟨hc, h⟩ | ⟨hc, h⟩
        · obtain ⟨x4_17, _, h⟩ := ltv_ex h
          obtain ⟨x6_18, _, h⟩ := ltv_ex h
          exact hk_50 _ _ _ _ _ _ _ _ _ h
        · obtain ⟨x6_19, _, h⟩ := ltv_ex h
          exact hk_50 _ _ _ _ _ _ _ _ _ h
theorem z_b_X10_fount_67_50  : ∀ (n : Nat) (y0 : Int32) (y1 : Int32) (y2 : Int32) (y3 : Int32) (y4 : Int32) (y5 : Int32) (M : Mm) (v : Int32) (M' : Mm), b_X10_fount_67_50 n y0 y1 y2 y3 y4 y5 M = some (v, M') → Fr [(67, 0), (108, 999)] M M' := by
  intro n
  induction n with
  | zero =>
    intro y0 y1 y2 y3 y4 y5 M v M' h
    have h : (none : Option _) = some _ := h
    cases h
  | succ n ih =>
    intro y0 y1 y2 y3 y4 y5 M v M' h
    exact z_bb_X10_fount_67_50 (fun y0 y1 y2 y3 y4 y5 M v M' h => ih y0 y1 y2 y3 y4 y5 M v M' h) h
theorem z_bb_X10_fount_67_32 {x1 : Int32} {x2 : Int32} {x3 : Int32} {s1 : Int32} {M : Mm} {v : Int32} {M' : Mm}  (h : bb_X10_fount_67_32 x1 x2 x3 s1 M = some (v, M')) : Fr [(67, 0), (108, 999)] M M' := by
  unfold bb_X10_fount_67_32 at h
  obtain ⟨v_8, M_7, hc, h⟩ := bd2_ex h
  refine Fr.tr (Fr.sub (z_f_X10_bad_67 hc) rfl) ?_
  rcases ite_ex h with ⟨hc, h⟩ | ⟨hc, h⟩
  · exact z_b_X10_fount_67_50 _ _ _ _ _ _ _ _ _ _ h
  · cases h
    exact Fr.refl
theorem z_bb_X10_fount_67_27 {x1 : Int32} {x2 : Int32} {x3 : Int32} {M : Mm} {v : Int32} {M' : Mm}  (h : bb_X10_fount_67_27 x1 x2 x3 M = some (v, M')) : Fr [(67, 0), (108, 999)] M M' := by
  unfold bb_X10_fount_67_27 at h
  exact z_bb_X10_fount_67_32 h
theorem z_bb_X10_fount_67_0 {x1 : Int32} {x2 : Int32} {x3 : Int32} {M : Mm} {v : Int32} {M' : Mm}  (h : bb_X10_fount_67_0 x1 x2 x3 M = some (v, M')) : Fr [(67, 0), (108, 999)] M M' := by
  unfold bb_X10_fount_67_0 at h
  obtain ⟨M_1, he, h⟩ := ltv_ex h
  refine Fr.tr (M1 := M_1) (by rw [he]; exact Fr.wrI rfl) ?_
  obtain ⟨v_3, _, h⟩ := bd_ex h
  rcases ite_ex h with ⟨hc, h⟩ | ⟨hc, h⟩
  · exact z_bb_X10_fount_67_27 h
  · obtain ⟨v_5, _, h⟩ := bd_ex h
    rcases ite_ex h with ⟨hc, h⟩ | ⟨hc, h⟩
    · exact z_bb_X10_fount_67_27 h
    · exact z_bb_X10_fount_67_32 h
theorem z_f_X10_fount_67 {x1 : Int32} {x2 : Int32} {x3 : Int32} {M : Mm} {v : Int32} {M' : Mm}  (h : f_X10_fount_67 x1 x2 x3 M = some (v, M')) : Fr [(67, 0), (108, 999)] M M' := by
  unfold f_X10_fount_67 at h
  exact z_bb_X10_fount_67_0 h
theorem z_bb_X10_count_67_0 {x1 : Int32} {M : Mm} {v : Int32} {M' : Mm}  (h : bb_X10_count_67_0 x1 M = some (v, M')) : Fr [(67, 0)] M M' := by
  unfold bb_X10_count_67_0 at h
  obtain ⟨M_1, he, h⟩ := ltv_ex h
  refine Fr.tr (M1 := M_1) (by rw [he]; exact Fr.wrI rfl) ?_
  rcases ite_ex h with ⟨hc, h⟩ | ⟨hc, h⟩
  · cases h
    exact Fr.refl
  · rcases ite_ex h with ⟨hc, h⟩ | ⟨hc, h⟩
    · cases h
      exact Fr.refl
    · rcases ite_ex h with ⟨hc, h⟩ | ⟨hc, h⟩
      · cases h
        exact Fr.refl
      · rcases ite_ex h with ⟨hc, h⟩ | ⟨hc, h⟩
        · cases h
          exact Fr.refl
        · cases h
          exact Fr.refl
theorem z_f_X10_count_67 {x1 : Int32} {M : Mm} {v : Int32} {M' : Mm}  (h : f_X10_count_67 x1 M = some (v, M')) : Fr [(67, 0)] M M' := by
  unfold f_X10_count_67 at h
  exact z_bb_X10_count_67_0 h
