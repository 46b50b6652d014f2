theorem z_bb_X10_feed_67_76 {k_23 : Int32 → Int32 → Int32 → Int32 → Int32 → Int32 → Mm → Option (Int32 × Mm)} {x1 : Int32} {x2 : Int32} {x3 : Int32} {x4 : Int32} {x5 : Int32} {x6 : Int32} {s0 : Int32} {M : Mm} {v : Int32} {M' : Mm} (hk_23 : ∀ (y0 : Int32) (y1 : Int32) (y2 : Int32) (y3 : Int32) (y4 : Int32) (y5 : Int32) (N : Mm) (w : Int32) (N' : Mm), k_23 y0 y1 y2 y3 y4 y5 N = some (w, N') → Fr [(67, 0), (67, 1), (68, 999)] N N') (h : bb_X10_feed_67_76 k_23 x1 x2 x3 x4 x5 x6 s0 M = some (v, M')) : Fr [(67, 0), (67, 1), (68, 999)] M M' := by
  unfold bb_X10_feed_67_76 at h
  obtain ⟨hg0, h⟩ := gd_ex h
  obtain ⟨M_3, he, h⟩ := ltv_ex h
  refine Fr.tr (M1 := M_3) (by rw [he]; exact Fr.wIa rfl) ?_
  obtain ⟨M_4, he, h⟩ := ltv_ex h
  refine Fr.tr (M1 := M_4) (by rw [he]; exact Fr.wrI rfl) ?_
  obtain ⟨x6_5, _, h⟩ := ltv_ex h
  exact hk_23 _ _ _ _ _ _ _ _ _ h
theorem z_bb_X10_feed_67_23 {k_23 : Int32 → Int32 → Int32 → Int32 → Int32 → Int32 → Mm → Option (Int32 × Mm)} {x1 : Int32} {x2 : Int32} {x3 : Int32} {x4 : Int32} {x5 : Int32} {x6 : Int32} {M : Mm} {v : Int32} {M' : Mm} (hk_23 : ∀ (y0 : Int32) (y1 : Int32) (y2 : Int32) (y3 : Int32) (y4 : Int32) (y5 : Int32) (N : Mm) (w : Int32) (N' : Mm), k_23 y0 y1 y2 y3 y4 y5 N = some (w, N') → Fr [(67, 0), (67, 1), (68, 999)] N N') (h : bb_X10_feed_67_23 k_23 x1 x2 x3 x4 x5 x6 M = some (v, M')) : Fr [(67, 0), (67, 1), (68, 999)] M M' := by
  unfold bb_X10_feed_67_23 at h
  rcases ite_ex h with ⟨hc, h⟩ | ⟨hc, h⟩
  · cases h
    exact Fr.refl
  · rcases ite_ex h with ⟨hc, h⟩ | ⟨hc, h⟩
    · rcases ite_ex h with ⟨hc, h⟩ | ⟨hc, h⟩
      · rcases ite_ex h with ⟨hc, h⟩ | ⟨hc, h⟩
        · rcases ite_ex h with ⟨hc, h⟩ | ⟨hc, h⟩
          · exact z_bb_X10_feed_67_76 hk_23 h
          · exact z_bb_X10_feed_67_76 hk_23 h
        · exact z_bb_X10_feed_67_76 hk_23 h
      · exact z_bb_X10_feed_67_76 hk_23 h
    · exact z_bb_X10_feed_67_76 hk_23 h
theorem z_b_X10_feed_67_23  : ∀ (n : Nat) (y0 : Int32) (y1 : Int32) (y2 : Int32) (y3 : Int32) (y4 : Int32) (y5 : Int32) (M : Mm) (v : Int32) (M' : Mm), b_X10_feed_67_23 n y0 y1 y2 y3 y4 y5 M = some (v, M') → Fr [(67, 0), (67, 1), (68, 999)] M M' := by
  intro n
  induction n with
  | zero =>
    intro y0 y1 y2 y3 y4 y5 M v M' h
    have h : (none : Option _) = some _ := h
    cases h
  | succ n ih =>
    intro y0 y1 y2 y3 y4 y5 M v M' h
    exact z_bb_X10_feed_67_23 (fun y0 y1 y2 y3 y4 y5 M v M' h => ih y0 y1 y2 y3 y4 y5 M v M' h) h
theorem z_bb_X10_feed_67_0 {x1 : Int32} {x2 : Int32} {x3 : Int32} {x4 : Int32} {x5 : Int32} {M : Mm} {v : Int32} {M' : Mm}  (h : bb_X10_feed_67_0 x1 x2 x3 x4 x5 M = some (v, M')) : Fr [(67, 0), (67, 1), (68, 999)] M M' := by
  unfold bb_X10_feed_67_0 at h
  obtain ⟨M_1, he, h⟩ := ltv_ex h
  refine Fr.tr (M1 := M_1) (by rw [he]; exact Fr.wrI rfl) ?_
  rcases ite_ex h with ⟨hc, h⟩ | ⟨hc, h⟩
  · exact z_b_X10_feed_67_23 _ _ _ _ _ _ _ _ _ _ h
  · cases h
    exact Fr.refl
theorem z_f_X10_feed_67 {x1 : Int32} {x2 : Int32} {x3 : Int32} {x4 : Int32} {x5 : Int32} {M : Mm} {v : Int32} {M' : Mm}  (h : f_X10_feed_67 x1 x2 x3 x4 x5 M = some (v, M')) : Fr [(67, 0), (67, 1), (68, 999)] M M' := by
  unfold f_X10_feed_67 at h
  exact z_bb_X10_feed_67_0 h
theorem z_bb_X10_bad_67_0 {x1 : Int32} {x2 : Int32} {M : Mm} {v : Int32} {M' : Mm}  (h : bb_X10_bad_67_0 x1 x2 M = some (v, M')) : Fr [(67, 0)] M M' := by
  unfold bb_X10_bad_67_0 at h
  rcases ite_ex h with ⟨hc, h⟩ | ⟨hc, h⟩
  · rcases ite_ex h with ⟨hc, h⟩ | ⟨hc, h⟩
    · cases h
      exact Fr.refl
    · cases h
      exact Fr.refl
  · rcases ite_ex h with ⟨hc, h⟩ | ⟨hc, h⟩
    · obtain ⟨M_1, he, h⟩ := ltv_ex h
      refine Fr.tr (M1 := M_1) (by rw [he]; exact Fr.wrI rfl) ?_
      rcases ite_ex h with ⟨hc, h⟩ | ⟨hc, h⟩
      · cases h
        exact Fr.refl
      · cases h
        exact Fr.refl
    · rcases ite_ex h with ⟨hc, h⟩ | ⟨hc, h⟩
      · cases h
        exact Fr.refl
      · cases h
        exact Fr.refl
theorem z_f_X10_bad_67 {x1 : Int32} {x2 : Int32} {M : Mm} {v : Int32} {M' : Mm}  (h : f_X10_bad_67 x1 x2 M = some (v, M')) : Fr [(67, 0)] M M' := by
  unfold f_X10_bad_67 at h
  exact z_bb_X10_bad_67_0 h
theorem z_bb_X10_blanks_67_0 {k_0 : Mm → Option Mm} {M : Mm} {M' : Mm} (hk_0 : ∀ (N : Mm) (N' : Mm), k_0 N = some N' → Fr [(67, 4)] N N') (h : bb_X10_blanks_67_0 k_0 M = some M') : Fr [(67, 4)] M M' := by
  unfold bb_X10_blanks_67_0 at h
  obtain ⟨v_2, _, h⟩ := bd_ex h
  rcases ite_ex h with ⟨hc, h⟩ | ⟨hc, h⟩
  · obtain ⟨M_3, he, h⟩ := ltv_ex h
    refine Fr.tr (M1 := M_3) (by rw [he]; exact Fr.wrI rfl) ?_
    exact hk_0 _ _ h
  · cases h
    exact Fr.refl
theorem z_b_X10_blanks_67_0  : ∀ (n : Nat) (M : Mm) (M' : Mm), b_X10_blanks_67_0 n M = some M' → Fr [(67, 4)] M M' := by
  intro n
  induction n with
  | zero =>
    intro M M' h
    have h : (none : Option _) = some _ := h
    cases h
  | succ n ih =>
    intro M M' h
    exact z_bb_X10_blanks_67_0 (fun M M' h => ih M M' h) h
theorem z_f_X10_blanks_67 {M : Mm} {M' : Mm}  (h : f_X10_blanks_67 M = some M') : Fr [(67, 4)] M M' := by
  unfold f_X10_blanks_67 at h
  exact z_b_X10_blanks_67_0 _ _ _ h
theorem z_bb_X10_wordHere_67_8 {k_8 : Int32 → Int32 → Mm → Option (Int32 × Mm)} {x1 : Int32} {x2 : Int32} {M : Mm} {v : Int32} {M' : Mm} (hk_8 : ∀ (y0 : Int32) (y1 : Int32) (N : Mm) (w : Int32) (N' : Mm), k_8 y0 y1 N = some (w, N') → Fr [(67, 4)] N N') (h : bb_X10_wordHere_67_8 k_8 x1 x2 M = some (v, M')) : Fr [(67, 4)] M M' := by
  unfold bb_X10_wordHere_67_8 at h
  obtain ⟨v_4, _, h⟩ := bd_ex h
  rcases ite_ex h with ⟨hc, h⟩ | ⟨hc, h⟩
  · rcases ite_ex h with ⟨hc, h⟩ | ⟨hc, h⟩
    · cases h
      exact Fr.refl
    · cases h
      exact Fr.refl
  · obtain ⟨v_6, _, h⟩ := bd_ex h
    rcases ite_ex h with ⟨hc, h⟩ | ⟨hc, h⟩
    · rcases ite_ex h with ⟨hc, h⟩ | ⟨hc, h⟩
      · cases h
        exact Fr.refl
      · cases h
        exact Fr.refl
    · rcases ite_ex h with ⟨hc, h⟩ | ⟨hc, h⟩
      · obtain ⟨x2_7, _, h⟩ := ltv_ex h
        exact hk_8 _ _ _ _ _ h
      · obtain ⟨v_9, _, h⟩ := bd_ex h
        obtain ⟨x1_10, _, h⟩ := ltv_ex h
        obtain ⟨x2_11, _, h⟩ := ltv_ex h
        exact hk_8 _ _ _ _ _ h
theorem z_b_X10_wordHere_67_8  : ∀ (n : Nat) (y0 : Int32) (y1 : Int32) (M : Mm) (v : Int32) (M' : Mm), b_X10_wordHere_67_8 n y0 y1 M = some (v, M') → Fr [(67, 4)] M M' := by
  intro n
  induction n with
  | zero =>
    intro y0 y1 M v M' h
    have h : (none : Option _) = some _ := h
    cases h
  | succ n ih =>
    intro y0 y1 M v M' h
    exact z_bb_X10_wordHere_67_8 (fun y0 y1 M v M' h => ih y0 y1 M v M' h) h
theorem z_bb_X10_wordHere_67_0 {M : Mm} {v : Int32} {M' : Mm}  (h : bb_X10_wordHere_67_0 M = some (v, M')) : Fr [(67, 4)] M M' := by
  unfold bb_X10_wordHere_67_0 at h
  obtain ⟨M_2, hc, h⟩ := bd_ex h
  refine Fr.tr (Fr.sub (z_f_X10_blanks_67 hc) rfl) ?_
  exact z_b_X10_wordHere_67_8 _ _ _ _ _ _ h
theorem z_f_X10_wordHere_67 {M : Mm} {v : Int32} {M' : Mm}  (h : f_X10_wordHere_67 M = some (v, M')) : Fr [(67, 4)] M M' := by
  unfold f_X10_wordHere_67 at h
  exact z_bb_X10_wordHere_67_0 h
theorem z_bb_X10_isWord_67_0 {x1 : Int32} {x2 : Int32} {x3 : Int32} {x4 : Int32} {x5 : Int32} {x6 : Int32} {M : Mm} {v : Int32} {M' : Mm}  (h : bb_X10_isWord_67_0 x1 x2 x3 x4 x5 x6 M = some (v, M')) : Fr [(67, 4)] M M' := by
  unfold bb_X10_isWord_67_0 at h
  rcases ite_ex h with ⟨hc, h⟩ | ⟨hc, h⟩
  · obtain ⟨v_3, M_2, hc, h⟩ := bd2_ex h
    refine Fr.tr (Fr.sub (z_f_X10_wordHere_67 hc) rfl) ?_
    obtain ⟨v_5, _, h⟩ := bd_ex h
    rcases ite_ex h with ⟨hc, h⟩ | ⟨hc, h⟩
    · cases h
      exact Fr.refl
    · cases h
      exact Fr.refl
  · cases h
    exact Fr.refl
theorem z_f_X10_isWord_67 {x1 : Int32} {x2 : Int32} {x3 : Int32} {x4 : Int32} {x5 : Int32} {x6 : Int32} {M : Mm} {v : Int32} {M' : Mm}  (h : f_X10_isWord_67 x1 x2 x3 x4 x5 x6 M = some (v, M')) : Fr [(67, 4)] M M' := by
  unfold f_X10_isWord_67 at h
  exact z_bb_X10_isWord_67_0 h
theorem z_bb_X10_kindHere_67_0 {M : Mm} {v : Int32} {M' : Mm}  (h : bb_X10_kindHere_67_0 M = some (v, M')) : Fr [(67, 4)] M M' := by
  unfold bb_X10_kindHere_67_0 at h
  obtain ⟨v_3, M_2, hc, h⟩ := bd2_ex h
  refine Fr.tr (Fr.sub (z_f_X10_isWord_67 hc) rfl) ?_
  rcases ite_ex h with ⟨hc, h⟩ | ⟨hc, h⟩
  · obtain ⟨v_6, M_5, hc, h⟩ := bd2_ex h
    refine Fr.tr (Fr.sub (z_f_X10_isWord_67 hc) rfl) ?_
    rcases ite_ex h with ⟨hc, h⟩ | ⟨hc, h⟩
    · obtain ⟨v_9, M_8, hc, h⟩ := bd2_ex h
      refine Fr.tr (Fr.sub (z_f_X10_isWord_67 hc) rfl) ?_
      rcases ite_ex h with ⟨hc, h⟩ | ⟨hc, h⟩
      · obtain ⟨v_12, M_11, hc, h⟩ := bd2_ex h
        refine Fr.tr (Fr.sub (z_f_X10_isWord_67 hc) rfl) ?_
        rcases ite_ex h with ⟨hc, h⟩ | ⟨hc, h⟩
        · obtain ⟨v_15, M_14, hc, h⟩ := bd2_ex h
          refine Fr.tr (Fr.sub (z_f_X10_isWord_67 hc) rfl) ?_
          rcases ite_ex h with ⟨hc, h⟩ | ⟨hc, h⟩
          · obtain ⟨v_18, M_17, hc, h⟩ := bd2_ex h
            refine Fr.tr (Fr.sub (z_f_X10_isWord_67 hc) rfl) ?_
            rcases ite_ex h with ⟨hc, h⟩ | ⟨hc, h⟩
            · obtain ⟨v_21, M_20, hc, h⟩ := bd2_ex h
              refine Fr.tr (Fr.sub (z_f_X10_isWord_67 hc) rfl) ?_
              rcases ite_ex h with ⟨hc, h⟩ | ⟨hc, h⟩
              · obtain ⟨v_24, M_23, hc, h⟩ := bd2_ex h
                refine Fr.tr (Fr.sub (z_f_X10_isWord_67 hc) rfl) ?_
                rcases ite_ex h with ⟨hc, h⟩ | ⟨hc, h⟩
                · cases h
                  exact Fr.refl
                · cases h
                  exact Fr.refl
              · cases h
                exact Fr.refl
            · cases h
              exact Fr.refl
          · cases h
            exact Fr.refl
        · cases h
          exact Fr.refl
      · cases h
        exact Fr.refl
    · cases h
      exact Fr.refl
  · cases h
    exact Fr.refl
theorem z_f_X10_kindHere_67 {M : Mm} {v : Int32} {M' : Mm}  (h : f_X10_kindHere_67 M = some (v, M')) : Fr [(67, 4)] M M' := by
  unfold f_X10_kindHere_67 at h
  exact z_bb_X10_kindHere_67_0 h
theorem z_bb_X10_wrong_67_0 {x1 : Int32} {x2 : Int32} {M : Mm} {M' : Mm}  (h : bb_X10_wrong_67_0 x1 x2 M = some M') : Fr [(67, 5), (67, 6)] M M' := by
  unfold bb_X10_wrong_67_0 at h
  rcases ite_ex h with ⟨hc, h⟩ | ⟨hc, h⟩
  · obtain ⟨M_1, he, h⟩ := ltv_ex h
    refine Fr.tr (M1 := M_1) (by rw [he]; exact Fr.wrI rfl) ?_
    obtain ⟨M_2, he, h⟩ := ltv_ex h
    refine Fr.tr (M1 := M_2) (by rw [he]; exact Fr.wrI rfl) ?_
    cases h
    exact Fr.refl
  · cases h
    exact Fr.refl
theorem z_f_X10_wrong_67 {x1 : Int32} {x2 : Int32} {M : Mm} {M' : Mm}  (h : f_X10_wrong_67 x1 x2 M = some M') : Fr [(67, 5), (67, 6)] M M' := by
  unfold f_X10_wrong_67 at h
  exact z_bb_X10_wrong_67_0 h
theorem z_bb_X10_skipWord_67_0 {k_0 : Mm → Option Mm} {M : Mm} {M' : Mm} (hk_0 : ∀ (N : Mm) (N' : Mm), k_0 N = some N' → Fr [(67, 4)] N N') (h : bb_X10_skipWord_67_0 k_0 M = some M') : Fr [(67, 4)] M M' := by
  unfold bb_X10_skipWord_67_0 at h
  obtain ⟨v_2, _, h⟩ := bd_ex h
  rcases ite_ex h with ⟨hc, h⟩ | ⟨hc, h⟩
  · cases h
    exact Fr.refl
  · obtain ⟨v_4, _, h⟩ := bd_ex h
    rcases ite_ex h with ⟨hc, h⟩ | ⟨hc, h⟩
    · cases h
      exact Fr.refl
    · obtain ⟨M_5, he, h⟩ := ltv_ex h
      refine Fr.tr (M1 := M_5) (by rw [he]; exact Fr.wrI rfl) ?_
      exact hk_0 _ _ h
theorem z_b_X10_skipWord_67_0  : ∀ (n : Nat) (M : Mm) (M' : Mm), b_X10_skipWord_67_0 n M = some M' → Fr [(67, 4)] M M' := by
  intro n
  induction n with
  | zero =>
    intro M M' h
    have h : (none : Option _) = some _ := h
    cases h
  | succ n ih =>
    intro M M' h
    exact z_bb_X10_skipWord_67_0 (fun M M' h => ih M M' h) h
theorem z_f_X10_skipWord_67 {M : Mm} {M' : Mm}  (h : f_X10_skipWord_67 M = some M') : Fr [(67, 4)] M M' := by
  unfold f_X10_skipWord_67 at h
  exact z_b_X10_skipWord_67_0 _ _ _ h
theorem z_bb_X10_numberHere_67_44 {k_44 : Int32 → Int32 → Int32 → Int32 → Mm → Option (Int32 × Mm)} {x1 : Int32} {x2 : Int32} {x3 : Int32} {x4 : Int32} {M : Mm} {v : Int32} {M' : Mm} (hk_44 : ∀ (y0 : Int32) (y1 : Int32) (y2 : Int32) (y3 : Int32) (N : Mm) (w : Int32) (N' : Mm), k_44 y0 y1 y2 y3 N = some (w, N') → Fr [(67, 4), (67, 5), (67, 6)] N N') (h : bb_X10_numberHere_67_44 k_44 x1 x2 x3 x4 M = some (v, M')) : Fr [(67, 4), (67, 5), (67, 6)] M M' := by
  unfold bb_X10_numberHere_67_44 at h
  obtain ⟨v_11, _, h⟩ := bd_ex h
  obtain ⟨v_13, _, h⟩ := bd_ex h
  rcases ite_ex h with ⟨hc, h⟩ | ⟨hc, h⟩
  · obtain ⟨v_15, _, h⟩ := bd_ex h
    rcases ite_ex h with ⟨hc, h⟩ | ⟨hc, h⟩
    · obtain ⟨M_17, hc, h⟩ := bd_ex h
      refine Fr.tr (Fr.sub (z_f_X10_wrong_67 hc) rfl) ?_
      rcases ite_ex h with ⟨hc, h⟩ | ⟨hc, h⟩
      · cases h
        exact Fr.refl
      · cases h
        exact Fr.refl
    · rcases ite_ex h with ⟨hc, h⟩ | ⟨hc, h⟩
      · cases h
        exact Fr.refl
      · cases h
        exact Fr.refl
  · obtain ⟨v_19, _, h⟩ := bd_ex h
    obtain ⟨x4_20, _, h⟩ := ltv_ex h
    rcases ite_ex h with ⟨hc, h⟩ | ⟨hc, h⟩
    · obtain ⟨M_21, he, h⟩ := ltv_ex h
      refine Fr.tr (M1 := M_21) (by rw [he]; exact Fr.wrI rfl) ?_
      exact hk_44 _ _ _ _ _ _ _ h
    · obtain ⟨M_22, he, h⟩ := ltv_ex h
      refine Fr.tr (M1 := M_22) (by rw [he]; exact Fr.wrI rfl) ?_
      exact hk_44 _ _ _ _ _ _ _ h
theorem z_b_X10_numberHere_67_44  : ∀ (n : Nat) (y0 : Int32) (y1 : Int32) (y2 : Int32) (y3 : Int32) (M : Mm) (v : Int32) (M' : Mm), b_X10_numberHere_67_44 n y0 y1 y2 y3 M = some (v, M') → Fr [(67, 4), (67, 5), (67, 6)] M M' := by
  intro n
  induction n with
  | zero =>
    intro y0 y1 y2 y3 M v M' h
    have h : (none : Option _) = some _ := h
    cases h
  | succ n ih =>
    intro y0 y1 y2 y3 M v M' h
    exact z_bb_X10_numberHere_67_44 (fun y0 y1 y2 y3 M v M' h => ih y0 y1 y2 y3 M v M' h) h
theorem z_bb_X10_numberHere_67_0 {x1 : Int32} {x2 : Int32} {M : Mm} {v : Int32} {M' : Mm}  (h : bb_X10_numberHere_67_0 x1 x2 M = some (v, M')) : Fr [(67, 4), (67, 5), (67, 6)] M M' := by
  unfold bb_X10_numberHere_67_0 at h
  rcases ite_ex h with ⟨hc, h⟩ | ⟨hc, h⟩
  · obtain ⟨M_2, hc, h⟩ := bd_ex h
    refine Fr.tr (Fr.sub (z_f_X10_blanks_67 hc) rfl) ?_
    obtain ⟨x3_3, _, h⟩ := ltv_ex h
    obtain ⟨v_5, _, h⟩ := bd_ex h
    obtain ⟨v_7, _, h⟩ := bd_ex h
    rcases ite_ex h with ⟨hc, h⟩ | ⟨hc, h⟩
    · obtain ⟨M_9, hc, h⟩ := bd_ex h
      refine Fr.tr (Fr.sub (z_f_X10_wrong_67 hc) rfl) ?_
      exact z_b_X10_numberHere_67_44 _ _ _ _ _ _ _ _ h
    · exact z_b_X10_numberHere_67_44 _ _ _ _ _ _ _ _ h
  · cases h
    exact Fr.refl
theorem z_f_X10_numberHere_67 {x1 : Int32} {x2 : Int32} {M : Mm} {v : Int32} {M' : Mm}  (h : f_X10_numberHere_67 x1 x2 M = some (v, M')) : Fr [(67, 4), (67, 5), (67, 6)] M M' := by
  unfold f_X10_numberHere_67 at h
  exact z_bb_X10_numberHere_67_0 h
theorem z_bb_X10_readsSpread_67_0 {M : Mm} {M' : Mm}  (h : bb_X10_readsSpread_67_0 M = some M') : Fr [(67, 4), (67, 5), (67, 6), (89, 999)] M M' := by
  unfold bb_X10_readsSpread_67_0 at h
  obtain ⟨v_3, M_2, hc, h⟩ := bd2_ex h
  refine Fr.tr (Fr.sub (z_f_X10_numberHere_67 hc) rfl) ?_
  obtain ⟨v_6, M_5, hc, h⟩ := bd2_ex h
  refine Fr.tr (Fr.sub (z_f_X10_numberHere_67 hc) rfl) ?_
  rcases ite_ex h with ⟨hc, h⟩ | ⟨hc, h⟩
  · obtain ⟨hg0, h⟩ := gd_ex h
    obtain ⟨M_8, he, h⟩ := ltv_ex h
    refine Fr.tr (M1 := M_8) (by rw [he]; exact Fr.wIa rfl) ?_
    cases h
    exact Fr.refl
  · cases h
    exact Fr.refl
theorem z_f_X10_readsSpread_67 {M : Mm} {M' : Mm}  (h : f_X10_readsSpread_67 M = some M') : Fr [(67, 4), (67, 5), (67, 6), (89, 999)] M M' := by
  unfold f_X10_readsSpread_67 at h
  exact z_bb_X10_readsSpread_67_0 h
theorem z_bb_X10_sign_67_0 {x1 : Int32} {M : Mm} {M' : Mm}  (h : bb_X10_sign_67_0 x1 M = some M') : Fr [(67, 4), (67, 5), (67, 6)] M M' := by
  unfold bb_X10_sign_67_0 at h
  rcases ite_ex h with ⟨hc, h⟩ | ⟨hc, h⟩
  · obtain ⟨M_2, hc, h⟩ := bd_ex h
    refine Fr.tr (Fr.sub (z_f_X10_blanks_67 hc) rfl) ?_
    obtain ⟨v_4, _, h⟩ := bd_ex h
    rcases ite_ex h with ⟨hc, h⟩ | ⟨hc, h⟩
    · obtain ⟨M_7, he, h⟩ := ltv_ex h
      refine Fr.tr (M1 := M_7) (by rw [he]; exact Fr.wrI rfl) ?_
      cases h
      exact Fr.refl
    · obtain ⟨M_6, hc, h⟩ := bd_ex h
      refine Fr.tr (Fr.sub (z_f_X10_wrong_67 hc) rfl) ?_
      cases h
      exact Fr.refl
  · cases h
    exact Fr.refl
theorem z_f_X10_sign_67 {x1 : Int32} {M : Mm} {M' : Mm}  (h : f_X10_sign_67 x1 M = some M') : Fr [(67, 4), (67, 5), (67, 6)] M M' := by
  unfold f_X10_sign_67 at h
  exact z_bb_X10_sign_67_0 h
theorem z_bb_X10_readsWord_67_89 {k_36 : Int32 → Int32 → Int32 → Mm → Option Mm} {x1 : Int32} {x2 : Int32} {x4 : Int32} {s0 : Int32} {M : Mm} {M' : Mm} (hk_36 : ∀ (y0 : Int32) (y1 : Int32) (y2 : Int32) (N : Mm) (N' : Mm), k_36 y0 y1 y2 N = some N' → Fr [(67, 4), (67, 5), (67, 6), (69, 1), (74, 999), (75, 999), (76, 999), (77, 999), (78, 999), (79, 999), (87, 999)] N N') (h : bb_X10_readsWord_67_89 k_36 x1 x2 x4 s0 M = some M') : Fr [(67, 4), (67, 5), (67, 6), (69, 1), (74, 999), (75, 999), (76, 999), (77, 999), (78, 999), (79, 999), (87, 999)] M M' := by
  unfold bb_X10_readsWord_67_89 at h
  rcases ite_ex h with ⟨hc, h⟩ | ⟨hc, h⟩
  · obtain ⟨x2_22, _, h⟩ := ltv_ex h
    obtain ⟨M_23, he, h⟩ := ltv_ex h
    refine Fr.tr (M1 := M_23) (by rw [he]; exact Fr.wrI rfl) ?_
    exact hk_36 _ _ _ _ _ h
  · obtain ⟨hg0, h⟩ := gd_ex h
    obtain ⟨hg1, h⟩ := gd_ex h
    obtain ⟨M_27, he, h⟩ := ltv_ex h
    refine Fr.tr (M1 := M_27) (by rw [he]; exact Fr.wIv hg0 rfl) ?_
    obtain ⟨x2_28, _, h⟩ := ltv_ex h
    obtain ⟨M_29, he, h⟩ := ltv_ex h
    refine Fr.tr (M1 := M_29) (by rw [he]; exact Fr.wrI rfl) ?_
    exact hk_36 _ _ _ _ _ h
theorem z_bb_X10_readsWord_67_88 {k_36 : Int32 → Int32 → Int32 → Mm → Option Mm} {x1 : Int32} {x2 : Int32} {x4 : Int32} {M : Mm} {M' : Mm} (hk_36 : ∀ (y0 : Int32) (y1 : Int32) (y2 : Int32) (N : Mm) (N' : Mm), k_36 y0 y1 y2 N = some N' → Fr [(67, 4), (67, 5), (67, 6), (69, 1), (74, 999), (75, 999), (76, 999), (77, 999), (78, 999), (79, 999), (87, 999)] N N') (h : bb_X10_readsWord_67_88 k_36 x1 x2 x4 M = some M') : Fr [(67, 4), (67, 5), (67, 6), (69, 1), (74, 999), (75, 999), (76, 999), (77, 999), (78, 999), (79, 999), (87, 999)] M M' := by
  unfold bb_X10_readsWord_67_88 at h
  exact z_bb_X10_readsWord_67_89 hk_36 h
theorem z_bb_X10_readsWord_67_137 {x2 : Int32} {M : Mm} {M' : Mm}  (h : bb_X10_readsWord_67_137 x2 M = some M') : Fr [(67, 4), (67, 5), (67, 6), (69, 1), (74, 999), (75, 999), (76, 999), (77, 999), (78, 999), (79, 999), (87, 999)] M M' := by
  unfold bb_X10_readsWord_67_137 at h
  rcases ite_ex h with ⟨hc, h⟩ | ⟨hc, h⟩
  · obtain ⟨hg0, h⟩ := gd_ex h
    obtain ⟨M_20, he, h⟩ := ltv_ex h
    refine Fr.tr (M1 := M_20) (by rw [he]; exact Fr.wIa rfl) ?_
    obtain ⟨M_21, he, h⟩ := ltv_ex h
    refine Fr.tr (M1 := M_21) (by rw [he]; exact Fr.wrI rfl) ?_
    cases h
    exact Fr.refl
  · cases h
    exact Fr.refl
theorem z_bb_X10_readsWord_67_36 {k_36 : Int32 → Int32 → Int32 → Mm → Option Mm} {x1 : Int32} {x2 : Int32} {x3 : Int32} {M : Mm} {M' : Mm} (hk_36 : ∀ (y0 : Int32) (y1 : Int32) (y2 : Int32) (N : Mm) (N' : Mm), k_36 y0 y1 y2 N = some N' → Fr [(67, 4), (67, 5), (67, 6), (69, 1), (74, 999), (75, 999), (76, 999), (77, 999), (78, 999), (79, 999), (87, 999)] N N') (h : bb_X10_readsWord_67_36 k_36 x1 x2 x3 M = some M') : Fr [(67, 4), (67, 5), (67, 6), (69, 1), (74, 999), (75, 999), (76, 999), (77, 999), (78, 999), (79, 999), (87, 999)] M M' := by
  unfold bb_X10_readsWord_67_36 at h
  obtain ⟨v_11, _, h⟩ := bd_ex h
  obtain ⟨v_13, _, h⟩ := bd_ex h
  rcases ite_ex h with ⟨hc, h⟩ | ⟨hc, h⟩
  · rcases ite_ex h with ⟨hc, h⟩ | ⟨hc, h⟩
    · obtain ⟨M_15, hc, h⟩ := bd_ex h
      refine Fr.tr (Fr.sub (z_f_X10_wrong_67 hc) rfl) ?_
      exact z_bb_X10_readsWord_67_137 h
    · exact z_bb_X10_readsWord_67_137 h
  · obtain ⟨v_17, _, h⟩ := bd_ex h
    obtain ⟨x4_18, _, h⟩ := ltv_ex h
    rcases ite_ex h with ⟨hc, h⟩ | ⟨hc, h⟩
    · exact z_bb_X10_readsWord_67_88 hk_36 h
    · rcases ite_ex h with ⟨hc, h⟩ | ⟨hc, h⟩
      · exact z_bb_X10_readsWord_67_88 hk_36 h
      · rcases ite_ex h with ⟨hc, h⟩ | ⟨hc, h⟩
        · exact z_bb_X10_readsWord_67_88 hk_36 h
        · exact z_bb_X10_readsWord_67_89 hk_36 h
theorem z_b_X10_readsWord_67_36  : ∀ (n : Nat) (y0 : Int32) (y1 : Int32) (y2 : Int32) (M : Mm) (M' : Mm), b_X10_readsWord_67_36 n y0 y1 y2 M = some M' → Fr [(67, 4), (67, 5), (67, 6), (69, 1), (74, 999), (75, 999), (76, 999), (77, 999), (78, 999), (79, 999), (87, 999)] M M' := by
  intro n
  induction n with
  | zero =>
    intro y0 y1 y2 M M' h
    have h : (none : Option _) = some _ := h
    cases h
  | succ n ih =>
    intro y0 y1 y2 M M' h
    exact z_bb_X10_readsWord_67_36 (fun y0 y1 y2 M M' h => ih y0 y1 y2 M M' h) h
theorem z_bb_X10_readsWord_67_0 {M : Mm} {M' : Mm}  (h : bb_X10_readsWord_67_0 M = some M') : Fr [(67, 4), (67, 5), (67, 6), (69, 1), (74, 999), (75, 999), (76, 999), (77, 999), (78, 999), (79, 999), (87, 999)] M M' := by
  unfold bb_X10_readsWord_67_0 at h
  obtain ⟨M_2, hc, h⟩ := bd_ex h
  refine Fr.tr (Fr.sub (z_f_X10_blanks_67 hc) rfl) ?_
  obtain ⟨x1_3, _, h⟩ := ltv_ex h
  obtain ⟨v_5, _, h⟩ := bd_ex h
  obtain ⟨v_7, _, h⟩ := bd_ex h
  rcases ite_ex h with ⟨hc, h⟩ | ⟨hc, h⟩
  · obtain ⟨M_9, hc, h⟩ := bd_ex h
    refine Fr.tr (Fr.sub (z_f_X10_wrong_67 hc) rfl) ?_
    exact z_b_X10_readsWord_67_36 _ _ _ _ _ _ h
  · exact z_b_X10_readsWord_67_36 _ _ _ _ _ _ h
theorem z_f_X10_readsWord_67 {M : Mm} {M' : Mm}  (h : f_X10_readsWord_67 M = some M') : Fr [(67, 4), (67, 5), (67, 6), (69, 1), (74, 999), (75, 999), (76, 999), (77, 999), (78, 999), (79, 999), (87, 999)] M M' := by
  unfold f_X10_readsWord_67 at h
  exact z_bb_X10_readsWord_67_0 h
theorem z_bb_X10_readsBar_67_162 {k_60 : Int32 → Int32 → Int32 → Int32 → Int32 → Int32 → Int32 → Mm → Option Mm} {x1 : Int32} {x2 : Int32} {x3 : Int32} {x4 : Int32} {x5 : Int32} {x6 : Int32} {x7 : Int32} {x9 : Int64} {M : Mm} {M' : Mm} (hk_60 : ∀ (y0 : Int32) (y1 : Int32) (y2 : Int32) (y3 : Int32) (y4 : Int32) (y5 : Int32) (y6 : Int32) (N : Mm) (N' : Mm), k_60 y0 y1 y2 y3 y4 y5 y6 N = some N' → Fr [(67, 4), (67, 5), (67, 6), (71, 999)] N N') (h : bb_X10_readsBar_67_162 k_60 x1 x2 x3 x4 x5 x6 x7 x9 M = some M') : Fr [(67, 4), (67, 5), (67, 6), (71, 999)] M M' := by
  unfold bb_X10_readsBar_67_162 at h
  obtain ⟨y_21, _, h⟩ := ltv_ex h
  obtain ⟨hg0, h⟩ := gd_ex h
  obtain ⟨hg1, h⟩ := gd_ex h
  obtain ⟨M_24, he, h⟩ := ltv_ex h
  refine Fr.tr (M1 := M_24) (by rw [he]; exact Fr.wJa rfl) ?_
  obtain ⟨x7_25, _, h⟩ := ltv_ex h
  exact hk_60 _ _ _ _ _ _ _ _ _ h
theorem z_bb_X10_readsBar_67_108 {k_60 : Int32 → Int32 → Int32 → Int32 → Int32 → Int32 → Int32 → Mm → Option Mm} {x1 : Int32} {x2 : Int32} {x3 : Int32} {x4 : Int32} {x5 : Int32} {x6 : Int32} {x7 : Int32} {s0 : Int32} {M : Mm} {M' : Mm} (hk_60 : ∀ (y0 : Int32) (y1 : Int32) (y2 : Int32) (y3 : Int32) (y4 : Int32) (y5 : Int32) (y6 : Int32) (N : Mm) (N' : Mm), k_60 y0 y1 y2 y3 y4 y5 y6 N = some N' → Fr [(67, 4), (67, 5), (67, 6), (71, 999)] N N') (h : bb_X10_readsBar_67_108 k_60 x1 x2 x3 x4 x5 x6 x7 s0 M = some M') : Fr [(67, 4), (67, 5), (67, 6), (71, 999)] M M' := by
  unfold bb_X10_readsBar_67_108 at h
  obtain ⟨x9_14, _, h⟩ := ltv_ex h
  rcases ite_ex h with ⟨hc, h⟩ | ⟨hc, h⟩
  · obtain ⟨y_16, _, h⟩ := ltv_ex h
    obtain ⟨hg0, h⟩ := gd_ex h
    obtain ⟨hg1, h⟩ := gd_ex h
    obtain ⟨M_19, he, h⟩ := ltv_ex h
    refine Fr.tr (M1 := M_19) (by rw [he]; exact Fr.wJa rfl) ?_
    obtain ⟨x7_20, _, h⟩ := ltv_ex h
    exact hk_60 _ _ _ _ _ _ _ _ _ h
  · rcases ite_ex h with ⟨hc, h⟩ | ⟨hc, h⟩
    · exact z_bb_X10_readsBar_67_162 hk_60 h
    · rcases ite_ex h with ⟨hc, h⟩ | ⟨hc, h⟩
      · obtain ⟨x7_15, _, h⟩ := ltv_ex h
        exact hk_60 _ _ _ _ _ _ _ _ _ h
      · exact z_bb_X10_readsBar_67_162 hk_60 h
theorem z_bb_X10_readsBar_67_103 {k_60 : Int32 → Int32 → Int32 → Int32 → Int32 → Int32 → Int32 → Mm → Option Mm} {x1 : Int32} {x2 : Int32} {x3 : Int32} {x4 : Int32} {x5 : Int32} {x6 : Int32} {x7 : Int32} {M : Mm} {M' : Mm} (hk_60 : ∀ (y0 : Int32) (y1 : Int32) (y2 : Int32) (y3 : Int32) (y4 : Int32) (y5 : Int32) (y6 : Int32) (N : Mm) (N' : Mm), k_60 y0 y1 y2 y3 y4 y5 y6 N = some N' → Fr [(67, 4), (67, 5), (67, 6), (71, 999)] N N') (h : bb_X10_readsBar_67_103 k_60 x1 x2 x3 x4 x5 x6 x7 M = some M') : Fr [(67, 4), (67, 5), (67, 6), (71, 999)] M M' := by
  unfold bb_X10_readsBar_67_103 at h
  exact z_bb_X10_readsBar_67_108 hk_60 h
theorem z_bb_X10_readsBar_67_60 {k_41 : Int32 → Int32 → Int32 → Int32 → Int32 → Int32 → Mm → Option Mm} {k_60 : Int32 → Int32 → Int32 → Int32 → Int32 → Int32 → Int32 → Mm → Option Mm} {x1 : Int32} {x2 : Int32} {x3 : Int32} {x4 : Int32} {x5 : Int32} {x6 : Int32} {x7 : Int32} {M : Mm} {M' : Mm} (hk_41 : ∀ (y0 : Int32) (y1 : Int32) (y2 : Int32) (y3 : Int32) (y4 : Int32) (y5 : Int32) (N : Mm) (N' : Mm), k_41 y0 y1 y2 y3 y4 y5 N = some N' → Fr [(67, 4), (67, 5), (67, 6), (71, 999)] N N') (hk_60 : ∀ (y0 : Int32) (y1 : Int32) (y2 : Int32) (y3 : Int32) (y4 : Int32) (y5 : Int32) (y6 : Int32) (N : Mm) (N' : Mm), k_60 y0 y1 y2 y3 y4 y5 y6 N = some N' → Fr [(67, 4), (67, 5), (67, 6), (71, 999)] N N') (h : bb_X10_readsBar_67_60 k_41 k_60 x1 x2 x3 x4 x5 x6 x7 M = some M') : Fr [(67, 4), (67, 5), (67, 6), (71, 999)] M M' := by
  unfold bb_X10_readsBar_67_60 at h
  rcases ite_ex h with ⟨hc, h⟩ | ⟨hc, h⟩
  · obtain ⟨x6_13, _, h⟩ := ltv_ex h
    exact hk_41 _ _ _ _ _ _ _ _ h
  · rcases ite_ex h with ⟨hc, h⟩ | ⟨hc, h⟩
    · exact z_bb_X10_readsBar_67_103 hk_60 h
    · rcases ite_ex h with ⟨hc, h⟩ | ⟨hc, h⟩
      · exact z_bb_X10_readsBar_67_103 hk_60 h
      · rcases ite_ex h with ⟨hc, h⟩ | ⟨hc, h⟩
        · exact z_bb_X10_readsBar_67_103 hk_60 h
        · rcases ite_ex h with ⟨hc, h⟩ | ⟨hc, h⟩
          · exact z_bb_X10_readsBar_67_103 hk_60 h
          · exact z_bb_X10_readsBar_67_108 hk_60 h
theorem z_b_X10_readsBar_67_60 {k_41 : Int32 → Int32 → Int32 → Int32 → Int32 → Int32 → Mm → Option Mm} (hk_41 : ∀ (y0 : Int32) (y1 : Int32) (y2 : Int32) (y3 : Int32) (y4 : Int32) (y5 : Int32) (N : Mm) (N' : Mm), k_41 y0 y1 y2 y3 y4 y5 N = some N' → Fr [(67, 4), (67, 5), (67, 6), (71, 999)] N N') : ∀ (n : Nat) (y0 : Int32) (y1 : Int32) (y2 : Int32) (y3 : Int32) (y4 : Int32) (y5 : Int32) (y6 : Int32) (M : Mm) (M' : Mm), b_X10_readsBar_67_60 k_41 n y0 y1 y2 y3 y4 y5 y6 M = some M' → Fr [(67, 4), (67, 5), (67, 6), (71, 999)] M M' := by
  intro n
  induction n with
  | zero =>
    intro y0 y1 y2 y3 y4 y5 y6 M M' h
    have h : (none : Option _) = some _ := h
    cases h
  | succ n ih =>
    intro y0 y1 y2 y3 y4 y5 y6 M M' h
    exact z_bb_X10_readsBar_67_60 hk_41 (fun y0 y1 y2 y3 y4 y5 y6 M M' h => ih y0 y1 y2 y3 y4 y5 y6 M M' h) h
theorem z_bb_X10_readsBar_67_41 {k_41 : Int32 → Int32 → Int32 → Int32 → Int32 → Int32 → Mm → Option Mm} {x1 : Int32} {x2 : Int32} {x3 : Int32} {x4 : Int32} {x5 : Int32} {x6 : Int32} {M : Mm} {M' : Mm} (hk_41 : ∀ (y0 : Int32) (y1 : Int32) (y2 : Int32) (y3 : Int32) (y4 : Int32) (y5 : Int32) (N : Mm) (N' : Mm), k_41 y0 y1 y2 y3 y4 y5 N = some N' → Fr [(67, 4), (67, 5), (67, 6), (71, 999)] N N') (h : bb_X10_readsBar_67_41 k_41 x1 x2 x3 x4 x5 x6 M = some M') : Fr [(67, 4), (67, 5), (67, 6), (71, 999)] M M' := by
  unfold bb_X10_readsBar_67_41 at h
  rcases ite_ex h with ⟨hc, h⟩ | ⟨hc, h⟩
  · cases h
    exact Fr.refl
  · rcases ite_ex h with ⟨hc, h⟩ | ⟨hc, h⟩
    · exact z_b_X10_readsBar_67_60 hk_41 _ _ _ _ _ _ _ _ _ _ h
    · cases h
      exact Fr.refl
theorem z_b_X10_readsBar_67_41  : ∀ (n : Nat) (y0 : Int32) (y1 : Int32) (y2 : Int32) (y3 : Int32) (y4 : Int32) (y5 : Int32) (M : Mm) (M' : Mm), b_X10_readsBar_67_41 n y0 y1 y2 y3 y4 y5 M = some M' → Fr [(67, 4), (67, 5), (67, 6), (71, 999)] M M' := by
  intro n
  induction n with
  | zero =>
    intro y0 y1 y2 y3 y4 y5 M M' h
    have h : (none : Option _) = some _ := h
    cases h
  | succ n ih =>
    intro y0 y1 y2 y3 y4 y5 M M' h
    exact z_bb_X10_readsBar_67_41 (fun y0 y1 y2 y3 y4 y5 M M' h => ih y0 y1 y2 y3 y4 y5 M M' h) h
theorem z_bb_X10_readsBar_67_0 {x1 : Int32} {M : Mm} {M' : Mm}  (h : bb_X10_readsBar_67_0 x1 M = some M') : Fr [(67, 4), (67, 5), (67, 6), (71, 999)] M M' := by
  unfold bb_X10_readsBar_67_0 at h
  obtain ⟨v_3, M_2, hc, h⟩ := bd2_ex h
  refine Fr.tr (Fr.sub (z_f_X10_numberHere_67 hc) rfl) ?_
  obtain ⟨v_6, M_5, hc, h⟩ := bd2_ex h
  refine Fr.tr (Fr.sub (z_f_X10_numberHere_67 hc) rfl) ?_
  obtain ⟨v_9, M_8, hc, h⟩ := bd2_ex h
  refine Fr.tr (Fr.sub (z_f_X10_numberHere_67 hc) rfl) ?_
  obtain ⟨v_12, M_11, hc, h⟩ := bd2_ex h
  refine Fr.tr (Fr.sub (z_f_X10_numberHere_67 hc) rfl) ?_
  exact z_b_X10_readsBar_67_41 _ _ _ _ _ _ _ _ _ h
theorem z_f_X10_readsBar_67 {x1 : Int32} {M : Mm} {M' : Mm}  (h : f_X10_readsBar_67 x1 M = some M') : Fr [(67, 4), (67, 5), (67, 6), (71, 999)] M M' := by
  unfold f_X10_readsBar_67 at h
  exact z_bb_X10_readsBar_67_0 h
theorem z_bb_X10_readsLetter_67_33 {k_33 : Int32 → Int64 → Int64 → Int32 → Mm → Option Mm} {x1 : Int32} {x2 : Int64} {x4 : Int64} {x6 : Int32} {M : Mm} {M' : Mm} (hk_33 : ∀ (y0 : Int32) (y1 : Int64) (y2 : Int64) (y3 : Int32) (N : Mm) (N' : Mm), k_33 y0 y1 y2 y3 N = some N' → Fr [(67, 4), (67, 5), (67, 6), (69, 0), (71, 999)] N N') (h : bb_X10_readsLetter_67_33 k_33 x1 x2 x4 x6 M = some M') : Fr [(67, 4), (67, 5), (67, 6), (69, 0), (71, 999)] M M' := by
  unfold bb_X10_readsLetter_67_33 at h
  rcases ite_ex h with ⟨hc, h⟩ | ⟨hc, h⟩
  · rcases ite_ex h with ⟨hc, h⟩ | ⟨hc, h⟩
    · obtain ⟨hg0, h⟩ := gd_ex h
      obtain ⟨M_7, he, h⟩ := ltv_ex h
      refine Fr.tr (M1 := M_7) (by rw [he]; exact Fr.wJa rfl) ?_
      obtain ⟨M_8, he, h⟩ := ltv_ex h
      refine Fr.tr (M1 := M_8) (by rw [he]; exact Fr.wrI rfl) ?_
      cases h
      exact Fr.refl
    · cases h
      exact Fr.refl
  · obtain ⟨v_10, _, h⟩ := bd_ex h
    rcases ite_ex h with ⟨hc, h⟩ | ⟨hc, h⟩
    · obtain ⟨x6_11, _, h⟩ := ltv_ex h
      exact hk_33 _ _ _ _ _ _ h
    · rcases ite_ex h with ⟨hc, h⟩ | ⟨hc, h⟩
      · obtain ⟨x4_14, _, h⟩ := ltv_ex h
        obtain ⟨x6_15, _, h⟩ := ltv_ex h
        exact hk_33 _ _ _ _ _ _ h
      · obtain ⟨x4_12, _, h⟩ := ltv_ex h
        obtain ⟨x6_13, _, h⟩ := ltv_ex h
        exact hk_33 _ _ _ _ _ _ h
theorem z_b_X10_readsLetter_67_33  : ∀ (n : Nat) (y0 : Int32) (y1 : Int64) (y2 : Int64) (y3 : Int32) (M : Mm) (M' : Mm), b_X10_readsLetter_67_33 n y0 y1 y2 y3 M = some M' → Fr [(67, 4), (67, 5), (67, 6), (69, 0), (71, 999)] M M' := by
  intro n
  induction n with
  | zero =>
    intro y0 y1 y2 y3 M M' h
    have h : (none : Option _) = some _ := h
    cases h
  | succ n ih =>
    intro y0 y1 y2 y3 M M' h
    exact z_bb_X10_readsLetter_67_33 (fun y0 y1 y2 y3 M M' h => ih y0 y1 y2 y3 M M' h) h
theorem z_bb_X10_readsLetter_67_0 {x1 : Int32} {M : Mm} {M' : Mm}  (h : bb_X10_readsLetter_67_0 x1 M = some M') : Fr [(67, 4), (67, 5), (67, 6), (69, 0), (71, 999)] M M' := by
  unfold bb_X10_readsLetter_67_0 at h
  rcases ite_ex h with ⟨hc, h⟩ | ⟨hc, h⟩
  · exact z_b_X10_readsLetter_67_33 _ _ _ _ _ _ _ h
  · obtain ⟨v_3, M_2, hc, h⟩ := bd2_ex h
    refine Fr.tr (Fr.sub (z_f_X10_numberHere_67 hc) rfl) ?_
    obtain ⟨hg0, h⟩ := gd_ex h
    obtain ⟨x2_5, _, h⟩ := ltv_ex h
    exact z_b_X10_readsLetter_67_33 _ _ _ _ _ _ _ h
theorem z_f_X10_readsLetter_67 {x1 : Int32} {M : Mm} {M' : Mm}  (h : f_X10_readsLetter_67 x1 M = some M') : Fr [(67, 4), (67, 5), (67, 6), (69, 0), (71, 999)] M M' := by
  unfold f_X10_readsLetter_67 at h
  exact z_bb_X10_readsLetter_67_0 h
theorem z_bb_X10_clause_67_91 {x1 : Int32} {M : Mm} {M' : Mm}  (h : bb_X10_clause_67_91 x1 M = some M') : Fr [(67, 4), (67, 5), (67, 6), (67, 7), (69, 0), (69, 1), (71, 999), (74, 999), (75, 999), (76, 999), (77, 999), (78, 999), (79, 999), (87, 999), (89, 999)] M M' := by
  unfold bb_X10_clause_67_91 at h
  rcases ite_ex h with ⟨hc, h⟩ | ⟨hc, h⟩
  · obtain ⟨M_9, hc, h⟩ := bd_ex h
    refine Fr.tr (Fr.sub (z_f_X10_skipWord_67 hc) rfl) ?_
    obtain ⟨M_10, he, h⟩ := ltv_ex h
    refine Fr.tr (M1 := M_10) (by rw [he]; exact Fr.wrI rfl) ?_
    rcases ite_ex h with ⟨hc, h⟩ | ⟨hc, h⟩
    · rcases ite_ex h with ⟨hc, h⟩ | ⟨hc, h⟩
      · rcases ite_ex h with ⟨hc, h⟩ | ⟨hc, h⟩
        · obtain ⟨M_16, hc, h⟩ := bd_ex h
          refine Fr.tr (Fr.sub (z_f_X10_readsWord_67 hc) rfl) ?_
          obtain ⟨M_18, hc, h⟩ := bd_ex h
          refine Fr.tr (Fr.sub (z_f_X10_sign_67 hc) rfl) ?_
          cases h
          exact Fr.refl
        · obtain ⟨M_12, hc, h⟩ := bd_ex h
          refine Fr.tr (Fr.sub (z_f_X10_readsSpread_67 hc) rfl) ?_
          obtain ⟨M_14, hc, h⟩ := bd_ex h
          refine Fr.tr (Fr.sub (z_f_X10_sign_67 hc) rfl) ?_
          cases h
          exact Fr.refl
      · obtain ⟨M_20, hc, h⟩ := bd_ex h
        refine Fr.tr (Fr.sub (z_f_X10_readsBar_67 hc) rfl) ?_
        obtain ⟨M_22, hc, h⟩ := bd_ex h
        refine Fr.tr (Fr.sub (z_f_X10_sign_67 hc) rfl) ?_
        cases h
        exact Fr.refl
    · obtain ⟨M_24, hc, h⟩ := bd_ex h
      refine Fr.tr (Fr.sub (z_f_X10_readsLetter_67 hc) rfl) ?_
      obtain ⟨M_26, hc, h⟩ := bd_ex h
      refine Fr.tr (Fr.sub (z_f_X10_sign_67 hc) rfl) ?_
      cases h
      exact Fr.refl
  · cases h
    exact Fr.refl
theorem z_bb_X10_clause_67_28 {x1 : Int32} {M : Mm} {M' : Mm}  (h : bb_X10_clause_67_28 x1 M = some M') : Fr [(67, 4), (67, 5), (67, 6), (67, 7), (69, 0), (69, 1), (71, 999), (74, 999), (75, 999), (76, 999), (77, 999), (78, 999), (79, 999), (87, 999), (89, 999)] M M' := by
  unfold bb_X10_clause_67_28 at h
  obtain ⟨M_7, hc, h⟩ := bd_ex h
  refine Fr.tr (Fr.sub (z_f_X10_wrong_67 hc) rfl) ?_
  exact z_bb_X10_clause_67_91 h
theorem z_bb_X10_clause_67_82 {x1 : Int32} {M : Mm} {M' : Mm}  (h : bb_X10_clause_67_82 x1 M = some M') : Fr [(67, 4), (67, 5), (67, 6), (67, 7), (69, 0), (69, 1), (71, 999), (74, 999), (75, 999), (76, 999), (77, 999), (78, 999), (79, 999), (87, 999), (89, 999)] M M' := by
  unfold bb_X10_clause_67_82 at h
  obtain ⟨M_28, hc, h⟩ := bd_ex h
  refine Fr.tr (Fr.sub (z_f_X10_wrong_67 hc) rfl) ?_
  exact z_bb_X10_clause_67_91 h
theorem z_bb_X10_clause_67_65 {x1 : Int32} {M : Mm} {M' : Mm}  (h : bb_X10_clause_67_65 x1 M = some M') : Fr [(67, 4), (67, 5), (67, 6), (67, 7), (69, 0), (69, 1), (71, 999), (74, 999), (75, 999), (76, 999), (77, 999), (78, 999), (79, 999), (87, 999), (89, 999)] M M' := by
  unfold bb_X10_clause_67_65 at h
  rcases ite_ex h with ⟨hc, h⟩ | ⟨hc, h⟩
  · rcases ite_ex h with ⟨hc, h⟩ | ⟨hc, h⟩
    · exact z_bb_X10_clause_67_82 h
    · exact z_bb_X10_clause_67_91 h
  · exact z_bb_X10_clause_67_91 h
theorem z_bb_X10_clause_67_40 {x1 : Int32} {M : Mm} {M' : Mm}  (h : bb_X10_clause_67_40 x1 M = some M') : Fr [(67, 4), (67, 5), (67, 6), (67, 7), (69, 0), (69, 1), (71, 999), (74, 999), (75, 999), (76, 999), (77, 999), (78, 999), (79, 999), (87, 999), (89, 999)] M M' := by
  unfold bb_X10_clause_67_40 at h
  rcases ite_ex h with ⟨hc, h⟩ | ⟨hc, h⟩
  · exact z_bb_X10_clause_67_82 h
  · rcases ite_ex h with ⟨hc, h⟩ | ⟨hc, h⟩
    · exact z_bb_X10_clause_67_65 h
    · rcases ite_ex h with ⟨hc, h⟩ | ⟨hc, h⟩
      · exact z_bb_X10_clause_67_82 h
      · exact z_bb_X10_clause_67_65 h
theorem z_bb_X10_clause_67_0 {M : Mm} {M' : Mm}  (h : bb_X10_clause_67_0 M = some M') : Fr [(67, 4), (67, 5), (67, 6), (67, 7), (69, 0), (69, 1), (71, 999), (74, 999), (75, 999), (76, 999), (77, 999), (78, 999), (79, 999), (87, 999), (89, 999)] M M' := by
  unfold bb_X10_clause_67_0 at h
  obtain ⟨v_3, M_2, hc, h⟩ := bd2_ex h
  refine Fr.tr (Fr.sub (z_f_X10_kindHere_67 hc) rfl) ?_
  rcases ite_ex h with ⟨hc, h⟩ | ⟨hc, h⟩
  · exact z_bb_X10_clause_67_28 h
  · obtain ⟨v_5, _, h⟩ := bd_ex h
    rcases ite_ex h with ⟨hc, h⟩ | ⟨hc, h⟩
    · exact z_bb_X10_clause_67_40 h
    · rcases ite_ex h with ⟨hc, h⟩ | ⟨hc, h⟩
      · exact z_bb_X10_clause_67_28 h
      · exact z_bb_X10_clause_67_40 h
theorem z_f_X10_clause_67 {M : Mm} {M' : Mm}  (h : f_X10_clause_67 M = some M') : Fr [(67, 4), (67, 5), (67, 6), (67, 7), (69, 0), (69, 1), (71, 999), (74, 999), (75, 999), (76, 999), (77, 999), (78, 999), (79, 999), (87, 999), (89, 999)] M M' := by
  unfold f_X10_clause_67 at h
  exact z_bb_X10_clause_67_0 h
theorem z_bb_X10_findHollows_67_58 {k_30 : Int32 → Int64 → Int32 → Mm → Option Mm} {k_58 : Int32 → Int64 → Int32 → Int64 → Int64 → Mm → Option Mm} {x1 : Int32} {x2 : Int64} {x4 : Int32} {x5 : Int64} {x7 : Int64} {M : Mm} {M' : Mm} (hk_30 : ∀ (y0 : Int32) (y1 : Int64) (y2 : Int32) (N : Mm) (N' : Mm), k_30 y0 y1 y2 N = some N' → Fr [(67, 19), (91, 999), (92, 999)] N N') (hk_58 : ∀ (y0 : Int32) (y1 : Int64) (y2 : Int32) (y3 : Int64) (y4 : Int64) (N : Mm) (N' : Mm), k_58 y0 y1 y2 y3 y4 N = some N' → Fr [(67, 19), (91, 999), (92, 999)] N N') (h : bb_X10_findHollows_67_58 k_30 k_58 x1 x2 x4 x5 x7 M = some M') : Fr [(67, 19), (91, 999), (92, 999)] M M' := by
  unfold bb_X10_findHollows_67_58 at h
  rcases ite_ex h with ⟨hc, h⟩ | ⟨hc, h⟩
  · obtain ⟨x2_10, _, h⟩ := ltv_ex h
    rcases ite_ex h with ⟨hc, h⟩ | ⟨hc, h⟩
    · obtain ⟨x4_17, _, h⟩ := ltv_ex h
      exact hk_30 _ _ _ _ _ h
    · obtain ⟨hg0, h⟩ := gd_ex h
      obtain ⟨M_12, he, h⟩ := ltv_ex h
      refine Fr.tr (M1 := M_12) (by rw [he]; exact Fr.wJa rfl) ?_
      obtain ⟨hg1, h⟩ := gd_ex h
      obtain ⟨M_14, he, h⟩ := ltv_ex h
      refine Fr.tr (M1 := M_14) (by rw [he]; exact Fr.wIa rfl) ?_
      obtain ⟨M_15, he, h⟩ := ltv_ex h
      refine Fr.tr (M1 := M_15) (by rw [he]; exact Fr.wrI rfl) ?_
      obtain ⟨x4_16, _, h⟩ := ltv_ex h
      exact hk_30 _ _ _ _ _ h
  · obtain ⟨v_19, _, h⟩ := bd_ex h
    obtain ⟨x5_20, _, h⟩ := ltv_ex h
    exact hk_58 _ _ _ _ _ _ _ h
theorem z_b_X10_findHollows_67_58 {k_30 : Int32 → Int64 → Int32 → Mm → Option Mm} (hk_30 : ∀ (y0 : Int32) (y1 : Int64) (y2 : Int32) (N : Mm) (N' : Mm), k_30 y0 y1 y2 N = some N' → Fr [(67, 19), (91, 999), (92, 999)] N N') : ∀ (n : Nat) (y0 : Int32) (y1 : Int64) (y2 : Int32) (y3 : Int64) (y4 : Int64) (M : Mm) (M' : Mm), b_X10_findHollows_67_58 k_30 n y0 y1 y2 y3 y4 M = some M' → Fr [(67, 19), (91, 999), (92, 999)] M M' := by
  intro n
  induction n with
  | zero =>
    intro y0 y1 y2 y3 y4 M M' h
    have h : (none : Option _) = some _ := h
    cases h
  | succ n ih =>
    intro y0 y1 y2 y3 y4 M M' h
    exact z_bb_X10_findHollows_67_58 hk_30 (fun y0 y1 y2 y3 y4 M M' h => ih y0 y1 y2 y3 y4 M M' h) h
theorem z_bb_X10_findHollows_67_30 {k_7 : Int32 → Mm → Option Mm} {k_30 : Int32 → Int64 → Int32 → Mm → Option Mm} {x1 : Int32} {x2 : Int64} {x4 : Int32} {M : Mm} {M' : Mm} (hk_7 : ∀ (y0 : Int32) (N : Mm) (N' : Mm), k_7 y0 N = some N' → Fr [(67, 19), (91, 999), (92, 999)] N N') (hk_30 : ∀ (y0 : Int32) (y1 : Int64) (y2 : Int32) (N : Mm) (N' : Mm), k_30 y0 y1 y2 N = some N' → Fr [(67, 19), (91, 999), (92, 999)] N N') (h : bb_X10_findHollows_67_30 k_7 k_30 x1 x2 x4 M = some M') : Fr [(67, 19), (91, 999), (92, 999)] M M' := by
  unfold bb_X10_findHollows_67_30 at h
  rcases ite_ex h with ⟨hc, h⟩ | ⟨hc, h⟩
  · obtain ⟨x1_5, _, h⟩ := ltv_ex h
    exact hk_7 _ _ _ h
  · obtain ⟨v_7, _, h⟩ := bd_ex h
    rcases ite_ex h with ⟨hc, h⟩ | ⟨hc, h⟩
    · obtain ⟨x4_9, _, h⟩ := ltv_ex h
      exact hk_30 _ _ _ _ _ h
    · obtain ⟨x5_8, _, h⟩ := ltv_ex h
      exact z_b_X10_findHollows_67_58 hk_30 _ _ _ _ _ _ _ _ h
theorem z_b_X10_findHollows_67_30 {k_7 : Int32 → Mm → Option Mm} (hk_7 : ∀ (y0 : Int32) (N : Mm) (N' : Mm), k_7 y0 N = some N' → Fr [(67, 19), (91, 999), (92, 999)] N N') : ∀ (n : Nat) (y0 : Int32) (y1 : Int64) (y2 : Int32) (M : Mm) (M' : Mm), b_X10_findHollows_67_30 k_7 n y0 y1 y2 M = some M' → Fr [(67, 19), (91, 999), (92, 999)] M M' := by
  intro n
  induction n with
  | zero =>
    intro y0 y1 y2 M M' h
    have h : (none : Option _) = some _ := h
    cases h
  | succ n ih =>
    intro y0 y1 y2 M M' h
    exact z_bb_X10_findHollows_67_30 hk_7 (fun y0 y1 y2 M M' h => ih y0 y1 y2 M M' h) h
theorem z_bb_X10_findHollows_67_7 {k_7 : Int32 → Mm → Option Mm} {x1 : Int32} {M : Mm} {M' : Mm} (hk_7 : ∀ (y0 : Int32) (N : Mm) (N' : Mm), k_7 y0 N = some N' → Fr [(67, 19), (91, 999), (92, 999)] N N') (h : bb_X10_findHollows_67_7 k_7 x1 M = some M') : Fr [(67, 19), (91, 999), (92, 999)] M M' := by
  unfold bb_X10_findHollows_67_7 at h
  rcases ite_ex h with ⟨hc, h⟩ | ⟨hc, h⟩
  · cases h
    exact Fr.refl
  · obtain ⟨hg0, h⟩ := gd_ex h
    obtain ⟨v_4, _, h⟩ := bd_ex h
    exact z_b_X10_findHollows_67_30 hk_7 _ _ _ _ _ _ h
theorem z_b_X10_findHollows_67_7  : ∀ (n : Nat) (y0 : Int32) (M : Mm) (M' : Mm), b_X10_findHollows_67_7 n y0 M = some M' → Fr [(67, 19), (91, 999), (92, 999)] M M' := by
  intro n
  induction n with
  | zero =>
    intro y0 M M' h
    have h : (none : Option _) = some _ := h
    cases h
  | succ n ih =>
    intro y0 M M' h
    exact z_bb_X10_findHollows_67_7 (fun y0 M M' h => ih y0 M M' h) h
theorem z_bb_X10_findHollows_67_0 {M : Mm} {M' : Mm}  (h : bb_X10_findHollows_67_0 M = some M') : Fr [(67, 19), (91, 999), (92, 999)] M M' := by
  unfold bb_X10_findHollows_67_0 at h
  obtain ⟨M_1, he, h⟩ := ltv_ex h
  refine Fr.tr (M1 := M_1) (by rw [he]; exact Fr.wrI rfl) ?_
  exact z_b_X10_findHollows_67_7 _ _ _ _ h
theorem z_f_X10_findHollows_67 {M : Mm} {M' : Mm}  (h : f_X10_findHollows_67 M = some M') : Fr [(67, 19), (91, 999), (92, 999)] M M' := by
  unfold f_X10_findHollows_67 at h
  exact z_bb_X10_findHollows_67_0 h
theorem z_bb_X10_sheet_67_226 {k_206 : Int32 → Mm → Option (Int32 × Mm)} {k_226 : Int32 → Int32 → Mm → Option (Int32 × Mm)} {x2 : Int32} {x3 : Int32} {M : Mm} {v : Int32} {M' : Mm} (hk_206 : ∀ (y0 : Int32) (N : Mm) (w : Int32) (N' : Mm), k_206 y0 N = some (w, N') → Fr [(67, 0), (67, 1), (67, 2), (67, 3), (67, 4), (67, 5), (67, 6), (67, 7), (67, 19), (67, 22), (67, 23), (67, 24), (67, 25), (67, 26), (67, 27), (69, 0), (69, 1), (70, 999), (71, 999), (72, 999), (74, 999), (75, 999), (76, 999), (77, 999), (78, 999), (79, 999), (81, 999), (82, 999), (83, 999), (84, 999), (85, 999), (86, 999), (87, 999), (88, 999), (89, 999), (90, 999), (91, 999), (92, 999)] N N') (hk_226 : ∀ (y0 : Int32) (y1 : Int32) (N : Mm) (w : Int32) (N' : Mm), k_226 y0 y1 N = some (w, N') → Fr [(67, 0), (67, 1), (67, 2), (67, 3), (67, 4), (67, 5), (67, 6), (67, 7), (67, 19), (67, 22), (67, 23), (67, 24), (67, 25), (67, 26), (67, 27), (69, 0), (69, 1), (70, 999), (71, 999), (72, 999), (74, 999), (75, 999), (76, 999), (77, 999), (78, 999), (79, 999), (81, 999), (82, 999), (83, 999), (84, 999), (85, 999), (86, 999), (87, 999), (88, 999), (89, 999), (90, 999), (91, 999), (92, 999)] N N') (h : bb_X10_sheet_67_226 k_206 k_226 x2 x3 M = some (v, M')) : Fr [(67, 0), (67, 1), (67, 2), (67, 3), (67, 4), (67, 5), (67, 6), (67, 7), (67, 19), (67, 22), (67, 23), (67, 24), (67, 25), (67, 26), (67, 27), (69, 0), (69, 1), (70, 999), (71, 999), (72, 999), (74, 999), (75, 999), (76, 999), (77, 999), (78, 999), (79, 999), (81, 999), (82, 999), (83, 999), (84, 999), (85, 999), (86, 999), (87, 999), (88, 999), (89, 999), (90, 999), (91, 999), (92, 999)] M M' := by
  unfold bb_X10_sheet_67_226 at h
  rcases ite_ex h with ⟨hc, h⟩ | ⟨hc, h⟩
  · obtain ⟨x2_48, _, h⟩ := ltv_ex h
    exact hk_206 _ _ _ _ h
  · obtain ⟨hg0, h⟩ := gd_ex h
    obtain ⟨hg1, h⟩ := gd_ex h
    obtain ⟨hg2, h⟩ := gd_ex h
    obtain ⟨hg3, h⟩ := gd_ex h
    obtain ⟨M_55, he, h⟩ := ltv_ex h
    refine Fr.tr (M1 := M_55) (by rw [he]; exact Fr.wIv hg1 rfl) ?_
    obtain ⟨x3_56, _, h⟩ := ltv_ex h
    exact hk_226 _ _ _ _ _ h
theorem z_b_X10_sheet_67_226 {k_206 : Int32 → Mm → Option (Int32 × Mm)} (hk_206 : ∀ (y0 : Int32) (N : Mm) (w : Int32) (N' : Mm), k_206 y0 N = some (w, N') → Fr [(67, 0), (67, 1), (67, 2), (67, 3), (67, 4), (67, 5), (67, 6), (67, 7), (67, 19), (67, 22), (67, 23), (67, 24), (67, 25), (67, 26), (67, 27), (69, 0), (69, 1), (70, 999), (71, 999), (72, 999), (74, 999), (75, 999), (76, 999), (77, 999), (78, 999), (79, 999), (81, 999), (82, 999), (83, 999), (84, 999), (85, 999), (86, 999), (87, 999), (88, 999), (89, 999), (90, 999), (91, 999), (92, 999)] N N') : ∀ (n : Nat) (y0 : Int32) (y1 : Int32) (M : Mm) (v : Int32) (M' : Mm), b_X10_sheet_67_226 k_206 n y0 y1 M = some (v, M') → Fr [(67, 0), (67, 1), (67, 2), (67, 3), (67, 4), (67, 5), (67, 6), (67, 7), (67, 19), (67, 22), (67, 23), (67, 24), (67, 25), (67, 26), (67, 27), (69, 0), (69, 1), (70, 999), (71, 999), (72, 999), (74, 999), (75, 999), (76, 999), (77, 999), (78, 999), (79, 999), (81, 999), (82, 999), (83, 999), (84, 999), (85, 999), (86, 999), (87, 999), (88, 999), (89, 999), (90, 999), (91, 999), (92, 999)] M M' := by
  intro n
  induction n with
  | zero =>
    intro y0 y1 M v M' h
    have h : (none : Option _) = some _ := h
    cases h
  | succ n ih =>
    intro y0 y1 M v M' h
    exact z_bb_X10_sheet_67_226 hk_206 (fun y0 y1 M v M' h => ih y0 y1 M v M' h) h
theorem z_bb_X10_sheet_67_262 {k_262 : Int32 → Mm → Option (Int32 × Mm)} {x2 : Int32} {M : Mm} {v : Int32} {M' : Mm} (hk_262 : ∀ (y0 : Int32) (N : Mm) (w : Int32) (N' : Mm), k_262 y0 N = some (w, N') → Fr [(67, 0), (67, 1), (67, 2), (67, 3), (67, 4), (67, 5), (67, 6), (67, 7), (67, 19), (67, 22), (67, 23), (67, 24), (67, 25), (67, 26), (67, 27), (69, 0), (69, 1), (70, 999), (71, 999), (72, 999), (74, 999), (75, 999), (76, 999), (77, 999), (78, 999), (79, 999), (81, 999), (82, 999), (83, 999), (84, 999), (85, 999), (86, 999), (87, 999), (88, 999), (89, 999), (90, 999), (91, 999), (92, 999)] N N') (h : bb_X10_sheet_67_262 k_262 x2 M = some (v, M')) : Fr [(67, 0), (67, 1), (67, 2), (67, 3), (67, 4), (67, 5), (67, 6), (67, 7), (67, 19), (67, 22), (67, 23), (67, 24), (67, 25), (67, 26), (67, 27), (69, 0), (69, 1), (70, 999), (71, 999), (72, 999), (74, 999), (75, 999), (76, 999), (77, 999), (78, 999), (79, 999), (81, 999), (82, 999), (83, 999), (84, 999), (85, 999), (86, 999), (87, 999), (88, 999), (89, 999), (90, 999), (91, 999), (92, 999)] M M' := by
  unfold bb_X10_sheet_67_262 at h
  rcases ite_ex h with ⟨hc, h⟩ | ⟨hc, h⟩
  · obtain ⟨M_37, hc, h⟩ := bd_ex h
    refine Fr.tr (Fr.sub (z_f_X10_findHollows_67 hc) rfl) ?_
    obtain ⟨M_38, he, h⟩ := ltv_ex h
    refine Fr.tr (M1 := M_38) (by rw [he]; exact Fr.wrI rfl) ?_
    obtain ⟨M_39, he, h⟩ := ltv_ex h
    refine Fr.tr (M1 := M_39) (by rw [he]; exact Fr.wrJ rfl) ?_
    obtain ⟨M_40, he, h⟩ := ltv_ex h
    refine Fr.tr (M1 := M_40) (by rw [he]; exact Fr.wrI rfl) ?_
    obtain ⟨M_41, he, h⟩ := ltv_ex h
    refine Fr.tr (M1 := M_41) (by rw [he]; exact Fr.wrI rfl) ?_
    obtain ⟨M_42, he, h⟩ := ltv_ex h
    refine Fr.tr (M1 := M_42) (by rw [he]; exact Fr.wrI rfl) ?_
    obtain ⟨M_43, he, h⟩ := ltv_ex h
    refine Fr.tr (M1 := M_43) (by rw [he]; exact Fr.wrI rfl) ?_
    cases h
    exact Fr.refl
  · obtain ⟨hg0, h⟩ := gd_ex h
    obtain ⟨hg1, h⟩ := gd_ex h
    obtain ⟨M_46, he, h⟩ := ltv_ex h
    refine Fr.tr (M1 := M_46) (by rw [he]; exact Fr.wIa rfl) ?_
    obtain ⟨x2_47, _, h⟩ := ltv_ex h
    exact hk_262 _ _ _ _ h
theorem z_b_X10_sheet_67_262  : ∀ (n : Nat) (y0 : Int32) (M : Mm) (v : Int32) (M' : Mm), b_X10_sheet_67_262 n y0 M = some (v, M') → Fr [(67, 0), (67, 1), (67, 2), (67, 3), (67, 4), (67, 5), (67, 6), (67, 7), (67, 19), (67, 22), (67, 23), (67, 24), (67, 25), (67, 26), (67, 27), (69, 0), (69, 1), (70, 999), (71, 999), (72, 999), (74, 999), (75, 999), (76, 999), (77, 999), (78, 999), (79, 999), (81, 999), (82, 999), (83, 999), (84, 999), (85, 999), (86, 999), (87, 999), (88, 999), (89, 999), (90, 999), (91, 999), (92, 999)] M M' := by
  intro n
  induction n with
  | zero =>
    intro y0 M v M' h
    have h : (none : Option _) = some _ := h
    cases h
  | succ n ih =>
    intro y0 M v M' h
    exact z_bb_X10_sheet_67_262 (fun y0 M v M' h => ih y0 M v M' h) h
theorem z_bb_X10_sheet_67_206 {k_206 : Int32 → Mm → Option (Int32 × Mm)} {x2 : Int32} {M : Mm} {v : Int32} {M' : Mm} (hk_206 : ∀ (y0 : Int32) (N : Mm) (w : Int32) (N' : Mm), k_206 y0 N = some (w, N') → Fr [(67, 0), (67, 1), (67, 2), (67, 3), (67, 4), (67, 5), (67, 6), (67, 7), (67, 19), (67, 22), (67, 23), (67, 24), (67, 25), (67, 26), (67, 27), (69, 0), (69, 1), (70, 999), (71, 999), (72, 999), (74, 999), (75, 999), (76, 999), (77, 999), (78, 999), (79, 999), (81, 999), (82, 999), (83, 999), (84, 999), (85, 999), (86, 999), (87, 999), (88, 999), (89, 999), (90, 999), (91, 999), (92, 999)] N N') (h : bb_X10_sheet_67_206 k_206 x2 M = some (v, M')) : Fr [(67, 0), (67, 1), (67, 2), (67, 3), (67, 4), (67, 5), (67, 6), (67, 7), (67, 19), (67, 22), (67, 23), (67, 24), (67, 25), (67, 26), (67, 27), (69, 0), (69, 1), (70, 999), (71, 999), (72, 999), (74, 999), (75, 999), (76, 999), (77, 999), (78, 999), (79, 999), (81, 999), (82, 999), (83, 999), (84, 999), (85, 999), (86, 999), (87, 999), (88, 999), (89, 999), (90, 999), (91, 999), (92, 999)] M M' := by
  unfold bb_X10_sheet_67_206 at h
  rcases ite_ex h with ⟨hc, h⟩ | ⟨hc, h⟩
  · exact z_b_X10_sheet_67_262 _ _ _ _ _ h
  · obtain ⟨hg0, h⟩ := gd_ex h
    obtain ⟨hg1, h⟩ := gd_ex h
    obtain ⟨M_35, he, h⟩ := ltv_ex h
    refine Fr.tr (M1 := M_35) (by rw [he]; exact Fr.wIa rfl) ?_
    exact z_b_X10_sheet_67_226 hk_206 _ _ _ _ _ _ h
theorem z_b_X10_sheet_67_206  : ∀ (n : Nat) (y0 : Int32) (M : Mm) (v : Int32) (M' : Mm), b_X10_sheet_67_206 n y0 M = some (v, M') → Fr [(67, 0), (67, 1), (67, 2), (67, 3), (67, 4), (67, 5), (67, 6), (67, 7), (67, 19), (67, 22), (67, 23), (67, 24), (67, 25), (67, 26), (67, 27), (69, 0), (69, 1), (70, 999), (71, 999), (72, 999), (74, 999), (75, 999), (76, 999), (77, 999), (78, 999), (79, 999), (81, 999), (82, 999), (83, 999), (84, 999), (85, 999), (86, 999), (87, 999), (88, 999), (89, 999), (90, 999), (91, 999), (92, 999)] M M' := by
  intro n
  induction n with
  | zero =>
    intro y0 M v M' h
    have h : (none : Option _) = some _ := h
    cases h
  | succ n ih =>
    intro y0 M v M' h
    exact z_bb_X10_sheet_67_206 (fun y0 M v M' h => ih y0 M v M' h) h
theorem z_bb_X10_sheet_67_180 {k_180 : Int32 → Mm → Option (Int32 × Mm)} {x2 : Int32} {M : Mm} {v : Int32} {M' : Mm} (hk_180 : ∀ (y0 : Int32) (N : Mm) (w : Int32) (N' : Mm), k_180 y0 N = some (w, N') → Fr [(67, 0), (67, 1), (67, 2), (67, 3), (67, 4), (67, 5), (67, 6), (67, 7), (67, 19), (67, 22), (67, 23), (67, 24), (67, 25), (67, 26), (67, 27), (69, 0), (69, 1), (70, 999), (71, 999), (72, 999), (74, 999), (75, 999), (76, 999), (77, 999), (78, 999), (79, 999), (81, 999), (82, 999), (83, 999), (84, 999), (85, 999), (86, 999), (87, 999), (88, 999), (89, 999), (90, 999), (91, 999), (92, 999)] N N') (h : bb_X10_sheet_67_180 k_180 x2 M = some (v, M')) : Fr [(67, 0), (67, 1), (67, 2), (67, 3), (67, 4), (67, 5), (67, 6), (67, 7), (67, 19), (67, 22), (67, 23), (67, 24), (67, 25), (67, 26), (67, 27), (69, 0), (69, 1), (70, 999), (71, 999), (72, 999), (74, 999), (75, 999), (76, 999), (77, 999), (78, 999), (79, 999), (81, 999), (82, 999), (83, 999), (84, 999), (85, 999), (86, 999), (87, 999), (88, 999), (89, 999), (90, 999), (91, 999), (92, 999)] M M' := by
  unfold bb_X10_sheet_67_180 at h
  rcases ite_ex h with ⟨hc, h⟩ | ⟨hc, h⟩
  · exact z_b_X10_sheet_67_206 _ _ _ _ _ h
  · obtain ⟨hg0, h⟩ := gd_ex h
    obtain ⟨hg1, h⟩ := gd_ex h
    obtain ⟨M_31, he, h⟩ := ltv_ex h
    refine Fr.tr (M1 := M_31) (by rw [he]; exact Fr.wJa rfl) ?_
    obtain ⟨x2_32, _, h⟩ := ltv_ex h
    exact hk_180 _ _ _ _ h
theorem z_b_X10_sheet_67_180  : ∀ (n : Nat) (y0 : Int32) (M : Mm) (v : Int32) (M' : Mm), b_X10_sheet_67_180 n y0 M = some (v, M') → Fr [(67, 0), (67, 1), (67, 2), (67, 3), (67, 4), (67, 5), (67, 6), (67, 7), (67, 19), (67, 22), (67, 23), (67, 24), (67, 25), (67, 26), (67, 27), (69, 0), (69, 1), (70, 999), (71, 999), (72, 999), (74, 999), (75, 999), (76, 999), (77, 999), (78, 999), (79, 999), (81, 999), (82, 999), (83, 999), (84, 999), (85, 999), (86, 999), (87, 999), (88, 999), (89, 999), (90, 999), (91, 999), (92, 999)] M M' := by
  intro n
  induction n with
  | zero =>
    intro y0 M v M' h
    have h : (none : Option _) = some _ := h
    cases h
  | succ n ih =>
    intro y0 M v M' h
    exact z_bb_X10_sheet_67_180 (fun y0 M v M' h => ih y0 M v M' h) h
theorem z_bb_X10_sheet_67_155 {k_155 : Int32 → Mm → Option (Int32 × Mm)} {x2 : Int32} {M : Mm} {v : Int32} {M' : Mm} (hk_155 : ∀ (y0 : Int32) (N : Mm) (w : Int32) (N' : Mm), k_155 y0 N = some (w, N') → Fr [(67, 0), (67, 1), (67, 2), (67, 3), (67, 4), (67, 5), (67, 6), (67, 7), (67, 19), (67, 22), (67, 23), (67, 24), (67, 25), (67, 26), (67, 27), (69, 0), (69, 1), (70, 999), (71, 999), (72, 999), (74, 999), (75, 999), (76, 999), (77, 999), (78, 999), (79, 999), (81, 999), (82, 999), (83, 999), (84, 999), (85, 999), (86, 999), (87, 999), (88, 999), (89, 999), (90, 999), (91, 999), (92, 999)] N N') (h : bb_X10_sheet_67_155 k_155 x2 M = some (v, M')) : Fr [(67, 0), (67, 1), (67, 2), (67, 3), (67, 4), (67, 5), (67, 6), (67, 7), (67, 19), (67, 22), (67, 23), (67, 24), (67, 25), (67, 26), (67, 27), (69, 0), (69, 1), (70, 999), (71, 999), (72, 999), (74, 999), (75, 999), (76, 999), (77, 999), (78, 999), (79, 999), (81, 999), (82, 999), (83, 999), (84, 999), (85, 999), (86, 999), (87, 999), (88, 999), (89, 999), (90, 999), (91, 999), (92, 999)] M M' := by
  unfold bb_X10_sheet_67_155 at h
  rcases ite_ex h with ⟨hc, h⟩ | ⟨hc, h⟩
  · exact z_b_X10_sheet_67_180 _ _ _ _ _ h
  · obtain ⟨hg0, h⟩ := gd_ex h
    obtain ⟨hg1, h⟩ := gd_ex h
    obtain ⟨M_27, he, h⟩ := ltv_ex h
    refine Fr.tr (M1 := M_27) (by rw [he]; exact Fr.wIa rfl) ?_
    obtain ⟨x2_28, _, h⟩ := ltv_ex h
    exact hk_155 _ _ _ _ h
theorem z_b_X10_sheet_67_155  : ∀ (n : Nat) (y0 : Int32) (M : Mm) (v : Int32) (M' : Mm), b_X10_sheet_67_155 n y0 M = some (v, M') → Fr [(67, 0), (67, 1), (67, 2), (67, 3), (67, 4), (67, 5), (67, 6), (67, 7), (67, 19), (67, 22), (67, 23), (67, 24), (67, 25), (67, 26), (67, 27), (69, 0), (69, 1), (70, 999), (71, 999), (72, 999), (74, 999), (75, 999), (76, 999), (77, 999), (78, 999), (79, 999), (81, 999), (82, 999), (83, 999), (84, 999), (85, 999), (86, 999), (87, 999), (88, 999), (89, 999), (90, 999), (91, 999), (92, 999)] M M' := by
  intro n
  induction n with
  | zero =>
    intro y0 M v M' h
    have h : (none : Option _) = some _ := h
    cases h
  | succ n ih =>
    intro y0 M v M' h
    exact z_bb_X10_sheet_67_155 (fun y0 M v M' h => ih y0 M v M' h) h
theorem z_bb_X10_sheet_67_130 {M : Mm} {v : Int32} {M' : Mm}  (h : bb_X10_sheet_67_130 M = some (v, M')) : Fr [(67, 0), (67, 1), (67, 2), (67, 3), (67, 4), (67, 5), (67, 6), (67, 7), (67, 19), (67, 22), (67, 23), (67, 24), (67, 25), (67, 26), (67, 27), (69, 0), (69, 1), (70, 999), (71, 999), (72, 999), (74, 999), (75, 999), (76, 999), (77, 999), (78, 999), (79, 999), (81, 999), (82, 999), (83, 999), (84, 999), (85, 999), (86, 999), (87, 999), (88, 999), (89, 999), (90, 999), (91, 999), (92, 999)] M M' := by
  unfold bb_X10_sheet_67_130 at h
  obtain ⟨M_24, he, h⟩ := ltv_ex h
  refine Fr.tr (M1 := M_24) (by rw [he]; exact Fr.wrI rfl) ?_
  rcases ite_ex h with ⟨hc, h⟩ | ⟨hc, h⟩
  · exact z_b_X10_sheet_67_155 _ _ _ _ _ h
  · cases h
    exact Fr.refl
theorem z_bb_X10_sheet_67_101 {k_101 : Mm → Option (Int32 × Mm)} {M : Mm} {v : Int32} {M' : Mm} (hk_101 : ∀ (N : Mm) (w : Int32) (N' : Mm), k_101 N = some (w, N') → Fr [(67, 0), (67, 1), (67, 2), (67, 3), (67, 4), (67, 5), (67, 6), (67, 7), (67, 19), (67, 22), (67, 23), (67, 24), (67, 25), (67, 26), (67, 27), (69, 0), (69, 1), (70, 999), (71, 999), (72, 999), (74, 999), (75, 999), (76, 999), (77, 999), (78, 999), (79, 999), (81, 999), (82, 999), (83, 999), (84, 999), (85, 999), (86, 999), (87, 999), (88, 999), (89, 999), (90, 999), (91, 999), (92, 999)] N N') (h : bb_X10_sheet_67_101 k_101 M = some (v, M')) : Fr [(67, 0), (67, 1), (67, 2), (67, 3), (67, 4), (67, 5), (67, 6), (67, 7), (67, 19), (67, 22), (67, 23), (67, 24), (67, 25), (67, 26), (67, 27), (69, 0), (69, 1), (70, 999), (71, 999), (72, 999), (74, 999), (75, 999), (76, 999), (77, 999), (78, 999), (79, 999), (81, 999), (82, 999), (83, 999), (84, 999), (85, 999), (86, 999), (87, 999), (88, 999), (89, 999), (90, 999), (91, 999), (92, 999)] M M' := by
  unfold bb_X10_sheet_67_101 at h
  rcases ite_ex h with ⟨hc, h⟩ | ⟨hc, h⟩
  · rcases ite_ex h with ⟨hc, h⟩ | ⟨hc, h⟩
    · exact z_bb_X10_sheet_67_130 h
    · obtain ⟨M_21, hc, h⟩ := bd_ex h
      refine Fr.tr (Fr.sub (z_f_X10_clause_67 hc) rfl) ?_
      obtain ⟨M_23, hc, h⟩ := bd_ex h
      refine Fr.tr (Fr.sub (z_f_X10_blanks_67 hc) rfl) ?_
      exact hk_101 _ _ _ h
  · exact z_bb_X10_sheet_67_130 h
theorem z_b_X10_sheet_67_101  : ∀ (n : Nat) (M : Mm) (v : Int32) (M' : Mm), b_X10_sheet_67_101 n M = some (v, M') → Fr [(67, 0), (67, 1), (67, 2), (67, 3), (67, 4), (67, 5), (67, 6), (67, 7), (67, 19), (67, 22), (67, 23), (67, 24), (67, 25), (67, 26), (67, 27), (69, 0), (69, 1), (70, 999), (71, 999), (72, 999), (74, 999), (75, 999), (76, 999), (77, 999), (78, 999), (79, 999), (81, 999), (82, 999), (83, 999), (84, 999), (85, 999), (86, 999), (87, 999), (88, 999), (89, 999), (90, 999), (91, 999), (92, 999)] M M' := by
  intro n
  induction n with
  | zero =>
    intro M v M' h
    have h : (none : Option _) = some _ := h
    cases h
  | succ n ih =>
    intro M v M' h
    exact z_bb_X10_sheet_67_101 (fun M v M' h => ih M v M' h) h
theorem z_bb_X10_sheet_67_78 {k_78 : Int32 → Mm → Option (Int32 × Mm)} {x2 : Int32} {M : Mm} {v : Int32} {M' : Mm} (hk_78 : ∀ (y0 : Int32) (N : Mm) (w : Int32) (N' : Mm), k_78 y0 N = some (w, N') → Fr [(67, 0), (67, 1), (67, 2), (67, 3), (67, 4), (67, 5), (67, 6), (67, 7), (67, 19), (67, 22), (67, 23), (67, 24), (67, 25), (67, 26), (67, 27), (69, 0), (69, 1), (70, 999), (71, 999), (72, 999), (74, 999), (75, 999), (76, 999), (77, 999), (78, 999), (79, 999), (81, 999), (82, 999), (83, 999), (84, 999), (85, 999), (86, 999), (87, 999), (88, 999), (89, 999), (90, 999), (91, 999), (92, 999)] N N') (h : bb_X10_sheet_67_78 k_78 x2 M = some (v, M')) : Fr [(67, 0), (67, 1), (67, 2), (67, 3), (67, 4), (67, 5), (67, 6), (67, 7), (67, 19), (67, 22), (67, 23), (67, 24), (67, 25), (67, 26), (67, 27), (69, 0), (69, 1), (70, 999), (71, 999), (72, 999), (74, 999), (75, 999), (76, 999), (77, 999), (78, 999), (79, 999), (81, 999), (82, 999), (83, 999), (84, 999), (85, 999), (86, 999), (87, 999), (88, 999), (89, 999), (90, 999), (91, 999), (92, 999)] M M' := by
  unfold bb_X10_sheet_67_78 at h
  rcases ite_ex h with ⟨hc, h⟩ | ⟨hc, h⟩
  · obtain ⟨M_16, hc, h⟩ := bd_ex h
    refine Fr.tr (Fr.sub (z_f_X10_blanks_67 hc) rfl) ?_
    exact z_b_X10_sheet_67_101 _ _ _ _ h
  · obtain ⟨hg0, h⟩ := gd_ex h
    obtain ⟨M_18, he, h⟩ := ltv_ex h
    refine Fr.tr (M1 := M_18) (by rw [he]; exact Fr.wIa rfl) ?_
    obtain ⟨x2_19, _, h⟩ := ltv_ex h
    exact hk_78 _ _ _ _ h
theorem z_b_X10_sheet_67_78  : ∀ (n : Nat) (y0 : Int32) (M : Mm) (v : Int32) (M' : Mm), b_X10_sheet_67_78 n y0 M = some (v, M') → Fr [(67, 0), (67, 1), (67, 2), (67, 3), (67, 4), (67, 5), (67, 6), (67, 7), (67, 19), (67, 22), (67, 23), (67, 24), (67, 25), (67, 26), (67, 27), (69, 0), (69, 1), (70, 999), (71, 999), (72, 999), (74, 999), (75, 999), (76, 999), (77, 999), (78, 999), (79, 999), (81, 999), (82, 999), (83, 999), (84, 999), (85, 999), (86, 999), (87, 999), (88, 999), (89, 999), (90, 999), (91, 999), (92, 999)] M M' := by
  intro n
  induction n with
  | zero =>
    intro y0 M v M' h
    have h : (none : Option _) = some _ := h
    cases h
  | succ n ih =>
    intro y0 M v M' h
    exact z_bb_X10_sheet_67_78 (fun y0 M v M' h => ih y0 M v M' h) h
theorem z_bb_X10_sheet_67_23 {x1 : Int32} {s1 : Int32} {M : Mm} {v : Int32} {M' : Mm}  (h : bb_X10_sheet_67_23 x1 s1 M = some (v, M')) : Fr [(67, 0), (67, 1), (67, 2), (67, 3), (67, 4), (67, 5), (67, 6), (67, 7), (67, 19), (67, 22), (67, 23), (67, 24), (67, 25), (67, 26), (67, 27), (69, 0), (69, 1), (70, 999), (71, 999), (72, 999), (74, 999), (75, 999), (76, 999), (77, 999), (78, 999), (79, 999), (81, 999), (82, 999), (83, 999), (84, 999), (85, 999), (86, 999), (87, 999), (88, 999), (89, 999), (90, 999), (91, 999), (92, 999)] M M' := by
  unfold bb_X10_sheet_67_23 at h
  obtain ⟨v_6, M_5, hc, h⟩ := bd2_ex h
  refine Fr.tr (Fr.sub (z_f_X10_bad_67 hc) rfl) ?_
  rcases ite_ex h with ⟨hc, h⟩ | ⟨hc, h⟩
  · obtain ⟨M_7, he, h⟩ := ltv_ex h
    refine Fr.tr (M1 := M_7) (by rw [he]; exact Fr.wrI rfl) ?_
    obtain ⟨M_8, he, h⟩ := ltv_ex h
    refine Fr.tr (M1 := M_8) (by rw [he]; exact Fr.wrI rfl) ?_
    obtain ⟨M_9, he, h⟩ := ltv_ex h
    refine Fr.tr (M1 := M_9) (by rw [he]; exact Fr.wrI rfl) ?_
    obtain ⟨M_10, he, h⟩ := ltv_ex h
    refine Fr.tr (M1 := M_10) (by rw [he]; exact Fr.wrI rfl) ?_
    obtain ⟨M_11, he, h⟩ := ltv_ex h
    refine Fr.tr (M1 := M_11) (by rw [he]; exact Fr.wrI rfl) ?_
    obtain ⟨M_12, he, h⟩ := ltv_ex h
    refine Fr.tr (M1 := M_12) (by rw [he]; exact Fr.wrI rfl) ?_
    obtain ⟨M_13, he, h⟩ := ltv_ex h
    refine Fr.tr (M1 := M_13) (by rw [he]; exact Fr.wrI rfl) ?_
    obtain ⟨M_14, he, h⟩ := ltv_ex h
    refine Fr.tr (M1 := M_14) (by rw [he]; exact Fr.wrI rfl) ?_
    exact z_b_X10_sheet_67_78 _ _ _ _ _ h
  · cases h
    exact Fr.refl
theorem z_bb_X10_sheet_67_0 {x1 : Int32} {M : Mm} {v : Int32} {M' : Mm}  (h : bb_X10_sheet_67_0 x1 M = some (v, M')) : Fr [(67, 0), (67, 1), (67, 2), (67, 3), (67, 4), (67, 5), (67, 6), (67, 7), (67, 19), (67, 22), (67, 23), (67, 24), (67, 25), (67, 26), (67, 27), (69, 0), (69, 1), (70, 999), (71, 999), (72, 999), (74, 999), (75, 999), (76, 999), (77, 999), (78, 999), (79, 999), (81, 999), (82, 999), (83, 999), (84, 999), (85, 999), (86, 999), (87, 999), (88, 999), (89, 999), (90, 999), (91, 999), (92, 999)] M M' := by
  unfold bb_X10_sheet_67_0 at h
  obtain ⟨M_1, he, h⟩ := ltv_ex h
  refine Fr.tr (M1 := M_1) (by rw [he]; exact Fr.wrI rfl) ?_
  obtain ⟨v_3, _, h⟩ := bd_ex h
  rcases ite_ex h with ⟨hc, h⟩ | ⟨hc, h⟩
  · exact z_bb_X10_sheet_67_23 h
  · exact z_bb_X10_sheet_67_23 h
theorem z_f_X10_sheet_67 {x1 : Int32} {M : Mm} {v : Int32} {M' : Mm}  (h : f_X10_sheet_67 x1 M = some (v, M')) : Fr [(67, 0), (67, 1), (67, 2), (67, 3), (67, 4), (67, 5), (67, 6), (67, 7), (67, 19), (67, 22), (67, 23), (67, 24), (67, 25), (67, 26), (67, 27), (69, 0), (69, 1), (70, 999), (71, 999), (72, 999), (74, 999), (75, 999), (76, 999), (77, 999), (78, 999), (79, 999), (81, 999), (82, 999), (83, 999), (84, 999), (85, 999), (86, 999), (87, 999), (88, 999), (89, 999), (90, 999), (91, 999), (92, 999)] M M' := by
  unfold f_X10_sheet_67 at h
  exact z_bb_X10_sheet_67_0 h
theorem z_bb_X10_fault_67_0 {M : Mm} {v : Int32} {M' : Mm}  (h : bb_X10_fault_67_0 M = some (v, M')) : Fr [(67, 0)] M M' := by
  unfold bb_X10_fault_67_0 at h
  obtain ⟨M_1, he, h⟩ := ltv_ex h
  refine Fr.tr (M1 := M_1) (by rw [he]; exact Fr.wrI rfl) ?_
  cases h
  exact Fr.refl
theorem z_f_X10_fault_67 {M : Mm} {v : Int32} {M' : Mm}  (h : f_X10_fault_67 M = some (v, M')) : Fr [(67, 0)] M M' := by
  unfold f_X10_fault_67 at h
  exact z_bb_X10_fault_67_0 h
theorem z_bb_X10_told_67_20 {x1 : Int32} {s1 : Int32} {M : Mm} {v : Int32} {M' : Mm}  (h : bb_X10_told_67_20 x1 s1 M = some (v, M')) : Fr [(67, 0)] M M' := by
  unfold bb_X10_told_67_20 at h
  obtain ⟨v_6, M_5, hc, h⟩ := bd2_ex h
  refine Fr.tr (Fr.sub (z_f_X10_bad_67 hc) rfl) ?_
  rcases ite_ex h with ⟨hc, h⟩ | ⟨hc, h⟩
  · rcases ite_ex h with ⟨hc, h⟩ | ⟨hc, h⟩
    · cases h
      exact Fr.refl
    · obtain ⟨hg0, h⟩ := gd_ex h
      cases h
      exact Fr.refl
  · cases h
    exact Fr.refl
theorem z_bb_X10_told_67_0 {x1 : Int32} {M : Mm} {v : Int32} {M' : Mm}  (h : bb_X10_told_67_0 x1 M = some (v, M')) : Fr [(67, 0)] M M' := by
  unfold bb_X10_told_67_0 at h
  obtain ⟨M_1, he, h⟩ := ltv_ex h
  refine Fr.tr (M1 := M_1) (by rw [he]; exact Fr.wrI rfl) ?_
  obtain ⟨v_3, _, h⟩ := bd_ex h
  rcases ite_ex h with ⟨hc, h⟩ | ⟨hc, h⟩
  · exact z_bb_X10_told_67_20 h
  · exact z_bb_X10_told_67_20 h
theorem z_f_X10_told_67 {x1 : Int32} {M : Mm} {v : Int32} {M' : Mm}  (h : f_X10_told_67 x1 M = some (v, M')) : Fr [(67, 0)] M M' := by
  unfold f_X10_told_67 at h
  exact z_bb_X10_told_67_0 h
theorem z_bb_X10_squares_67_41 {x1 : Int32} {x2 : Int32} {s1 : Int32} {M : Mm} {v : Int64} {M' : Mm}  (h : bb_X10_squares_67_41 x1 x2 s1 M = some (v, M')) : Fr [(67, 0)] M M' := by
  unfold bb_X10_squares_67_41 at h
  obtain ⟨v_11, M_10, hc, h⟩ := bd2_ex h
  refine Fr.tr (Fr.sub (z_f_X10_bad_67 hc) rfl) ?_
  rcases ite_ex h with ⟨hc, h⟩ | ⟨hc, h⟩
  · rcases ite_ex h with ⟨hc, h⟩ | ⟨hc, h⟩
    · obtain ⟨hg0, h⟩ := gd_ex h
      cases h
      exact Fr.refl
    · rcases ite_ex h with ⟨hc, h⟩ | ⟨hc, h⟩
      · obtain ⟨hg0, h⟩ := gd_ex h
        obtain ⟨v_17, _, h⟩ := bd_ex h
        cases h
        exact Fr.refl
      · obtain ⟨hg0, h⟩ := gd_ex h
        obtain ⟨v_14, _, h⟩ := bd_ex h
        cases h
        exact Fr.refl
  · cases h
    exact Fr.refl
theorem z_bb_X10_squares_67_19 {x1 : Int32} {x2 : Int32} {s1 : Int32} {M : Mm} {v : Int64} {M' : Mm}  (h : bb_X10_squares_67_19 x1 x2 s1 M = some (v, M')) : Fr [(67, 0)] M M' := by
  unfold bb_X10_squares_67_19 at h
  obtain ⟨v_6, M_5, hc, h⟩ := bd2_ex h
  refine Fr.tr (Fr.sub (z_f_X10_bad_67 hc) rfl) ?_
  rcases ite_ex h with ⟨hc, h⟩ | ⟨hc, h⟩
  · obtain ⟨v_8, _, h⟩ := bd_ex h
    rcases ite_ex h with ⟨hc, h⟩ | ⟨hc, h⟩
    · exact z_bb_X10_squares_67_41 h
    · exact z_bb_X10_squares_67_41 h
  · cases h
    exact Fr.refl
theorem z_bb_X10_squares_67_0 {x1 : Int32} {x2 : Int32} {M : Mm} {v : Int64} {M' : Mm}  (h : bb_X10_squares_67_0 x1 x2 M = some (v, M')) : Fr [(67, 0)] M M' := by
  unfold bb_X10_squares_67_0 at h
  obtain ⟨M_1, he, h⟩ := ltv_ex h
  refine Fr.tr (M1 := M_1) (by rw [he]; exact Fr.wrI rfl) ?_
  obtain ⟨v_3, _, h⟩ := bd_ex h
  rcases ite_ex h with ⟨hc, h⟩ | ⟨hc, h⟩
  · exact z_bb_X10_squares_67_19 h
  · exact z_bb_X10_squares_67_19 h
theorem z_f_X10_squares_67 {x1 : Int32} {x2 : Int32} {M : Mm} {v : Int64} {M' : Mm}  (h : f_X10_squares_67 x1 x2 M = some (v, M')) : Fr [(67, 0)] M M' := by
  unfold f_X10_squares_67 at h
  exact z_bb_X10_squares_67_0 h
theorem z_bb_X10_letter_67_63 {k_63 : Int32 → Int32 → Int32 → Int32 → Int32 → Mm → Option (Int32 × Mm)} {x1 : Int32} {x2 : Int32} {x3 : Int32} {x4 : Int32} {x5 : Int32} {M : Mm} {v : Int32} {M' : Mm} (hk_63 : ∀ (y0 : Int32) (y1 : Int32) (y2 : Int32) (y3 : Int32) (y4 : Int32) (N : Mm) (w : Int32) (N' : Mm), k_63 y0 y1 y2 y3 y4 N = some (w, N') → Fr [(67, 0)] N N') (h : bb_X10_letter_67_63 k_63 x1 x2 x3 x4 x5 M = some (v, M')) : Fr [(67, 0)] M M' := by
  unfold bb_X10_letter_67_63 at h
  rcases ite_ex h with ⟨hc, h⟩ | ⟨hc, h⟩
  · rcases ite_ex h with ⟨hc, h⟩ | ⟨hc, h⟩
    · obtain ⟨hg0, h⟩ := gd_ex h
      obtain ⟨v_19, _, h⟩ := bd_ex h
      cases h
      exact Fr.refl
    · rcases ite_ex h with ⟨hc, h⟩ | ⟨hc, h⟩
      · obtain ⟨v_16, _, h⟩ := bd_ex h
        cases h
        exact Fr.refl
      · rcases ite_ex h with ⟨hc, h⟩ | ⟨hc, h⟩
        · obtain ⟨v_14, _, h⟩ := bd_ex h
          cases h
          exact Fr.refl
        · rcases ite_ex h with ⟨hc, h⟩ | ⟨hc, h⟩
          · cases h
            exact Fr.refl
          · cases h
            exact Fr.refl
  · obtain ⟨hg0, h⟩ := gd_ex h
    rcases ite_ex h with ⟨hc, h⟩ | ⟨hc, h⟩
    · obtain ⟨x4_21, _, h⟩ := ltv_ex h
      obtain ⟨x5_22, _, h⟩ := ltv_ex h
      exact hk_63 _ _ _ _ _ _ _ _ h
    · obtain ⟨x5_23, _, h⟩ := ltv_ex h
      exact hk_63 _ _ _ _ _ _ _ _ h
theorem z_b_X10_letter_67_63  : ∀ (n : Nat) (y0 : Int32) (y1 : Int32) (y2 : Int32) (y3 : Int32) (y4 : Int32) (M : Mm) (v : Int32) (M' : Mm), b_X10_letter_67_63 n y0 y1 y2 y3 y4 M = some (v, M') → Fr [(67, 0)] M M' := by
  intro n
  induction n with
  | zero =>
    intro y0 y1 y2 y3 y4 M v M' h
    have h : (none : Option _) = some _ := h
    cases h
  | succ n ih =>
    intro y0 y1 y2 y3 y4 M v M' h
    exact z_bb_X10_letter_67_63 (fun y0 y1 y2 y3 y4 M v M' h => ih y0 y1 y2 y3 y4 M v M' h) h
theorem z_bb_X10_letter_67_41 {x1 : Int32} {x2 : Int32} {s1 : Int32} {M : Mm} {v : Int32} {M' : Mm}  (h : bb_X10_letter_67_41 x1 x2 s1 M = some (v, M')) : Fr [(67, 0)] M M' := by
  unfold bb_X10_letter_67_41 at h
  obtain ⟨v_11, M_10, hc, h⟩ := bd2_ex h
  refine Fr.tr (Fr.sub (z_f_X10_bad_67 hc) rfl) ?_
  rcases ite_ex h with ⟨hc, h⟩ | ⟨hc, h⟩
  · obtain ⟨x5_12, _, h⟩ := ltv_ex h
    exact z_b_X10_letter_67_63 _ _ _ _ _ _ _ _ _ h
  · cases h
    exact Fr.refl
theorem z_bb_X10_letter_67_19 {x1 : Int32} {x2 : Int32} {s1 : Int32} {M : Mm} {v : Int32} {M' : Mm}  (h : bb_X10_letter_67_19 x1 x2 s1 M = some (v, M')) : Fr [(67, 0)] M M' := by
  unfold bb_X10_letter_67_19 at h
  obtain ⟨v_6, M_5, hc, h⟩ := bd2_ex h
  refine Fr.tr (Fr.sub (z_f_X10_bad_67 hc) rfl) ?_
  rcases ite_ex h with ⟨hc, h⟩ | ⟨hc, h⟩
  · obtain ⟨v_8, _, h⟩ := bd_ex h
    rcases ite_ex h with ⟨hc, h⟩ | ⟨hc, h⟩
    · exact z_bb_X10_letter_67_41 h
    · exact z_bb_X10_letter_67_41 h
  · cases h
    exact Fr.refl
theorem z_bb_X10_letter_67_0 {x1 : Int32} {x2 : Int32} {M : Mm} {v : Int32} {M' : Mm}  (h : bb_X10_letter_67_0 x1 x2 M = some (v, M')) : Fr [(67, 0)] M M' := by
  unfold bb_X10_letter_67_0 at h
  obtain ⟨M_1, he, h⟩ := ltv_ex h
  refine Fr.tr (M1 := M_1) (by rw [he]; exact Fr.wrI rfl) ?_
  obtain ⟨v_3, _, h⟩ := bd_ex h
  rcases ite_ex h with ⟨hc, h⟩ | ⟨hc, h⟩
  · exact z_bb_X10_letter_67_19 h
  · exact z_bb_X10_letter_67_19 h
theorem z_f_X10_letter_67 {x1 : Int32} {x2 : Int32} {M : Mm} {v : Int32} {M' : Mm}  (h : f_X10_letter_67 x1 x2 M = some (v, M')) : Fr [(67, 0)] M M' := by
  unfold f_X10_letter_67 at h
  exact z_bb_X10_letter_67_0 h
theorem z_bb_X10_hollow_67_19 {x1 : Int32} {s1 : Int32} {M : Mm} {v : Int64} {M' : Mm}  (h : bb_X10_hollow_67_19 x1 s1 M = some (v, M')) : Fr [(67, 0)] M M' := by
  unfold bb_X10_hollow_67_19 at h
  obtain ⟨v_6, M_5, hc, h⟩ := bd2_ex h
  refine Fr.tr (Fr.sub (z_f_X10_bad_67 hc) rfl) ?_
  rcases ite_ex h with ⟨hc, h⟩ | ⟨hc, h⟩
  · obtain ⟨hg0, h⟩ := gd_ex h
    cases h
    exact Fr.refl
  · cases h
    exact Fr.refl
theorem z_bb_X10_hollow_67_0 {x1 : Int32} {M : Mm} {v : Int64} {M' : Mm}  (h : bb_X10_hollow_67_0 x1 M = some (v, M')) : Fr [(67, 0)] M M' := by
  unfold bb_X10_hollow_67_0 at h
  obtain ⟨M_1, he, h⟩ := ltv_ex h
  refine Fr.tr (M1 := M_1) (by rw [he]; exact Fr.wrI rfl) ?_
  obtain ⟨v_3, _, h⟩ := bd_ex h
  rcases ite_ex h with ⟨hc, h⟩ | ⟨hc, h⟩
  · exact z_bb_X10_hollow_67_19 h
  · exact z_bb_X10_hollow_67_19 h
theorem z_f_X10_hollow_67 {x1 : Int32} {M : Mm} {v : Int64} {M' : Mm}  (h : f_X10_hollow_67 x1 M = some (v, M')) : Fr [(67, 0)] M M' := by
  unfold f_X10_hollow_67 at h
  exact z_bb_X10_hollow_67_0 h
theorem z_bb_X10_shape_67_0 {x1 : Int64} {M : Mm} {v : Int64} {M' : Mm}  (h : bb_X10_shape_67_0 x1 M = some (v, M')) : Fr [(67, 0)] M M' := by
  unfold bb_X10_shape_67_0 at h
  obtain ⟨M_1, he, h⟩ := ltv_ex h
  refine Fr.tr (M1 := M_1) (by rw [he]; exact Fr.wrI rfl) ?_
  obtain ⟨v_3, _, h⟩ := bd_ex h
  cases h
  exact Fr.refl
theorem z_f_X10_shape_67 {x1 : Int64} {M : Mm} {v : Int64} {M' : Mm}  (h : f_X10_shape_67 x1 M = some (v, M')) : Fr [(67, 0)] M M' := by
  unfold f_X10_shape_67 at h
  exact z_bb_X10_shape_67_0 h
theorem z_bb_X10_apart_67_27 {x1 : Int32} {x2 : Int32} {x3 : Int32} {s1 : Int32} {M : Mm} {v : Int32} {M' : Mm}  (h : bb_X10_apart_67_27 x1 x2 x3 s1 M = some (v, M')) : Fr [(67, 0)] M M' := by
  unfold bb_X10_apart_67_27 at h
  obtain ⟨v_8, M_7, hc, h⟩ := bd2_ex h
  refine Fr.tr (Fr.sub (z_f_X10_bad_67 hc) rfl) ?_
  rcases ite_ex h with ⟨hc, h⟩ | ⟨hc, h⟩
  · obtain ⟨hg0, h⟩ := gd_ex h
    obtain ⟨hg1, h⟩ := gd_ex h
    obtain ⟨v_12, _, h⟩ := bd_ex h
    cases h
    exact Fr.refl
  · cases h
    exact Fr.refl
theorem z_bb_X10_apart_67_22 {x1 : Int32} {x2 : Int32} {x3 : Int32} {M : Mm} {v : Int32} {M' : Mm}  (h : bb_X10_apart_67_22 x1 x2 x3 M = some (v, M')) : Fr [(67, 0)] M M' := by
  unfold bb_X10_apart_67_22 at h
  exact z_bb_X10_apart_67_27 h
theorem z_bb_X10_apart_67_0 {x1 : Int32} {x2 : Int32} {x3 : Int32} {M : Mm} {v : Int32} {M' : Mm}  (h : bb_X10_apart_67_0 x1 x2 x3 M = some (v, M')) : Fr [(67, 0)] M M' := by
  unfold bb_X10_apart_67_0 at h
  obtain ⟨M_1, he, h⟩ := ltv_ex h
  refine Fr.tr (M1 := M_1) (by rw [he]; exact Fr.wrI rfl) ?_
  obtain ⟨v_3, _, h⟩ := bd_ex h
  rcases ite_ex h with ⟨hc, h⟩ | ⟨hc, h⟩
  · exact z_bb_X10_apart_67_22 h
  · obtain ⟨v_5, _, h⟩ := bd_ex h
    rcases ite_ex h with ⟨hc, h⟩ | ⟨hc, h⟩
    · exact z_bb_X10_apart_67_22 h
    · exact z_bb_X10_apart_67_27 h
theorem z_f_X10_apart_67 {x1 : Int32} {x2 : Int32} {x3 : Int32} {M : Mm} {v : Int32} {M' : Mm}  (h : f_X10_apart_67 x1 x2 x3 M = some (v, M')) : Fr [(67, 0)] M M' := by
  unfold f_X10_apart_67 at h
  exact z_bb_X10_apart_67_0 h
theorem z_bb_X10_findSet_67_22 {k_2 : Int32 → Int32 → Int32 → Mm → Option (Int32 × Mm)} {k_22 : Int32 → Int32 → Int32 → Int32 → Mm → Option (Int32 × Mm)} {x1 : Int32} {x2 : Int32} {x3 : Int32} {x4 : Int32} {M : Mm} {v : Int32} {M' : Mm} (hk_2 : ∀ (y0 : Int32) (y1 : Int32) (y2 : Int32) (N : Mm) (w : Int32) (N' : Mm), k_2 y0 y1 y2 N = some (w, N') → Fr [(108, 999)] N N') (hk_22 : ∀ (y0 : Int32) (y1 : Int32) (y2 : Int32) (y3 : Int32) (N : Mm) (w : Int32) (N' : Mm), k_22 y0 y1 y2 y3 N = some (w, N') → Fr [(108, 999)] N N') (h : bb_X10_findSet_67_22 k_2 k_22 x1 x2 x3 x4 M = some (v, M')) : Fr [(108, 999)] M M' := by
  unfold bb_X10_findSet_67_22 at h
  rcases ite_ex h with ⟨hc, h⟩ | ⟨hc, h⟩
  · obtain ⟨x3_9, _, h⟩ := ltv_ex h
    exact hk_2 _ _ _ _ _ _ h
  · obtain ⟨hg0, h⟩ := gd_ex h
    obtain ⟨hg1, h⟩ := gd_ex h
    obtain ⟨v_13, _, h⟩ := bd_ex h
    rcases ite_ex h with ⟨hc, h⟩ | ⟨hc, h⟩
    · obtain ⟨x4_14, _, h⟩ := ltv_ex h
      exact hk_22 _ _ _ _ _ _ _ h
    · obtain ⟨hg2, h⟩ := gd_ex h
      obtain ⟨hg3, h⟩ := gd_ex h
      obtain ⟨M_17, he, h⟩ := ltv_ex h
      refine Fr.tr (M1 := M_17) (by rw [he]; exact Fr.wIa rfl) ?_
      obtain ⟨x4_18, _, h⟩ := ltv_ex h
      exact hk_22 _ _ _ _ _ _ _ h
theorem z_b_X10_findSet_67_22 {k_2 : Int32 → Int32 → Int32 → Mm → Option (Int32 × Mm)} (hk_2 : ∀ (y0 : Int32) (y1 : Int32) (y2 : Int32) (N : Mm) (w : Int32) (N' : Mm), k_2 y0 y1 y2 N = some (w, N') → Fr [(108, 999)] N N') : ∀ (n : Nat) (y0 : Int32) (y1 : Int32) (y2 : Int32) (y3 : Int32) (M : Mm) (v : Int32) (M' : Mm), b_X10_findSet_67_22 k_2 n y0 y1 y2 y3 M = some (v, M') → Fr [(108, 999)] M M' := by
  intro n
  induction n with
  | zero =>
    intro y0 y1 y2 y3 M v M' h
    have h : (none : Option _) = some _ := h
    cases h
  | succ n ih =>
    intro y0 y1 y2 y3 M v M' h
    exact z_bb_X10_findSet_67_22 hk_2 (fun y0 y1 y2 y3 M v M' h => ih y0 y1 y2 y3 M v M' h) h
theorem z_bb_X10_findSet_67_123 {k_89 : Int32 → Int32 → Mm → Option (Int32 × Mm)} {k_123 : Int32 → Int32 → Int32 → Int32 → Mm → Option (Int32 × Mm)} {x3 : Int32} {x4 : Int32} {x5 : Int32} {x6 : Int32} {M : Mm} {v : Int32} {M' : Mm} (hk_89 : ∀ (y0 : Int32) (y1 : Int32) (N : Mm) (w : Int32) (N' : Mm), k_89 y0 y1 N = some (w, N') → Fr [(108, 999)] N N') (hk_123 : ∀ (y0 : Int32) (y1 : Int32) (y2 : Int32) (y3 : Int32) (N : Mm) (w : Int32) (N' : Mm), k_123 y0 y1 y2 y3 N = some (w, N') → Fr [(108, 999)] N N') (h : bb_X10_findSet_67_123 k_89 k_123 x3 x4 x5 x6 M = some (v, M')) : Fr [(108, 999)] M M' := by
  unfold bb_X10_findSet_67_123 at h
  rcases ite_ex h with ⟨hc, h⟩ | ⟨hc, h⟩
  · rcases ite_ex h with ⟨hc, h⟩ | ⟨hc, h⟩
    · obtain ⟨x4_19, _, h⟩ := ltv_ex h
      exact hk_89 _ _ _ _ _ h
    · obtain ⟨x4_20, _, h⟩ := ltv_ex h
      exact hk_89 _ _ _ _ _ h
  · rcases ite_ex h with ⟨hc, h⟩ | ⟨hc, h⟩
    · rcases ite_ex h with ⟨hc, h⟩ | ⟨hc, h⟩
      · obtain ⟨x4_21, _, h⟩ := ltv_ex h
        exact hk_89 _ _ _ _ _ h
      · obtain ⟨x4_22, _, h⟩ := ltv_ex h
        exact hk_89 _ _ _ _ _ h
    · obtain ⟨hg0, h⟩ := gd_ex h
      rcases ite_ex h with ⟨hc, h⟩ | ⟨hc, h⟩
      · obtain ⟨x6_24, _, h⟩ := ltv_ex h
        exact hk_123 _ _ _ _ _ _ _ h
      · obtain ⟨x6_25, _, h⟩ := ltv_ex h
        exact hk_123 _ _ _ _ _ _ _ h
theorem z_b_X10_findSet_67_123 {k_89 : Int32 → Int32 → Mm → Option (Int32 × Mm)} (hk_89 : ∀ (y0 : Int32) (y1 : Int32) (N : Mm) (w : Int32) (N' : Mm), k_89 y0 y1 N = some (w, N') → Fr [(108, 999)] N N') : ∀ (n : Nat) (y0 : Int32) (y1 : Int32) (y2 : Int32) (y3 : Int32) (M : Mm) (v : Int32) (M' : Mm), b_X10_findSet_67_123 k_89 n y0 y1 y2 y3 M = some (v, M') → Fr [(108, 999)] M M' := by
  intro n
  induction n with
  | zero =>
    intro y0 y1 y2 y3 M v M' h
    have h : (none : Option _) = some _ := h
    cases h
  | succ n ih =>
    intro y0 y1 y2 y3 M v M' h
    exact z_bb_X10_findSet_67_123 hk_89 (fun y0 y1 y2 y3 M v M' h => ih y0 y1 y2 y3 M v M' h) h
theorem z_bb_X10_findSet_67_89 {k_89 : Int32 → Int32 → Mm → Option (Int32 × Mm)} {x3 : Int32} {x4 : Int32} {M : Mm} {v : Int32} {M' : Mm} (hk_89 : ∀ (y0 : Int32) (y1 : Int32) (N : Mm) (w : Int32) (N' : Mm), k_89 y0 y1 N = some (w, N') → Fr [(108, 999)] N N') (h : bb_X10_findSet_67_89 k_89 x3 x4 M = some (v, M')) : Fr [(108, 999)] M M' := by
  unfold bb_X10_findSet_67_89 at h
  rcases ite_ex h with ⟨hc, h⟩ | ⟨hc, h⟩
  · cases h
    exact Fr.refl
  · obtain ⟨v_5, _, h⟩ := bd_ex h
    obtain ⟨v_7, _, h⟩ := bd_ex h
    rcases ite_ex h with ⟨hc, h⟩ | ⟨hc, h⟩
    · exact z_b_X10_findSet_67_123 hk_89 _ _ _ _ _ _ _ _ h
    · obtain ⟨x4_8, _, h⟩ := ltv_ex h
      exact hk_89 _ _ _ _ _ h
theorem z_b_X10_findSet_67_89  : ∀ (n : Nat) (y0 : Int32) (y1 : Int32) (M : Mm) (v : Int32) (M' : Mm), b_X10_findSet_67_89 n y0 y1 M = some (v, M') → Fr [(108, 999)] M M' := by
  intro n
  induction n with
  | zero =>
    intro y0 y1 M v M' h
    have h : (none : Option _) = some _ := h
    cases h
  | succ n ih =>
    intro y0 y1 M v M' h
    exact z_bb_X10_findSet_67_89 (fun y0 y1 M v M' h => ih y0 y1 M v M' h) h
theorem z_bb_X10_findSet_67_2 {k_2 : Int32 → Int32 → Int32 → Mm → Option (Int32 × Mm)} {x1 : Int32} {x2 : Int32} {x3 : Int32} {M : Mm} {v : Int32} {M' : Mm} (hk_2 : ∀ (y0 : Int32) (y1 : Int32) (y2 : Int32) (N : Mm) (w : Int32) (N' : Mm), k_2 y0 y1 y2 N = some (w, N') → Fr [(108, 999)] N N') (h : bb_X10_findSet_67_2 k_2 x1 x2 x3 M = some (v, M')) : Fr [(108, 999)] M M' := by
  unfold bb_X10_findSet_67_2 at h
  rcases ite_ex h with ⟨hc, h⟩ | ⟨hc, h⟩
  · obtain ⟨x3_1, _, h⟩ := ltv_ex h
    exact z_b_X10_findSet_67_89 _ _ _ _ _ _ h
  · obtain ⟨hg0, h⟩ := gd_ex h
    obtain ⟨M_3, he, h⟩ := ltv_ex h
    refine Fr.tr (M1 := M_3) (by rw [he]; exact Fr.wIa rfl) ?_
    exact z_b_X10_findSet_67_22 hk_2 _ _ _ _ _ _ _ _ h
theorem z_b_X10_findSet_67_2  : ∀ (n : Nat) (y0 : Int32) (y1 : Int32) (y2 : Int32) (M : Mm) (v : Int32) (M' : Mm), b_X10_findSet_67_2 n y0 y1 y2 M = some (v, M') → Fr [(108, 999)] M M' := by
  intro n
  induction n with
  | zero =>
    intro y0 y1 y2 M v M' h
    have h : (none : Option _) = some _ := h
    cases h
  | succ n ih =>
    intro y0 y1 y2 M v M' h
    exact z_bb_X10_findSet_67_2 (fun y0 y1 y2 M v M' h => ih y0 y1 y2 M v M' h) h
theorem z_bb_X10_findSet_67_0 {x1 : Int32} {x2 : Int32} {M : Mm} {v : Int32} {M' : Mm}  (h : bb_X10_findSet_67_0 x1 x2 M = some (v, M')) : Fr [(108, 999)] M M' := by
  unfold bb_X10_findSet_67_0 at h
  exact z_b_X10_findSet_67_2 _ _ _ _ _ _ _ h
theorem z_f_X10_findSet_67 {x1 : Int32} {x2 : Int32} {M : Mm} {v : Int32} {M' : Mm}  (h : f_X10_findSet_67 x1 x2 M = some (v, M')) : Fr [(108, 999)] M M' := by
  unfold f_X10_findSet_67 at h
  exact z_bb_X10_findSet_67_0 h
theorem z_bb_X10_punches_67_30 {x1 : Int32} {x2 : Int32} {x3 : Int32} {s1 : Int32} {M : Mm} {v : Int32} {M' : Mm}  (h : bb_X10_punches_67_30 x1 x2 x3 s1 M = some (v, M')) : Fr [(67, 0), (108, 999)] M M' := by
  unfold bb_X10_punches_67_30 at h
  obtain ⟨v_8, M_7, hc, h⟩ := bd2_ex h
  refine Fr.tr (Fr.sub (z_f_X10_bad_67 hc) rfl) ?_
  rcases ite_ex h with ⟨hc, h⟩ | ⟨hc, h⟩
  · obtain ⟨v_11, M_10, hc, h⟩ := bd2_ex h
    refine Fr.tr (Fr.sub (z_f_X10_findSet_67 hc) rfl) ?_
    rcases ite_ex h with ⟨hc, h⟩ | ⟨hc, h⟩
    · obtain ⟨v_13, _, h⟩ := bd_ex h
      cases h
      exact Fr.refl
    · cases h
      exact Fr.refl
  · cases h
    exact Fr.refl
theorem z_bb_X10_punches_67_25 {x1 : Int32} {x2 : Int32} {x3 : Int32} {M : Mm} {v : Int32} {M' : Mm}  (h : bb_X10_punches_67_25 x1 x2 x3 M = some (v, M')) : Fr [(67, 0), (108, 999)] M M' := by
  unfold bb_X10_punches_67_25 at h
  exact z_bb_X10_punches_67_30 h
theorem z_bb_X10_punches_67_0 {x1 : Int32} {x2 : Int32} {x3 : Int32} {M : Mm} {v : Int32} {M' : Mm}  (h : bb_X10_punches_67_0 x1 x2 x3 M = some (v, M')) : Fr [(67, 0), (108, 999)] M M' := by
  unfold bb_X10_punches_67_0 at h
  obtain ⟨M_1, he, h⟩ := ltv_ex h
  refine Fr.tr (M1 := M_1) (by rw [he]; exact Fr.wrI rfl) ?_
  obtain ⟨v_3, _, h⟩ := bd_ex h
  rcases ite_ex h with ⟨hc, h⟩ | ⟨hc, h⟩
  · exact z_bb_X10_punches_67_25 h
  · obtain ⟨v_5, _, h⟩ := bd_ex h
    rcases ite_ex h with ⟨hc, h⟩ | ⟨hc, h⟩
    · exact z_bb_X10_punches_67_25 h
    · exact z_bb_X10_punches_67_30 h
theorem z_f_X10_punches_67 {x1 : Int32} {x2 : Int32} {x3 : Int32} {M : Mm} {v : Int32} {M' : Mm}  (h : f_X10_punches_67 x1 x2 x3 M = some (v, M')) : Fr [(67, 0), (108, 999)] M M' := by
  unfold f_X10_punches_67 at h
  exact z_bb_X10_punches_67_0 h
theorem z_bb_X10_served_67_69 {k_69 : Int32 → Int32 → Mm → Option (Int32 × Mm)} {x4 : Int32} {x5 : Int32} {M : Mm} {v : Int32} {M' : Mm} (hk_69 : ∀ (y0 : Int32) (y1 : Int32) (N : Mm) (w : Int32) (N' : Mm), k_69 y0 y1 N = some (w, N') → Fr [(67, 0), (108, 999)] N N') (h : bb_X10_served_67_69 k_69 x4 x5 M = some (v, M')) : Fr [(67, 0), (108, 999)] M M' := by
  unfold bb_X10_served_67_69 at h
  rcases ite_ex h with ⟨hc, h⟩ | ⟨hc, h⟩
  · obtain ⟨x5_17, _, h⟩ := ltv_ex h
    exact hk_69 _ _ _ _ _ h
  · cases h
    exact Fr.refl
theorem z_b_X10_served_67_69  : ∀ (n : Nat) (y0 : Int32) (y1 : Int32) (M : Mm) (v : Int32) (M' : Mm), b_X10_served_67_69 n y0 y1 M = some (v, M') → Fr [(67, 0), (108, 999)] M M' := by
  intro n
  induction n with
  | zero =>
    intro y0 y1 M v M' h
    have h : (none : Option _) = some _ := h
    cases h
  | succ n ih =>
    intro y0 y1 M v M' h
    exact z_bb_X10_served_67_69 (fun y0 y1 M v M' h => ih y0 y1 M v M' h) h
theorem z_bb_X10_served_67_42 {x1 : Int32} {x2 : Int32} {x3 : Int32} {s1 : Int32} {M : Mm} {v : Int32} {M' : Mm}  (h : bb_X10_served_67_42 x1 x2 x3 s1 M = some (v, M')) : Fr [(67, 0), (108, 999)] M M' := by
  unfold bb_X10_served_67_42 at h
  obtain ⟨v_11, M_10, hc, h⟩ := bd2_ex h
  refine Fr.tr (Fr.sub (z_f_X10_bad_67 hc) rfl) ?_
  rcases ite_ex h with ⟨hc, h⟩ | ⟨hc, h⟩
  · obtain ⟨v_14, M_13, hc, h⟩ := bd2_ex h
    refine Fr.tr (Fr.sub (z_f_X10_findSet_67 hc) rfl) ?_
    obtain ⟨hg0, h⟩ := gd_ex h
    obtain ⟨x4_16, _, h⟩ := ltv_ex h
    exact z_b_X10_served_67_69 _ _ _ _ _ _ h
  · cases h
    exact Fr.refl
theorem z_bb_X10_served_67_19 {x1 : Int32} {x2 : Int32} {x3 : Int32} {s1 : Int32} {M : Mm} {v : Int32} {M' : Mm}  (h : bb_X10_served_67_19 x1 x2 x3 s1 M = some (v, M')) : Fr [(67, 0), (108, 999)] M M' := by
  unfold bb_X10_served_67_19 at h
  obtain ⟨v_6, M_5, hc, h⟩ := bd2_ex h
  refine Fr.tr (Fr.sub (z_f_X10_bad_67 hc) rfl) ?_
  rcases ite_ex h with ⟨hc, h⟩ | ⟨hc, h⟩
  · obtain ⟨v_8, _, h⟩ := bd_ex h
    rcases ite_ex h with ⟨hc, h⟩ | ⟨hc, h⟩
    · exact z_bb_X10_served_67_42 h
    · exact z_bb_X10_served_67_42 h
  · cases h
    exact Fr.refl
theorem z_bb_X10_served_67_0 {x1 : Int32} {x2 : Int32} {x3 : Int32} {M : Mm} {v : Int32} {M' : Mm}  (h : bb_X10_served_67_0 x1 x2 x3 M = some (v, M')) : Fr [(67, 0), (108, 999)] M M' := by
  unfold bb_X10_served_67_0 at h
  obtain ⟨M_1, he, h⟩ := ltv_ex h
  refine Fr.tr (M1 := M_1) (by rw [he]; exact Fr.wrI rfl) ?_
  obtain ⟨v_3, _, h⟩ := bd_ex h
  rcases ite_ex h with ⟨hc, h⟩ | ⟨hc, h⟩
  · exact z_bb_X10_served_67_19 h
  · exact z_bb_X10_served_67_19 h
theorem z_f_X10_served_67 {x1 : Int32} {x2 : Int32} {x3 : Int32} {M : Mm} {v : Int32} {M' : Mm}  (h : f_X10_served_67 x1 x2 x3 M = some (v, M')) : Fr [(67, 0), (108, 999)] M M' := by
  unfold f_X10_served_67 at h
  exact z_bb_X10_served_67_0 h
theorem z_bb_X10_findTakes_67_151 {k_23 : Int64 → Int32 → Mm → Option Mm} {x1 : Int64} {x3 : Int32} {M : Mm} {M' : Mm} (hk_23 : ∀ (y0 : Int64) (y1 : Int32) (N : Mm) (N' : Mm), k_23 y0 y1 N = some N' → Fr [(99, 999), (100, 999), (101, 999)] N N') (h : bb_X10_findTakes_67_151 k_23 x1 x3 M = some M') : Fr [(99, 999), (100, 999), (101, 999)] M M' := by
  unfold bb_X10_findTakes_67_151 at h
  obtain ⟨hg0, h⟩ := gd_ex h
  rcases ite_ex h with ⟨hc, h⟩ | ⟨hc, h⟩
  · obtain ⟨x3_25, _, h⟩ := ltv_ex h
    exact hk_23 _ _ _ _ h
  · obtain ⟨hg1, h⟩ := gd_ex h
    obtain ⟨y_27, _, h⟩ := ltv_ex h
    obtain ⟨hg2, h⟩ := gd_ex h
    obtain ⟨hg3, h⟩ := gd_ex h
    obtain ⟨M_30, he, h⟩ := ltv_ex h
    refine Fr.tr (M1 := M_30) (by rw [he]; exact Fr.wJa rfl) ?_
    obtain ⟨x3_31, _, h⟩ := ltv_ex h
    exact hk_23 _ _ _ _ h
theorem z_bb_X10_findTakes_67_123 {k_23 : Int64 → Int32 → Mm → Option Mm} {x1 : Int64} {x3 : Int32} {s1 : Int32} {s2 : Int32} {M : Mm} {M' : Mm} (hk_23 : ∀ (y0 : Int64) (y1 : Int32) (N : Mm) (N' : Mm), k_23 y0 y1 N = some N' → Fr [(99, 999), (100, 999), (101, 999)] N N') (h : bb_X10_findTakes_67_123 k_23 x1 x3 s1 s2 M = some M') : Fr [(99, 999), (100, 999), (101, 999)] M M' := by
  unfold bb_X10_findTakes_67_123 at h
  obtain ⟨hg0, h⟩ := gd_ex h
  obtain ⟨M_17, he, h⟩ := ltv_ex h
  refine Fr.tr (M1 := M_17) (by rw [he]; exact Fr.wIa rfl) ?_
  obtain ⟨hg1, h⟩ := gd_ex h
  rcases ite_ex h with ⟨hc, h⟩ | ⟨hc, h⟩
  · exact z_bb_X10_findTakes_67_151 hk_23 h
  · obtain ⟨hg2, h⟩ := gd_ex h
    obtain ⟨y_20, _, h⟩ := ltv_ex h
    obtain ⟨hg3, h⟩ := gd_ex h
    obtain ⟨hg4, h⟩ := gd_ex h
    obtain ⟨M_23, he, h⟩ := ltv_ex h
    refine Fr.tr (M1 := M_23) (by rw [he]; exact Fr.wJa rfl) ?_
    exact z_bb_X10_findTakes_67_151 hk_23 h
theorem z_bb_X10_findTakes_67_80 {k_23 : Int64 → Int32 → Mm → Option Mm} {x1 : Int64} {x3 : Int32} {x4 : Int32} {s1 : Int32} {s2 : Int32} {M : Mm} {M' : Mm} (hk_23 : ∀ (y0 : Int64) (y1 : Int32) (N : Mm) (N' : Mm), k_23 y0 y1 N = some N' → Fr [(99, 999), (100, 999), (101, 999)] N N') (h : bb_X10_findTakes_67_80 k_23 x1 x3 x4 s1 s2 M = some M') : Fr [(99, 999), (100, 999), (101, 999)] M M' := by
  unfold bb_X10_findTakes_67_80 at h
  obtain ⟨hg0, h⟩ := gd_ex h
  obtain ⟨M_11, he, h⟩ := ltv_ex h
  refine Fr.tr (M1 := M_11) (by rw [he]; exact Fr.wIa rfl) ?_
  obtain ⟨v_13, _, h⟩ := bd_ex h
  rcases ite_ex h with ⟨hc, h⟩ | ⟨hc, h⟩
  · obtain ⟨v_15, _, h⟩ := bd_ex h
    rcases ite_ex h with ⟨hc, h⟩ | ⟨hc, h⟩
    · exact z_bb_X10_findTakes_67_123 hk_23 h
    · exact z_bb_X10_findTakes_67_123 hk_23 h
  · exact z_bb_X10_findTakes_67_123 hk_23 h
theorem z_bb_X10_findTakes_67_23 {k_23 : Int64 → Int32 → Mm → Option Mm} {x1 : Int64} {x3 : Int32} {M : Mm} {M' : Mm} (hk_23 : ∀ (y0 : Int64) (y1 : Int32) (N : Mm) (N' : Mm), k_23 y0 y1 N = some N' → Fr [(99, 999), (100, 999), (101, 999)] N N') (h : bb_X10_findTakes_67_23 k_23 x1 x3 M = some M') : Fr [(99, 999), (100, 999), (101, 999)] M M' := by
  unfold bb_X10_findTakes_67_23 at h
  rcases ite_ex h with ⟨hc, h⟩ | ⟨hc, h⟩
  · cases h
    exact Fr.refl
  · obtain ⟨x4_4, _, h⟩ := ltv_ex h
    obtain ⟨x5_5, _, h⟩ := ltv_ex h
    obtain ⟨v_7, _, h⟩ := bd_ex h
    rcases ite_ex h with ⟨hc, h⟩ | ⟨hc, h⟩
    · obtain ⟨v_9, _, h⟩ := bd_ex h
      rcases ite_ex h with ⟨hc, h⟩ | ⟨hc, h⟩
      · exact z_bb_X10_findTakes_67_80 hk_23 h
      · exact z_bb_X10_findTakes_67_80 hk_23 h
    · exact z_bb_X10_findTakes_67_80 hk_23 h
theorem z_b_X10_findTakes_67_23  : ∀ (n : Nat) (y0 : Int64) (y1 : Int32) (M : Mm) (M' : Mm), b_X10_findTakes_67_23 n y0 y1 M = some M' → Fr [(99, 999), (100, 999), (101, 999)] M M' := by
  intro n
  induction n with
  | zero =>
    intro y0 y1 M M' h
    have h : (none : Option _) = some _ := h
    cases h
  | succ n ih =>
    intro y0 y1 M M' h
    exact z_bb_X10_findTakes_67_23 (fun y0 y1 M M' h => ih y0 y1 M M' h) h
theorem z_bb_X10_findTakes_67_2 {k_2 : Int64 → Int32 → Mm → Option Mm} {x1 : Int64} {x3 : Int32} {M : Mm} {M' : Mm} (hk_2 : ∀ (y0 : Int64) (y1 : Int32) (N : Mm) (N' : Mm), k_2 y0 y1 N = some N' → Fr [(99, 999), (100, 999), (101, 999)] N N') (h : bb_X10_findTakes_67_2 k_2 x1 x3 M = some M') : Fr [(99, 999), (100, 999), (101, 999)] M M' := by
  unfold bb_X10_findTakes_67_2 at h
  rcases ite_ex h with ⟨hc, h⟩ | ⟨hc, h⟩
  · exact z_b_X10_findTakes_67_23 _ _ _ _ _ h
  · obtain ⟨hg0, h⟩ := gd_ex h
    obtain ⟨M_2, he, h⟩ := ltv_ex h
    refine Fr.tr (M1 := M_2) (by rw [he]; exact Fr.wJa rfl) ?_
    obtain ⟨x3_3, _, h⟩ := ltv_ex h
    exact hk_2 _ _ _ _ h
theorem z_b_X10_findTakes_67_2  : ∀ (n : Nat) (y0 : Int64) (y1 : Int32) (M : Mm) (M' : Mm), b_X10_findTakes_67_2 n y0 y1 M = some M' → Fr [(99, 999), (100, 999), (101, 999)] M M' := by
  intro n
  induction n with
  | zero =>
    intro y0 y1 M M' h
    have h : (none : Option _) = some _ := h
    cases h
  | succ n ih =>
    intro y0 y1 M M' h
    exact z_bb_X10_findTakes_67_2 (fun y0 y1 M M' h => ih y0 y1 M M' h) h
theorem z_bb_X10_findTakes_67_0 {x1 : Int64} {M : Mm} {M' : Mm}  (h : bb_X10_findTakes_67_0 x1 M = some M') : Fr [(99, 999), (100, 999), (101, 999)] M M' := by
  unfold bb_X10_findTakes_67_0 at h
  exact z_b_X10_findTakes_67_2 _ _ _ _ _ h
theorem z_f_X10_findTakes_67 {x1 : Int64} {M : Mm} {M' : Mm}  (h : f_X10_findTakes_67 x1 M = some M') : Fr [(99, 999), (100, 999), (101, 999)] M M' := by
  unfold f_X10_findTakes_67 at h
  exact z_bb_X10_findTakes_67_0 h
theorem z_bb_X10_pairs_67_17 {rc : Int64 → Int32 → Mm → Option (Int32 × Mm)} {k_17 : Int64 → Int32 → Int32 → Mm → Option (Int32 × Mm)} {x1 : Int64} {x3 : Int32} {x4 : Int32} {M : Mm} {v : Int32} {M' : Mm} (hrc : ∀ (y0 : Int64) (y1 : Int32) (N : Mm) (w : Int32) (N' : Mm), rc y0 y1 N = some (w, N') → Fr [(102, 999), (103, 999)] N N') (hk_17 : ∀ (y0 : Int64) (y1 : Int32) (y2 : Int32) (N : Mm) (w : Int32) (N' : Mm), k_17 y0 y1 y2 N = some (w, N') → Fr [(102, 999), (103, 999)] N N') (h : bb_X10_pairs_67_17 rc k_17 x1 x3 x4 M = some (v, M')) : Fr [(102, 999), (103, 999)] M M' := by
  unfold bb_X10_pairs_67_17 at h
  rcases ite_ex h with ⟨hc, h⟩ | ⟨hc, h⟩
  · cases h
    exact Fr.refl
  · obtain ⟨hg0, h⟩ := gd_ex h
    obtain ⟨x5_2, _, h⟩ := ltv_ex h
    obtain ⟨v_4, _, h⟩ := bd_ex h
    rcases ite_ex h with ⟨hc, h⟩ | ⟨hc, h⟩
    · obtain ⟨x4_5, _, h⟩ := ltv_ex h
      exact hk_17 _ _ _ _ _ _ h
    · obtain ⟨hg1, h⟩ := gd_ex h
      rcases ite_ex h with ⟨hc, h⟩ | ⟨hc, h⟩
      · rcases ite_ex h with ⟨hc, h⟩ | ⟨hc, h⟩
        · obtain ⟨x4_8, _, h⟩ := ltv_ex h
          exact hk_17 _ _ _ _ _ _ h
        · rcases ite_ex h with ⟨hc, h⟩ | ⟨hc, h⟩
          · obtain ⟨x4_9, _, h⟩ := ltv_ex h
            exact hk_17 _ _ _ _ _ _ h
          · obtain ⟨hg2, h⟩ := gd_ex h
            rcases ite_ex h with ⟨hc, h⟩ | ⟨hc, h⟩
            · obtain ⟨hg3, h⟩ := gd_ex h
              obtain ⟨M_12, he, h⟩ := ltv_ex h
              refine Fr.tr (M1 := M_12) (by rw [he]; exact Fr.wIa rfl) ?_
              obtain ⟨hg4, h⟩ := gd_ex h
              rcases ite_ex h with ⟨hc, h⟩ | ⟨hc, h⟩
              · obtain ⟨hg5, h⟩ := gd_ex h
                obtain ⟨M_15, he, h⟩ := ltv_ex h
                refine Fr.tr (M1 := M_15) (by rw [he]; exact Fr.wIa rfl) ?_
                cases h
                exact Fr.refl
              · obtain ⟨hg5, h⟩ := gd_ex h
                obtain ⟨v_19, M_18, hc, h⟩ := bd2_ex h
                refine Fr.tr (hrc _ _ _ _ _ hc) ?_
                rcases ite_ex h with ⟨hc, h⟩ | ⟨hc, h⟩
                · obtain ⟨x4_22, _, h⟩ := ltv_ex h
                  exact hk_17 _ _ _ _ _ _ h
                · obtain ⟨hg6, h⟩ := gd_ex h
                  obtain ⟨M_21, he, h⟩ := ltv_ex h
                  refine Fr.tr (M1 := M_21) (by rw [he]; exact Fr.wIa rfl) ?_
                  cases h
                  exact Fr.refl
            · obtain ⟨x4_23, _, h⟩ := ltv_ex h
              exact hk_17 _ _ _ _ _ _ h
      · obtain ⟨x4_7, _, h⟩ := ltv_ex h
        exact hk_17 _ _ _ _ _ _ h
theorem z_b_X10_pairs_67_17 {rc : Int64 → Int32 → Mm → Option (Int32 × Mm)} (hrc : ∀ (y0 : Int64) (y1 : Int32) (N : Mm) (w : Int32) (N' : Mm), rc y0 y1 N = some (w, N') → Fr [(102, 999), (103, 999)] N N') : ∀ (n : Nat) (y0 : Int64) (y1 : Int32) (y2 : Int32) (M : Mm) (v : Int32) (M' : Mm), b_X10_pairs_67_17 rc n y0 y1 y2 M = some (v, M') → Fr [(102, 999), (103, 999)] M M' := by
  intro n
  induction n with
  | zero =>
    intro y0 y1 y2 M v M' h
    have h : (none : Option _) = some _ := h
    cases h
  | succ n ih =>
    intro y0 y1 y2 M v M' h
    exact z_bb_X10_pairs_67_17 hrc (fun y0 y1 y2 M v M' h => ih y0 y1 y2 M v M' h) h
theorem z_bb_X10_pairs_67_0 {rc : Int64 → Int32 → Mm → Option (Int32 × Mm)} {x1 : Int64} {x3 : Int32} {M : Mm} {v : Int32} {M' : Mm} (hrc : ∀ (y0 : Int64) (y1 : Int32) (N : Mm) (w : Int32) (N' : Mm), rc y0 y1 N = some (w, N') → Fr [(102, 999), (103, 999)] N N') (h : bb_X10_pairs_67_0 rc x1 x3 M = some (v, M')) : Fr [(102, 999), (103, 999)] M M' := by
  unfold bb_X10_pairs_67_0 at h
  rcases ite_ex h with ⟨hc, h⟩ | ⟨hc, h⟩
  · cases h
    exact Fr.refl
  · exact z_b_X10_pairs_67_17 hrc _ _ _ _ _ _ _ h
theorem z_fr_X10_pairs_67  : ∀ (n : Nat) (y0 : Int64) (y1 : Int32) (M : Mm) (v : Int32) (M' : Mm), fr_X10_pairs_67 n y0 y1 M = some (v, M') → Fr [(102, 999), (103, 999)] M M' := by
  intro n
  induction n with
  | zero =>
    intro y0 y1 M v M' h
    have h : (none : Option _) = some _ := h
    cases h
  | succ n ih =>
    intro y0 y1 M v M' h
    exact z_bb_X10_pairs_67_0 (fun y0 y1 M v M' h => ih y0 y1 M v M' h) h
theorem z_f_X10_pairs_67 {x1 : Int64} {x3 : Int32} {M : Mm} {v : Int32} {M' : Mm}  (h : f_X10_pairs_67 x1 x3 M = some (v, M')) : Fr [(102, 999), (103, 999)] M M' := by
  unfold f_X10_pairs_67 at h
  exact z_fr_X10_pairs_67 _ _ _ _ _ _ h
theorem z_bb_X10_fewestLines_67_92 {k_9 : Int64 → Int32 → Int32 → Int32 → Int32 → Int32 → Mm → Option (Int32 × Mm)} {x1 : Int64} {x3 : Int32} {x4 : Int32} {x5 : Int32} {x6 : Int32} {x7 : Int32} {x8 : Int32} {x9 : Int32} {M : Mm} {v : Int32} {M' : Mm} (hk_9 : ∀ (y0 : Int64) (y1 : Int32) (y2 : Int32) (y3 : Int32) (y4 : Int32) (y5 : Int32) (N : Mm) (w : Int32) (N' : Mm), k_9 y0 y1 y2 y3 y4 y5 N = some (w, N') → Fr [(67, 37), (102, 999), (103, 999)] N N') (h : bb_X10_fewestLines_67_92 k_9 x1 x3 x4 x5 x6 x7 x8 x9 M = some (v, M')) : Fr [(67, 37), (102, 999), (103, 999)] M M' := by
  unfold bb_X10_fewestLines_67_92 at h
  rcases ite_ex h with ⟨hc, h⟩ | ⟨hc, h⟩
  · obtain ⟨x7_22, _, h⟩ := ltv_ex h
    exact hk_9 _ _ _ _ _ _ _ _ _ h
  · rcases ite_ex h with ⟨hc, h⟩ | ⟨hc, h⟩
    · obtain ⟨hg0, h⟩ := gd_ex h
      obtain ⟨x6_25, _, h⟩ := ltv_ex h
      obtain ⟨x7_26, _, h⟩ := ltv_ex h
      exact hk_9 _ _ _ _ _ _ _ _ _ h
    · obtain ⟨x7_23, _, h⟩ := ltv_ex h
      exact hk_9 _ _ _ _ _ _ _ _ _ h
theorem z_bb_X10_fewestLines_67_68 {k_9 : Int64 → Int32 → Int32 → Int32 → Int32 → Int32 → Mm → Option (Int32 × Mm)} {x1 : Int64} {x3 : Int32} {x4 : Int32} {x5 : Int32} {x6 : Int32} {x7 : Int32} {x8 : Int32} {x9 : Int32} {M : Mm} {v : Int32} {M' : Mm} (hk_9 : ∀ (y0 : Int64) (y1 : Int32) (y2 : Int32) (y3 : Int32) (y4 : Int32) (y5 : Int32) (N : Mm) (w : Int32) (N' : Mm), k_9 y0 y1 y2 y3 y4 y5 N = some (w, N') → Fr [(67, 37), (102, 999), (103, 999)] N N') (h : bb_X10_fewestLines_67_68 k_9 x1 x3 x4 x5 x6 x7 x8 x9 M = some (v, M')) : Fr [(67, 37), (102, 999), (103, 999)] M M' := by
  unfold bb_X10_fewestLines_67_68 at h
  rcases ite_ex h with ⟨hc, h⟩ | ⟨hc, h⟩
  · exact z_bb_X10_fewestLines_67_92 hk_9 h
  · rcases ite_ex h with ⟨hc, h⟩ | ⟨hc, h⟩
    · obtain ⟨hg0, h⟩ := gd_ex h
      obtain ⟨x6_18, _, h⟩ := ltv_ex h
      exact z_bb_X10_fewestLines_67_92 hk_9 h
    · exact z_bb_X10_fewestLines_67_92 hk_9 h
theorem z_bb_X10_fewestLines_67_211 {k_201 : Int64 → Int32 → Int32 → Mm → Option (Int32 × Mm)} {k_211 : Int64 → Int32 → Int32 → Int32 → Mm → Option (Int32 × Mm)} {x1 : Int64} {x5 : Int32} {x7 : Int32} {x8 : Int32} {M : Mm} {v : Int32} {M' : Mm} (hk_201 : ∀ (y0 : Int64) (y1 : Int32) (y2 : Int32) (N : Mm) (w : Int32) (N' : Mm), k_201 y0 y1 y2 N = some (w, N') → Fr [(67, 37), (102, 999), (103, 999)] N N') (hk_211 : ∀ (y0 : Int64) (y1 : Int32) (y2 : Int32) (y3 : Int32) (N : Mm) (w : Int32) (N' : Mm), k_211 y0 y1 y2 y3 N = some (w, N') → Fr [(67, 37), (102, 999), (103, 999)] N N') (h : bb_X10_fewestLines_67_211 k_201 k_211 x1 x5 x7 x8 M = some (v, M')) : Fr [(67, 37), (102, 999), (103, 999)] M M' := by
  unfold bb_X10_fewestLines_67_211 at h
  rcases ite_ex h with ⟨hc, h⟩ | ⟨hc, h⟩
  · obtain ⟨v_29, M_28, hc, h⟩ := bd2_ex h
    refine Fr.tr (Fr.sub (z_f_X10_pairs_67 hc) rfl) ?_
    rcases ite_ex h with ⟨hc, h⟩ | ⟨hc, h⟩
    · obtain ⟨x5_30, _, h⟩ := ltv_ex h
      obtain ⟨x7_31, _, h⟩ := ltv_ex h
      exact hk_201 _ _ _ _ _ _ h
    · obtain ⟨x5_32, _, h⟩ := ltv_ex h
      obtain ⟨x7_33, _, h⟩ := ltv_ex h
      exact hk_201 _ _ _ _ _ _ h
  · obtain ⟨hg0, h⟩ := gd_ex h
    obtain ⟨M_35, he, h⟩ := ltv_ex h
    refine Fr.tr (M1 := M_35) (by rw [he]; exact Fr.wIa rfl) ?_
    obtain ⟨x8_36, _, h⟩ := ltv_ex h
    exact hk_211 _ _ _ _ _ _ _ h
theorem z_b_X10_fewestLines_67_211 {k_201 : Int64 → Int32 → Int32 → Mm → Option (Int32 × Mm)} (hk_201 : ∀ (y0 : Int64) (y1 : Int32) (y2 : Int32) (N : Mm) (w : Int32) (N' : Mm), k_201 y0 y1 y2 N = some (w, N') → Fr [(67, 37), (102, 999), (103, 999)] N N') : ∀ (n : Nat) (y0 : Int64) (y1 : Int32) (y2 : Int32) (y3 : Int32) (M : Mm) (v : Int32) (M' : Mm), b_X10_fewestLines_67_211 k_201 n y0 y1 y2 y3 M = some (v, M') → Fr [(67, 37), (102, 999), (103, 999)] M M' := by
  intro n
  induction n with
  | zero =>
    intro y0 y1 y2 y3 M v M' h
    have h : (none : Option _) = some _ := h
    cases h
  | succ n ih =>
    intro y0 y1 y2 y3 M v M' h
    exact z_bb_X10_fewestLines_67_211 hk_201 (fun y0 y1 y2 y3 M v M' h => ih y0 y1 y2 y3 M v M' h) h
theorem z_bb_X10_fewestLines_67_201 {k_201 : Int64 → Int32 → Int32 → Mm → Option (Int32 × Mm)} {x1 : Int64} {x5 : Int32} {x7 : Int32} {M : Mm} {v : Int32} {M' : Mm} (hk_201 : ∀ (y0 : Int64) (y1 : Int32) (y2 : Int32) (N : Mm) (w : Int32) (N' : Mm), k_201 y0 y1 y2 N = some (w, N') → Fr [(67, 37), (102, 999), (103, 999)] N N') (h : bb_X10_fewestLines_67_201 k_201 x1 x5 x7 M = some (v, M')) : Fr [(67, 37), (102, 999), (103, 999)] M M' := by
  unfold bb_X10_fewestLines_67_201 at h
  rcases ite_ex h with ⟨hc, h⟩ | ⟨hc, h⟩
  · cases h
    exact Fr.refl
  · exact z_b_X10_fewestLines_67_211 hk_201 _ _ _ _ _ _ _ _ h
theorem z_b_X10_fewestLines_67_201  : ∀ (n : Nat) (y0 : Int64) (y1 : Int32) (y2 : Int32) (M : Mm) (v : Int32) (M' : Mm), b_X10_fewestLines_67_201 n y0 y1 y2 M = some (v, M') → Fr [(67, 37), (102, 999), (103, 999)] M M' := by
  intro n
  induction n with
  | zero =>
    intro y0 y1 y2 M v M' h
    have h : (none : Option _) = some _ := h
    cases h
  | succ n ih =>
    intro y0 y1 y2 M v M' h
    exact z_bb_X10_fewestLines_67_201 (fun y0 y1 y2 M v M' h => ih y0 y1 y2 M v M' h) h
theorem z_bb_X10_fewestLines_67_177 {k_177 : Int64 → Int32 → Int32 → Mm → Option (Int32 × Mm)} {x1 : Int64} {x5 : Int32} {x7 : Int32} {M : Mm} {v : Int32} {M' : Mm} (hk_177 : ∀ (y0 : Int64) (y1 : Int32) (y2 : Int32) (N : Mm) (w : Int32) (N' : Mm), k_177 y0 y1 y2 N = some (w, N') → Fr [(67, 37), (102, 999), (103, 999)] N N') (h : bb_X10_fewestLines_67_177 k_177 x1 x5 x7 M = some (v, M')) : Fr [(67, 37), (102, 999), (103, 999)] M M' := by
  unfold bb_X10_fewestLines_67_177 at h
  rcases ite_ex h with ⟨hc, h⟩ | ⟨hc, h⟩
  · exact z_b_X10_fewestLines_67_201 _ _ _ _ _ _ _ h
  · obtain ⟨hg0, h⟩ := gd_ex h
    obtain ⟨M_20, he, h⟩ := ltv_ex h
    refine Fr.tr (M1 := M_20) (by rw [he]; exact Fr.wIa rfl) ?_
    obtain ⟨x7_21, _, h⟩ := ltv_ex h
    exact hk_177 _ _ _ _ _ _ h
theorem z_b_X10_fewestLines_67_177  : ∀ (n : Nat) (y0 : Int64) (y1 : Int32) (y2 : Int32) (M : Mm) (v : Int32) (M' : Mm), b_X10_fewestLines_67_177 n y0 y1 y2 M = some (v, M') → Fr [(67, 37), (102, 999), (103, 999)] M M' := by
  intro n
  induction n with
  | zero =>
    intro y0 y1 y2 M v M' h
    have h : (none : Option _) = some _ := h
    cases h
  | succ n ih =>
    intro y0 y1 y2 M v M' h
    exact z_bb_X10_fewestLines_67_177 (fun y0 y1 y2 M v M' h => ih y0 y1 y2 M v M' h) h
theorem z_bb_X10_fewestLines_67_125 {k_125 : Int64 → Int32 → Int32 → Int32 → Int32 → Mm → Option (Int32 × Mm)} {x1 : Int64} {x3 : Int32} {x5 : Int32} {x6 : Int32} {x7 : Int32} {M : Mm} {v : Int32} {M' : Mm} (hk_125 : ∀ (y0 : Int64) (y1 : Int32) (y2 : Int32) (y3 : Int32) (y4 : Int32) (N : Mm) (w : Int32) (N' : Mm), k_125 y0 y1 y2 y3 y4 N = some (w, N') → Fr [(67, 37), (102, 999), (103, 999)] N N') (h : bb_X10_fewestLines_67_125 k_125 x1 x3 x5 x6 x7 M = some (v, M')) : Fr [(67, 37), (102, 999), (103, 999)] M M' := by
  unfold bb_X10_fewestLines_67_125 at h
  rcases ite_ex h with ⟨hc, h⟩ | ⟨hc, h⟩
  · obtain ⟨M_10, he, h⟩ := ltv_ex h
    refine Fr.tr (M1 := M_10) (by rw [he]; exact Fr.wrI rfl) ?_
    exact z_b_X10_fewestLines_67_177 _ _ _ _ _ _ _ h
  · rcases ite_ex h with ⟨hc, h⟩ | ⟨hc, h⟩
    · rcases ite_ex h with ⟨hc, h⟩ | ⟨hc, h⟩
      · obtain ⟨x5_15, _, h⟩ := ltv_ex h
        obtain ⟨x7_16, _, h⟩ := ltv_ex h
        exact hk_125 _ _ _ _ _ _ _ _ h
      · obtain ⟨x5_13, _, h⟩ := ltv_ex h
        obtain ⟨x7_14, _, h⟩ := ltv_ex h
        exact hk_125 _ _ _ _ _ _ _ _ h
    · obtain ⟨x5_11, _, h⟩ := ltv_ex h
      obtain ⟨x7_12, _, h⟩ := ltv_ex h
      exact hk_125 _ _ _ _ _ _ _ _ h
theorem z_b_X10_fewestLines_67_125  : ∀ (n : Nat) (y0 : Int64) (y1 : Int32) (y2 : Int32) (y3 : Int32) (y4 : Int32) (M : Mm) (v : Int32) (M' : Mm), b_X10_fewestLines_67_125 n y0 y1 y2 y3 y4 M = some (v, M') → Fr [(67, 37), (102, 999), (103, 999)] M M' := by
  intro n
  induction n with
  | zero =>
    intro y0 y1 y2 y3 y4 M v M' h
    have h : (none : Option _) = some _ := h
    cases h
  | succ n ih =>
    intro y0 y1 y2 y3 y4 M v M' h
    exact z_bb_X10_fewestLines_67_125 (fun y0 y1 y2 y3 y4 M v M' h => ih y0 y1 y2 y3 y4 M v M' h) h
theorem z_bb_X10_fewestLines_67_9 {k_9 : Int64 → Int32 → Int32 → Int32 → Int32 → Int32 → Mm → Option (Int32 × Mm)} {x1 : Int64} {x3 : Int32} {x4 : Int32} {x5 : Int32} {x6 : Int32} {x7 : Int32} {M : Mm} {v : Int32} {M' : Mm} (hk_9 : ∀ (y0 : Int64) (y1 : Int32) (y2 : Int32) (y3 : Int32) (y4 : Int32) (y5 : Int32) (N : Mm) (w : Int32) (N' : Mm), k_9 y0 y1 y2 y3 y4 y5 N = some (w, N') → Fr [(67, 37), (102, 999), (103, 999)] N N') (h : bb_X10_fewestLines_67_9 k_9 x1 x3 x4 x5 x6 x7 M = some (v, M')) : Fr [(67, 37), (102, 999), (103, 999)] M M' := by
  unfold bb_X10_fewestLines_67_9 at h
  rcases ite_ex h with ⟨hc, h⟩ | ⟨hc, h⟩
  · exact z_b_X10_fewestLines_67_125 _ _ _ _ _ _ _ _ _ h
  · obtain ⟨v_2, _, h⟩ := bd_ex h
    rcases ite_ex h with ⟨hc, h⟩ | ⟨hc, h⟩
    · obtain ⟨x7_9, _, h⟩ := ltv_ex h
      exact hk_9 _ _ _ _ _ _ _ _ _ h
    · obtain ⟨hg0, h⟩ := gd_ex h
      obtain ⟨v_5, _, h⟩ := bd_ex h
      obtain ⟨hg1, h⟩ := gd_ex h
      obtain ⟨v_8, _, h⟩ := bd_ex h
      rcases ite_ex h with ⟨hc, h⟩ | ⟨hc, h⟩
      · rcases ite_ex h with ⟨hc, h⟩ | ⟨hc, h⟩
        · cases h
          exact Fr.refl
        · exact z_bb_X10_fewestLines_67_68 hk_9 h
      · exact z_bb_X10_fewestLines_67_68 hk_9 h
theorem z_b_X10_fewestLines_67_9  : ∀ (n : Nat) (y0 : Int64) (y1 : Int32) (y2 : Int32) (y3 : Int32) (y4 : Int32) (y5 : Int32) (M : Mm) (v : Int32) (M' : Mm), b_X10_fewestLines_67_9 n y0 y1 y2 y3 y4 y5 M = some (v, M') → Fr [(67, 37), (102, 999), (103, 999)] M M' := by
  intro n
  induction n with
  | zero =>
    intro y0 y1 y2 y3 y4 y5 M v M' h
    have h : (none : Option _) = some _ := h
    cases h
  | succ n ih =>
    intro y0 y1 y2 y3 y4 y5 M v M' h
    exact z_bb_X10_fewestLines_67_9 (fun y0 y1 y2 y3 y4 y5 M v M' h => ih y0 y1 y2 y3 y4 y5 M v M' h) h
theorem z_bb_X10_fewestLines_67_0 {x1 : Int64} {x3 : Int32} {x4 : Int32} {M : Mm} {v : Int32} {M' : Mm}  (h : bb_X10_fewestLines_67_0 x1 x3 x4 M = some (v, M')) : Fr [(67, 37), (102, 999), (103, 999)] M M' := by
  unfold bb_X10_fewestLines_67_0 at h
  exact z_b_X10_fewestLines_67_9 _ _ _ _ _ _ _ _ _ _ h
theorem z_f_X10_fewestLines_67 {x1 : Int64} {x3 : Int32} {x4 : Int32} {M : Mm} {v : Int32} {M' : Mm}  (h : f_X10_fewestLines_67 x1 x3 x4 M = some (v, M')) : Fr [(67, 37), (102, 999), (103, 999)] M M' := by
  unfold f_X10_fewestLines_67 at h
  exact z_bb_X10_fewestLines_67_0 h
theorem z_bb_X10_bites_67_41 {x1 : Int32} {s1 : Int32} {M : Mm} {v : Int32} {M' : Mm}  (h : bb_X10_bites_67_41 x1 s1 M = some (v, M')) : Fr [(67, 0), (67, 37), (99, 999), (100, 999), (101, 999), (102, 999), (103, 999)] M M' := by
  unfold bb_X10_bites_67_41 at h
  obtain ⟨v_11, M_10, hc, h⟩ := bd2_ex h
  refine Fr.tr (Fr.sub (z_f_X10_bad_67 hc) rfl) ?_
  rcases ite_ex h with ⟨hc, h⟩ | ⟨hc, h⟩
  · obtain ⟨hg0, h⟩ := gd_ex h
    obtain ⟨M_14, hc, h⟩ := bd_ex h
    refine Fr.tr (Fr.sub (z_f_X10_findTakes_67 hc) rfl) ?_
    obtain ⟨hg1, h⟩ := gd_ex h
    obtain ⟨v_17, _, h⟩ := bd_ex h
    obtain ⟨v_20, M_19, hc, h⟩ := bd2_ex h
    refine Fr.tr (Fr.sub (z_f_X10_fewestLines_67 hc) rfl) ?_
    cases h
    exact Fr.refl
  · cases h
    exact Fr.refl
theorem z_bb_X10_bites_67_19 {x1 : Int32} {x2 : Int32} {s1 : Int32} {M : Mm} {v : Int32} {M' : Mm}  (h : bb_X10_bites_67_19 x1 x2 s1 M = some (v, M')) : Fr [(67, 0), (67, 37), (99, 999), (100, 999), (101, 999), (102, 999), (103, 999)] M M' := by
  unfold bb_X10_bites_67_19 at h
  obtain ⟨v_6, M_5, hc, h⟩ := bd2_ex h
  refine Fr.tr (Fr.sub (z_f_X10_bad_67 hc) rfl) ?_
  rcases ite_ex h with ⟨hc, h⟩ | ⟨hc, h⟩
  · obtain ⟨v_8, _, h⟩ := bd_ex h
    rcases ite_ex h with ⟨hc, h⟩ | ⟨hc, h⟩
    · exact z_bb_X10_bites_67_41 h
    · exact z_bb_X10_bites_67_41 h
  · cases h
    exact Fr.refl
theorem z_bb_X10_bites_67_0 {x1 : Int32} {x2 : Int32} {M : Mm} {v : Int32} {M' : Mm}  (h : bb_X10_bites_67_0 x1 x2 M = some (v, M')) : Fr [(67, 0), (67, 37), (99, 999), (100, 999), (101, 999), (102, 999), (103, 999)] M M' := by
  unfold bb_X10_bites_67_0 at h
  obtain ⟨M_1, he, h⟩ := ltv_ex h
  refine Fr.tr (M1 := M_1) (by rw [he]; exact Fr.wrI rfl) ?_
  obtain ⟨v_3, _, h⟩ := bd_ex h
  rcases ite_ex h with ⟨hc, h⟩ | ⟨hc, h⟩
  · exact z_bb_X10_bites_67_19 h
  · exact z_bb_X10_bites_67_19 h
theorem z_f_X10_bites_67 {x1 : Int32} {x2 : Int32} {M : Mm} {v : Int32} {M' : Mm}  (h : f_X10_bites_67 x1 x2 M = some (v, M')) : Fr [(67, 0), (67, 37), (99, 999), (100, 999), (101, 999), (102, 999), (103, 999)] M M' := by
  unfold f_X10_bites_67 at h
  exact z_bb_X10_bites_67_0 h
theorem z_bb_X10_linesFor_67_63 {k_18 : Int64 → Int32 → Int32 → Int32 → Int32 → Mm → Option (Int32 × Mm)} {x1 : Int64} {x3 : Int32} {x4 : Int32} {x5 : Int32} {x6 : Int32} {M : Mm} {v : Int32} {M' : Mm} (hk_18 : ∀ (y0 : Int64) (y1 : Int32) (y2 : Int32) (y3 : Int32) (y4 : Int32) (N : Mm) (w : Int32) (N' : Mm), k_18 y0 y1 y2 y3 y4 N = some (w, N') → Fr [(67, 37), (102, 999), (103, 999)] N N') (h : bb_X10_linesFor_67_63 k_18 x1 x3 x4 x5 x6 M = some (v, M')) : Fr [(67, 37), (102, 999), (103, 999)] M M' := by
  unfold bb_X10_linesFor_67_63 at h
  obtain ⟨x4_9, _, h⟩ := ltv_ex h
  obtain ⟨x3_10, _, h⟩ := ltv_ex h
  obtain ⟨x6_11, _, h⟩ := ltv_ex h
  exact hk_18 _ _ _ _ _ _ _ _ h
theorem z_bb_X10_linesFor_67_18 {k_18 : Int64 → Int32 → Int32 → Int32 → Int32 → Mm → Option (Int32 × Mm)} {x1 : Int64} {x3 : Int32} {x4 : Int32} {x5 : Int32} {x6 : Int32} {M : Mm} {v : Int32} {M' : Mm} (hk_18 : ∀ (y0 : Int64) (y1 : Int32) (y2 : Int32) (y3 : Int32) (y4 : Int32) (N : Mm) (w : Int32) (N' : Mm), k_18 y0 y1 y2 y3 y4 N = some (w, N') → Fr [(67, 37), (102, 999), (103, 999)] N N') (h : bb_X10_linesFor_67_18 k_18 x1 x3 x4 x5 x6 M = some (v, M')) : Fr [(67, 37), (102, 999), (103, 999)] M M' := by
  unfold bb_X10_linesFor_67_18 at h
  rcases ite_ex h with ⟨hc, h⟩ | ⟨hc, h⟩
  · cases h
    exact Fr.refl
  · obtain ⟨v_6, M_5, hc, h⟩ := bd2_ex h
    refine Fr.tr (Fr.sub (z_f_X10_fewestLines_67 hc) rfl) ?_
    rcases ite_ex h with ⟨hc, h⟩ | ⟨hc, h⟩
    · exact z_bb_X10_linesFor_67_63 hk_18 h
    · rcases ite_ex h with ⟨hc, h⟩ | ⟨hc, h⟩
      · obtain ⟨x5_7, _, h⟩ := ltv_ex h
        obtain ⟨x6_8, _, h⟩ := ltv_ex h
        exact hk_18 _ _ _ _ _ _ _ _ h
      · exact z_bb_X10_linesFor_67_63 hk_18 h
theorem z_b_X10_linesFor_67_18  : ∀ (n : Nat) (y0 : Int64) (y1 : Int32) (y2 : Int32) (y3 : Int32) (y4 : Int32) (M : Mm) (v : Int32) (M' : Mm), b_X10_linesFor_67_18 n y0 y1 y2 y3 y4 M = some (v, M') → Fr [(67, 37), (102, 999), (103, 999)] M M' := by
  intro n
  induction n with
  | zero =>
    intro y0 y1 y2 y3 y4 M v M' h
    have h : (none : Option _) = some _ := h
    cases h
  | succ n ih =>
    intro y0 y1 y2 y3 y4 M v M' h
    exact z_bb_X10_linesFor_67_18 (fun y0 y1 y2 y3 y4 M v M' h => ih y0 y1 y2 y3 y4 M v M' h) h
theorem z_bb_X10_linesFor_67_0 {x1 : Int64} {M : Mm} {v : Int32} {M' : Mm}  (h : bb_X10_linesFor_67_0 x1 M = some (v, M')) : Fr [(67, 37), (102, 999), (103, 999)] M M' := by
  unfold bb_X10_linesFor_67_0 at h
  obtain ⟨v_3, M_2, hc, h⟩ := bd2_ex h
  refine Fr.tr (Fr.sub (z_f_X10_fewestLines_67 hc) rfl) ?_
  exact z_b_X10_linesFor_67_18 _ _ _ _ _ _ _ _ _ h
theorem z_f_X10_linesFor_67 {x1 : Int64} {M : Mm} {v : Int32} {M' : Mm}  (h : f_X10_linesFor_67 x1 M = some (v, M')) : Fr [(67, 37), (102, 999), (103, 999)] M M' := by
  unfold f_X10_linesFor_67 at h
  exact z_bb_X10_linesFor_67_0 h
theorem z_bb_X10_lines_67_19 {x1 : Int32} {s1 : Int32} {M : Mm} {v : Int64} {M' : Mm}  (h : bb_X10_lines_67_19 x1 s1 M = some (v, M')) : Fr [(67, 0), (67, 37), (99, 999), (100, 999), (101, 999), (102, 999), (103, 999)] M M' := by
  unfold bb_X10_lines_67_19 at h
  obtain ⟨v_6, M_5, hc, h⟩ := bd2_ex h
  refine Fr.tr (Fr.sub (z_f_X10_bad_67 hc) rfl) ?_
  rcases ite_ex h with ⟨hc, h⟩ | ⟨hc, h⟩
  · obtain ⟨hg0, h⟩ := gd_ex h
    obtain ⟨M_9, hc, h⟩ := bd_ex h
    refine Fr.tr (Fr.sub (z_f_X10_findTakes_67 hc) rfl) ?_
    obtain ⟨hg1, h⟩ := gd_ex h
    obtain ⟨v_12, _, h⟩ := bd_ex h
    obtain ⟨v_15, M_14, hc, h⟩ := bd2_ex h
    refine Fr.tr (Fr.sub (z_f_X10_linesFor_67 hc) rfl) ?_
    cases h
    exact Fr.refl
  · cases h
    exact Fr.refl
theorem z_bb_X10_lines_67_0 {x1 : Int32} {M : Mm} {v : Int64} {M' : Mm}  (h : bb_X10_lines_67_0 x1 M = some (v, M')) : Fr [(67, 0), (67, 37), (99, 999), (100, 999), (101, 999), (102, 999), (103, 999)] M M' := by
  unfold bb_X10_lines_67_0 at h
  obtain ⟨M_1, he, h⟩ := ltv_ex h
  refine Fr.tr (M1 := M_1) (by rw [he]; exact Fr.wrI rfl) ?_
  obtain ⟨v_3, _, h⟩ := bd_ex h
  rcases ite_ex h with ⟨hc, h⟩ | ⟨hc, h⟩
  · exact z_bb_X10_lines_67_19 h
  · exact z_bb_X10_lines_67_19 h
theorem z_f_X10_lines_67 {x1 : Int32} {M : Mm} {v : Int64} {M' : Mm}  (h : f_X10_lines_67 x1 M = some (v, M')) : Fr [(67, 0), (67, 37), (99, 999), (100, 999), (101, 999), (102, 999), (103, 999)] M M' := by
  unfold f_X10_lines_67 at h
  exact z_bb_X10_lines_67_0 h
theorem z_bb_X10_begin_67_19 {x1 : Int32} {s1 : Int32} {M : Mm} {M' : Mm}  (h : bb_X10_begin_67_19 x1 s1 M = some M') : Fr [(67, 0), (67, 22), (67, 23), (67, 24)] M M' := by
  unfold bb_X10_begin_67_19 at h
  obtain ⟨v_6, M_5, hc, h⟩ := bd2_ex h
  refine Fr.tr (Fr.sub (z_f_X10_bad_67 hc) rfl) ?_
  rcases ite_ex h with ⟨hc, h⟩ | ⟨hc, h⟩
  · obtain ⟨M_7, he, h⟩ := ltv_ex h
    refine Fr.tr (M1 := M_7) (by rw [he]; exact Fr.wrI rfl) ?_
    obtain ⟨M_8, he, h⟩ := ltv_ex h
    refine Fr.tr (M1 := M_8) (by rw [he]; exact Fr.wrJ rfl) ?_
    obtain ⟨M_9, he, h⟩ := ltv_ex h
    refine Fr.tr (M1 := M_9) (by rw [he]; exact Fr.wrI rfl) ?_
    cases h
    exact Fr.refl
  · cases h
    exact Fr.refl
theorem z_bb_X10_begin_67_0 {x1 : Int32} {M : Mm} {M' : Mm}  (h : bb_X10_begin_67_0 x1 M = some M') : Fr [(67, 0), (67, 22), (67, 23), (67, 24)] M M' := by
  unfold bb_X10_begin_67_0 at h
  obtain ⟨M_1, he, h⟩ := ltv_ex h
  refine Fr.tr (M1 := M_1) (by rw [he]; exact Fr.wrI rfl) ?_
  obtain ⟨v_3, _, h⟩ := bd_ex h
  rcases ite_ex h with ⟨hc, h⟩ | ⟨hc, h⟩
  · exact z_bb_X10_begin_67_19 h
  · exact z_bb_X10_begin_67_19 h
theorem z_f_X10_begin_67 {x1 : Int32} {M : Mm} {M' : Mm}  (h : f_X10_begin_67 x1 M = some M') : Fr [(67, 0), (67, 22), (67, 23), (67, 24)] M M' := by
  unfold f_X10_begin_67 at h
  exact z_bb_X10_begin_67_0 h
theorem z_bb_X10_blows_67_39 {x1 : Int32} {s0 : Int32} {M : Mm} {v : Int32} {M' : Mm}  (h : bb_X10_blows_67_39 x1 s0 M = some (v, M')) : Fr [(67, 22)] M M' := by
  unfold bb_X10_blows_67_39 at h
  obtain ⟨hg0, h⟩ := gd_ex h
  obtain ⟨M_6, he, h⟩ := ltv_ex h
  refine Fr.tr (M1 := M_6) (by rw [he]; exact Fr.wrJ rfl) ?_
  rcases ite_ex h with ⟨hc, h⟩ | ⟨hc, h⟩
  · obtain ⟨hg1, h⟩ := gd_ex h
    cases h
    exact Fr.refl
  · obtain ⟨hg1, h⟩ := gd_ex h
    obtain ⟨v_10, _, h⟩ := bd_ex h
    obtain ⟨M_11, he, h⟩ := ltv_ex h
    refine Fr.tr (M1 := M_11) (by rw [he]; exact Fr.wrJ rfl) ?_
    obtain ⟨hg2, h⟩ := gd_ex h
    cases h
    exact Fr.refl
theorem z_bb_X10_blows_67_0 {x1 : Int32} {M : Mm} {v : Int32} {M' : Mm}  (h : bb_X10_blows_67_0 x1 M = some (v, M')) : Fr [(67, 22)] M M' := by
  unfold bb_X10_blows_67_0 at h
  obtain ⟨hg0, h⟩ := gd_ex h
  obtain ⟨v_3, _, h⟩ := bd_ex h
  obtain ⟨hg1, h⟩ := gd_ex h
  rcases ite_ex h with ⟨hc, h⟩ | ⟨hc, h⟩
  · exact z_bb_X10_blows_67_39 h
  · exact z_bb_X10_blows_67_39 h
theorem z_f_X10_blows_67 {x1 : Int32} {M : Mm} {v : Int32} {M' : Mm}  (h : f_X10_blows_67 x1 M = some (v, M')) : Fr [(67, 22)] M M' := by
  unfold f_X10_blows_67 at h
  exact z_bb_X10_blows_67_0 h
theorem z_bb_X10_blow_67_19 {x1 : Int32} {s1 : Int32} {M : Mm} {v : Int32} {M' : Mm}  (h : bb_X10_blow_67_19 x1 s1 M = some (v, M')) : Fr [(67, 0), (67, 22), (67, 24)] M M' := by
  unfold bb_X10_blow_67_19 at h
  obtain ⟨v_6, M_5, hc, h⟩ := bd2_ex h
  refine Fr.tr (Fr.sub (z_f_X10_bad_67 hc) rfl) ?_
  rcases ite_ex h with ⟨hc, h⟩ | ⟨hc, h⟩
  · rcases ite_ex h with ⟨hc, h⟩ | ⟨hc, h⟩
    · cases h
      exact Fr.refl
    · obtain ⟨hg0, h⟩ := gd_ex h
      rcases ite_ex h with ⟨hc, h⟩ | ⟨hc, h⟩
      · obtain ⟨v_9, _, h⟩ := bd_ex h
        obtain ⟨v_12, M_11, hc, h⟩ := bd2_ex h
        refine Fr.tr (Fr.sub (z_f_X10_blows_67 hc) rfl) ?_
        rcases ite_ex h with ⟨hc, h⟩ | ⟨hc, h⟩
        · obtain ⟨v_14, _, h⟩ := bd_ex h
          cases h
          exact Fr.refl
        · obtain ⟨M_15, he, h⟩ := ltv_ex h
          refine Fr.tr (M1 := M_15) (by rw [he]; exact Fr.wrI rfl) ?_
          obtain ⟨v_17, _, h⟩ := bd_ex h
          cases h
          exact Fr.refl
      · cases h
        exact Fr.refl
  · cases h
    exact Fr.refl
theorem z_bb_X10_blow_67_0 {x1 : Int32} {M : Mm} {v : Int32} {M' : Mm}  (h : bb_X10_blow_67_0 x1 M = some (v, M')) : Fr [(67, 0), (67, 22), (67, 24)] M M' := by
  unfold bb_X10_blow_67_0 at h
  obtain ⟨M_1, he, h⟩ := ltv_ex h
  refine Fr.tr (M1 := M_1) (by rw [he]; exact Fr.wrI rfl) ?_
  obtain ⟨v_3, _, h⟩ := bd_ex h
  rcases ite_ex h with ⟨hc, h⟩ | ⟨hc, h⟩
  · exact z_bb_X10_blow_67_19 h
  · exact z_bb_X10_blow_67_19 h
theorem z_f_X10_blow_67 {x1 : Int32} {M : Mm} {v : Int32} {M' : Mm}  (h : f_X10_blow_67 x1 M = some (v, M')) : Fr [(67, 0), (67, 22), (67, 24)] M M' := by
  unfold f_X10_blow_67 at h
  exact z_bb_X10_blow_67_0 h
theorem z_bb_X10_files_67_58 {k_3 : Int32 → Int32 → Int32 → Int32 → Mm → Option Mm} {x1 : Int32} {x2 : Int32} {x3 : Int32} {x4 : Int32} {x5 : Int32} {s0 : Int32} {M : Mm} {M' : Mm} (hk_3 : ∀ (y0 : Int32) (y1 : Int32) (y2 : Int32) (y3 : Int32) (N : Mm) (N' : Mm), k_3 y0 y1 y2 y3 N = some N' → Fr [(67, 22)] N N') (h : bb_X10_files_67_58 k_3 x1 x2 x3 x4 x5 s0 M = some M') : Fr [(67, 22)] M M' := by
  unfold bb_X10_files_67_58 at h
  obtain ⟨M_1, he, h⟩ := ltv_ex h
  refine Fr.tr (M1 := M_1) (by rw [he]; exact Fr.wrJ rfl) ?_
  obtain ⟨x4_2, _, h⟩ := ltv_ex h
  exact hk_3 _ _ _ _ _ _ h
theorem z_bb_X10_files_67_32 {k_3 : Int32 → Int32 → Int32 → Int32 → Mm → Option Mm} {x1 : Int32} {x2 : Int32} {x3 : Int32} {x4 : Int32} {s0 : Int32} {M : Mm} {M' : Mm} (hk_3 : ∀ (y0 : Int32) (y1 : Int32) (y2 : Int32) (y3 : Int32) (N : Mm) (N' : Mm), k_3 y0 y1 y2 y3 N = some N' → Fr [(67, 22)] N N') (h : bb_X10_files_67_32 k_3 x1 x2 x3 x4 s0 M = some M') : Fr [(67, 22)] M M' := by
  unfold bb_X10_files_67_32 at h
  rcases ite_ex h with ⟨hc, h⟩ | ⟨hc, h⟩
  · exact z_bb_X10_files_67_58 hk_3 h
  · rcases ite_ex h with ⟨hc, h⟩ | ⟨hc, h⟩
    · exact z_bb_X10_files_67_58 hk_3 h
    · exact z_bb_X10_files_67_58 hk_3 h
theorem z_bb_X10_files_67_3 {k_3 : Int32 → Int32 → Int32 → Int32 → Mm → Option Mm} {x1 : Int32} {x2 : Int32} {x3 : Int32} {x4 : Int32} {M : Mm} {M' : Mm} (hk_3 : ∀ (y0 : Int32) (y1 : Int32) (y2 : Int32) (y3 : Int32) (N : Mm) (N' : Mm), k_3 y0 y1 y2 y3 N = some N' → Fr [(67, 22)] N N') (h : bb_X10_files_67_3 k_3 x1 x2 x3 x4 M = some M') : Fr [(67, 22)] M M' := by
  unfold bb_X10_files_67_3 at h
  rcases ite_ex h with ⟨hc, h⟩ | ⟨hc, h⟩
  · cases h
    exact Fr.refl
  · rcases ite_ex h with ⟨hc, h⟩ | ⟨hc, h⟩
    · exact z_bb_X10_files_67_32 hk_3 h
    · rcases ite_ex h with ⟨hc, h⟩ | ⟨hc, h⟩
      · exact z_bb_X10_files_67_32 hk_3 h
      · exact z_bb_X10_files_67_32 hk_3 h
theorem z_b_X10_files_67_3  : ∀ (n : Nat) (y0 : Int32) (y1 : Int32) (y2 : Int32) (y3 : Int32) (M : Mm) (M' : Mm), b_X10_files_67_3 n y0 y1 y2 y3 M = some M' → Fr [(67, 22)] M M' := by
  intro n
  induction n with
  | zero =>
    intro y0 y1 y2 y3 M M' h
    have h : (none : Option _) = some _ := h
    cases h
  | succ n ih =>
    intro y0 y1 y2 y3 M M' h
    exact z_bb_X10_files_67_3 (fun y0 y1 y2 y3 M M' h => ih y0 y1 y2 y3 M M' h) h
theorem z_bb_X10_files_67_0 {x1 : Int32} {x2 : Int32} {x3 : Int32} {M : Mm} {M' : Mm}  (h : bb_X10_files_67_0 x1 x2 x3 M = some M') : Fr [(67, 22)] M M' := by
  unfold bb_X10_files_67_0 at h
  exact z_b_X10_files_67_3 _ _ _ _ _ _ _ h
theorem z_f_X10_files_67 {x1 : Int32} {x2 : Int32} {x3 : Int32} {M : Mm} {M' : Mm}  (h : f_X10_files_67 x1 x2 x3 M = some M') : Fr [(67, 22)] M M' := by
  unfold f_X10_files_67 at h
  exact z_bb_X10_files_67_0 h
theorem z_bb_X10_file_67_20 {x1 : Int32} {x2 : Int32} {x3 : Int32} {s1 : Int32} {M : Mm} {v : Int32} {M' : Mm}  (h : bb_X10_file_67_20 x1 x2 x3 s1 M = some (v, M')) : Fr [(67, 0), (67, 22)] M M' := by
  unfold bb_X10_file_67_20 at h
  obtain ⟨v_6, M_5, hc, h⟩ := bd2_ex h
  refine Fr.tr (Fr.sub (z_f_X10_bad_67 hc) rfl) ?_
  rcases ite_ex h with ⟨hc, h⟩ | ⟨hc, h⟩
  · rcases ite_ex h with ⟨hc, h⟩ | ⟨hc, h⟩
    · cases h
      exact Fr.refl
    · obtain ⟨v_8, _, h⟩ := bd_ex h
      obtain ⟨M_10, hc, h⟩ := bd_ex h
      refine Fr.tr (Fr.sub (z_f_X10_files_67 hc) rfl) ?_
      obtain ⟨v_12, _, h⟩ := bd_ex h
      cases h
      exact Fr.refl
  · cases h
    exact Fr.refl
theorem z_bb_X10_file_67_0 {x1 : Int32} {x2 : Int32} {x3 : Int32} {M : Mm} {v : Int32} {M' : Mm}  (h : bb_X10_file_67_0 x1 x2 x3 M = some (v, M')) : Fr [(67, 0), (67, 22)] M M' := by
  unfold bb_X10_file_67_0 at h
  obtain ⟨M_1, he, h⟩ := ltv_ex h
  refine Fr.tr (M1 := M_1) (by rw [he]; exact Fr.wrI rfl) ?_
  obtain ⟨v_3, _, h⟩ := bd_ex h
  rcases ite_ex h with ⟨hc, h⟩ | ⟨hc, h⟩
  · exact z_bb_X10_file_67_20 h
  · exact z_bb_X10_file_67_20 h
theorem z_f_X10_file_67 {x1 : Int32} {x2 : Int32} {x3 : Int32} {M : Mm} {v : Int32} {M' : Mm}  (h : f_X10_file_67 x1 x2 x3 M = some (v, M')) : Fr [(67, 0), (67, 22)] M M' := by
  unfold f_X10_file_67 at h
  exact z_bb_X10_file_67_0 h
theorem z_bb_X10_steel_67_0 {M : Mm} {v : Int64} {M' : Mm}  (h : bb_X10_steel_67_0 M = some (v, M')) : Fr [(67, 0)] M M' := by
  unfold bb_X10_steel_67_0 at h
  obtain ⟨M_1, he, h⟩ := ltv_ex h
  refine Fr.tr (M1 := M_1) (by rw [he]; exact Fr.wrI rfl) ?_
  rcases ite_ex h with ⟨hc, h⟩ | ⟨hc, h⟩
  · cases h
    exact Fr.refl
  · cases h
    exact Fr.refl
theorem z_f_X10_steel_67 {M : Mm} {v : Int64} {M' : Mm}  (h : f_X10_steel_67 M = some (v, M')) : Fr [(67, 0)] M M' := by
  unfold f_X10_steel_67 at h
  exact z_bb_X10_steel_67_0 h
theorem z_bb_X10_punch_67_20 {x1 : Int32} {s1 : Int32} {M : Mm} {v : Int32} {M' : Mm}  (h : bb_X10_punch_67_20 x1 s1 M = some (v, M')) : Fr [(67, 0)] M M' := by
  unfold bb_X10_punch_67_20 at h
  obtain ⟨v_6, M_5, hc, h⟩ := bd2_ex h
  refine Fr.tr (Fr.sub (z_f_X10_bad_67 hc) rfl) ?_
  rcases ite_ex h with ⟨hc, h⟩ | ⟨hc, h⟩
  · rcases ite_ex h with ⟨hc, h⟩ | ⟨hc, h⟩
    · cases h
      exact Fr.refl
    · rcases ite_ex h with ⟨hc, h⟩ | ⟨hc, h⟩
      · cases h
        exact Fr.refl
      · rcases ite_ex h with ⟨hc, h⟩ | ⟨hc, h⟩
        · obtain ⟨v_9, _, h⟩ := bd_ex h
          rcases ite_ex h with ⟨hc, h⟩ | ⟨hc, h⟩
          · cases h
            exact Fr.refl
          · cases h
            exact Fr.refl
        · obtain ⟨hg0, h⟩ := gd_ex h
          rcases ite_ex h with ⟨hc, h⟩ | ⟨hc, h⟩
          · cases h
            exact Fr.refl
          · cases h
            exact Fr.refl
  · cases h
    exact Fr.refl
theorem z_bb_X10_punch_67_0 {x1 : Int32} {M : Mm} {v : Int32} {M' : Mm}  (h : bb_X10_punch_67_0 x1 M = some (v, M')) : Fr [(67, 0)] M M' := by
  unfold bb_X10_punch_67_0 at h
  obtain ⟨M_1, he, h⟩ := ltv_ex h
  refine Fr.tr (M1 := M_1) (by rw [he]; exact Fr.wrI rfl) ?_
  obtain ⟨v_3, _, h⟩ := bd_ex h
  rcases ite_ex h with ⟨hc, h⟩ | ⟨hc, h⟩
  · exact z_bb_X10_punch_67_20 h
  · exact z_bb_X10_punch_67_20 h
theorem z_f_X10_punch_67 {x1 : Int32} {M : Mm} {v : Int32} {M' : Mm}  (h : f_X10_punch_67 x1 M = some (v, M')) : Fr [(67, 0)] M M' := by
  unfold f_X10_punch_67 at h
  exact z_bb_X10_punch_67_0 h
theorem z_bb_X10_adds_67_0 {x1 : Int32} {M : Mm} {v : Int32} {M' : Mm}  (h : bb_X10_adds_67_0 x1 M = some (v, M')) : Fr [(67, 25), (93, 999)] M M' := by
  unfold bb_X10_adds_67_0 at h
  rcases ite_ex h with ⟨hc, h⟩ | ⟨hc, h⟩
  · cases h
    exact Fr.refl
  · obtain ⟨hg0, h⟩ := gd_ex h
    obtain ⟨M_2, he, h⟩ := ltv_ex h
    refine Fr.tr (M1 := M_2) (by rw [he]; exact Fr.wIa rfl) ?_
    obtain ⟨M_3, he, h⟩ := ltv_ex h
    refine Fr.tr (M1 := M_3) (by rw [he]; exact Fr.wrI rfl) ?_
    cases h
    exact Fr.refl
theorem z_f_X10_adds_67 {x1 : Int32} {M : Mm} {v : Int32} {M' : Mm}  (h : f_X10_adds_67 x1 M = some (v, M')) : Fr [(67, 25), (93, 999)] M M' := by
  unfold f_X10_adds_67 at h
  exact z_bb_X10_adds_67_0 h
theorem z_bb_X10_addBlow_67_19 {x1 : Int32} {s1 : Int32} {M : Mm} {v : Int32} {M' : Mm}  (h : bb_X10_addBlow_67_19 x1 s1 M = some (v, M')) : Fr [(67, 0), (67, 25), (93, 999)] M M' := by
  unfold bb_X10_addBlow_67_19 at h
  obtain ⟨v_6, M_5, hc, h⟩ := bd2_ex h
  refine Fr.tr (Fr.sub (z_f_X10_bad_67 hc) rfl) ?_
  rcases ite_ex h with ⟨hc, h⟩ | ⟨hc, h⟩
  · obtain ⟨v_9, M_8, hc, h⟩ := bd2_ex h
    refine Fr.tr (Fr.sub (z_f_X10_adds_67 hc) rfl) ?_
    cases h
    exact Fr.refl
  · cases h
    exact Fr.refl
theorem z_bb_X10_addBlow_67_0 {x1 : Int32} {M : Mm} {v : Int32} {M' : Mm}  (h : bb_X10_addBlow_67_0 x1 M = some (v, M')) : Fr [(67, 0), (67, 25), (93, 999)] M M' := by
  unfold bb_X10_addBlow_67_0 at h
  obtain ⟨M_1, he, h⟩ := ltv_ex h
  refine Fr.tr (M1 := M_1) (by rw [he]; exact Fr.wrI rfl) ?_
  obtain ⟨v_3, _, h⟩ := bd_ex h
  rcases ite_ex h with ⟨hc, h⟩ | ⟨hc, h⟩
  · exact z_bb_X10_addBlow_67_19 h
  · exact z_bb_X10_addBlow_67_19 h
theorem z_f_X10_addBlow_67 {x1 : Int32} {M : Mm} {v : Int32} {M' : Mm}  (h : f_X10_addBlow_67 x1 M = some (v, M')) : Fr [(67, 0), (67, 25), (93, 999)] M M' := by
  unfold f_X10_addBlow_67 at h
  exact z_bb_X10_addBlow_67_0 h
theorem z_bb_X10_addFile_67_20 {x1 : Int32} {x2 : Int32} {x3 : Int32} {s1 : Int32} {M : Mm} {v : Int32} {M' : Mm}  (h : bb_X10_addFile_67_20 x1 x2 x3 s1 M = some (v, M')) : Fr [(67, 0), (67, 25), (93, 999)] M M' := by
  unfold bb_X10_addFile_67_20 at h
  obtain ⟨v_6, M_5, hc, h⟩ := bd2_ex h
  refine Fr.tr (Fr.sub (z_f_X10_bad_67 hc) rfl) ?_
  rcases ite_ex h with ⟨hc, h⟩ | ⟨hc, h⟩
  · obtain ⟨v_9, M_8, hc, h⟩ := bd2_ex h
    refine Fr.tr (Fr.sub (z_f_X10_adds_67 hc) rfl) ?_
    cases h
    exact Fr.refl
  · cases h
    exact Fr.refl
theorem z_bb_X10_addFile_67_0 {x1 : Int32} {x2 : Int32} {x3 : Int32} {M : Mm} {v : Int32} {M' : Mm}  (h : bb_X10_addFile_67_0 x1 x2 x3 M = some (v, M')) : Fr [(67, 0), (67, 25), (93, 999)] M M' := by
  unfold bb_X10_addFile_67_0 at h
  obtain ⟨M_1, he, h⟩ := ltv_ex h
  refine Fr.tr (M1 := M_1) (by rw [he]; exact Fr.wrI rfl) ?_
  obtain ⟨v_3, _, h⟩ := bd_ex h
  rcases ite_ex h with ⟨hc, h⟩ | ⟨hc, h⟩
  · exact z_bb_X10_addFile_67_20 h
  · exact z_bb_X10_addFile_67_20 h
theorem z_f_X10_addFile_67 {x1 : Int32} {x2 : Int32} {x3 : Int32} {M : Mm} {v : Int32} {M' : Mm}  (h : f_X10_addFile_67 x1 x2 x3 M = some (v, M')) : Fr [(67, 0), (67, 25), (93, 999)] M M' := by
  unfold f_X10_addFile_67 at h
  exact z_bb_X10_addFile_67_0 h
theorem z_bb_X10_clear_67_0 {M : Mm} {v : Int32} {M' : Mm}  (h : bb_X10_clear_67_0 M = some (v, M')) : Fr [(67, 0), (67, 25)] M M' := by
  unfold bb_X10_clear_67_0 at h
  obtain ⟨M_1, he, h⟩ := ltv_ex h
  refine Fr.tr (M1 := M_1) (by rw [he]; exact Fr.wrI rfl) ?_
  obtain ⟨x1_2, _, h⟩ := ltv_ex h
  obtain ⟨M_3, he, h⟩ := ltv_ex h
  refine Fr.tr (M1 := M_3) (by rw [he]; exact Fr.wrI rfl) ?_
  cases h
  exact Fr.refl
theorem z_f_X10_clear_67 {M : Mm} {v : Int32} {M' : Mm}  (h : f_X10_clear_67 M = some (v, M')) : Fr [(67, 0), (67, 25)] M M' := by
  unfold f_X10_clear_67 at h
  exact z_bb_X10_clear_67_0 h
theorem z_bb_X10_judge_67_147 {k_68 : Int32 → Int32 → Int64 → Int32 → Int32 → Mm → Option (Int32 × Mm)} {x1 : Int32} {x2 : Int32} {x3 : Int64} {x5 : Int32} {x6 : Int32} {M : Mm} {v : Int32} {M' : Mm} (hk_68 : ∀ (y0 : Int32) (y1 : Int32) (y2 : Int64) (y3 : Int32) (y4 : Int32) (N : Mm) (w : Int32) (N' : Mm), k_68 y0 y1 y2 y3 y4 N = some (w, N') → Fr [(67, 0), (67, 22)] N N') (h : bb_X10_judge_67_147 k_68 x1 x2 x3 x5 x6 M = some (v, M')) : Fr [(67, 0), (67, 22)] M M' := by
  unfold bb_X10_judge_67_147 at h
  rcases ite_ex h with ⟨hc, h⟩ | ⟨hc, h⟩
  · obtain ⟨v_26, _, h⟩ := bd_ex h
    rcases ite_ex h with ⟨hc, h⟩ | ⟨hc, h⟩
    · obtain ⟨x6_28, _, h⟩ := ltv_ex h
      exact hk_68 _ _ _ _ _ _ _ _ h
    · obtain ⟨x6_27, _, h⟩ := ltv_ex h
      exact hk_68 _ _ _ _ _ _ _ _ h
  · obtain ⟨x6_24, _, h⟩ := ltv_ex h
    exact hk_68 _ _ _ _ _ _ _ _ h
theorem z_bb_X10_judge_67_195 {x2 : Int32} {x3 : Int64} {x5 : Int32} {s0 : Int32} {M : Mm} {v : Int32} {M' : Mm}  (h : bb_X10_judge_67_195 x2 x3 x5 s0 M = some (v, M')) : Fr [(67, 0), (67, 22)] M M' := by
  unfold bb_X10_judge_67_195 at h
  obtain ⟨M_23, he, h⟩ := ltv_ex h
  refine Fr.tr (M1 := M_23) (by rw [he]; exact Fr.wrJ rfl) ?_
  rcases ite_ex h with ⟨hc, h⟩ | ⟨hc, h⟩
  · cases h
    exact Fr.refl
  · rcases ite_ex h with ⟨hc, h⟩ | ⟨hc, h⟩
    · cases h
      exact Fr.refl
    · cases h
      exact Fr.refl
theorem z_bb_X10_judge_67_68 {k_68 : Int32 → Int32 → Int64 → Int32 → Int32 → Mm → Option (Int32 × Mm)} {x1 : Int32} {x2 : Int32} {x3 : Int64} {x5 : Int32} {x6 : Int32} {M : Mm} {v : Int32} {M' : Mm} (hk_68 : ∀ (y0 : Int32) (y1 : Int32) (y2 : Int64) (y3 : Int32) (y4 : Int32) (N : Mm) (w : Int32) (N' : Mm), k_68 y0 y1 y2 y3 y4 N = some (w, N') → Fr [(67, 0), (67, 22)] N N') (h : bb_X10_judge_67_68 k_68 x1 x2 x3 x5 x6 M = some (v, M')) : Fr [(67, 0), (67, 22)] M M' := by
  unfold bb_X10_judge_67_68 at h
  rcases ite_ex h with ⟨hc, h⟩ | ⟨hc, h⟩
  · obtain ⟨hg0, h⟩ := gd_ex h
    rcases ite_ex h with ⟨hc, h⟩ | ⟨hc, h⟩
    · exact z_bb_X10_judge_67_195 h
    · exact z_bb_X10_judge_67_195 h
  · obtain ⟨hg0, h⟩ := gd_ex h
    obtain ⟨x7_16, _, h⟩ := ltv_ex h
    rcases ite_ex h with ⟨hc, h⟩ | ⟨hc, h⟩
    · obtain ⟨hg1, h⟩ := gd_ex h
      rcases ite_ex h with ⟨hc, h⟩ | ⟨hc, h⟩
      · obtain ⟨v_20, M_19, hc, h⟩ := bd2_ex h
        refine Fr.tr (Fr.sub (z_f_X10_blows_67 hc) rfl) ?_
        exact z_bb_X10_judge_67_147 hk_68 h
      · exact z_bb_X10_judge_67_147 hk_68 h
    · obtain ⟨M_22, hc, h⟩ := bd_ex h
      refine Fr.tr (Fr.sub (z_f_X10_files_67 hc) rfl) ?_
      exact z_bb_X10_judge_67_147 hk_68 h
theorem z_b_X10_judge_67_68  : ∀ (n : Nat) (y0 : Int32) (y1 : Int32) (y2 : Int64) (y3 : Int32) (y4 : Int32) (M : Mm) (v : Int32) (M' : Mm), b_X10_judge_67_68 n y0 y1 y2 y3 y4 M = some (v, M') → Fr [(67, 0), (67, 22)] M M' := by
  intro n
  induction n with
  | zero =>
    intro y0 y1 y2 y3 y4 M v M' h
    have h : (none : Option _) = some _ := h
    cases h
  | succ n ih =>
    intro y0 y1 y2 y3 y4 M v M' h
    exact z_bb_X10_judge_67_68 (fun y0 y1 y2 y3 y4 M v M' h => ih y0 y1 y2 y3 y4 M v M' h) h
theorem z_bb_X10_judge_67_41 {x1 : Int32} {x2 : Int32} {s1 : Int32} {M : Mm} {v : Int32} {M' : Mm}  (h : bb_X10_judge_67_41 x1 x2 s1 M = some (v, M')) : Fr [(67, 0), (67, 22)] M M' := by
  unfold bb_X10_judge_67_41 at h
  obtain ⟨v_11, M_10, hc, h⟩ := bd2_ex h
  refine Fr.tr (Fr.sub (z_f_X10_bad_67 hc) rfl) ?_
  rcases ite_ex h with ⟨hc, h⟩ | ⟨hc, h⟩
  · obtain ⟨x3_12, _, h⟩ := ltv_ex h
    obtain ⟨M_13, he, h⟩ := ltv_ex h
    refine Fr.tr (M1 := M_13) (by rw [he]; exact Fr.wrJ rfl) ?_
    exact z_b_X10_judge_67_68 _ _ _ _ _ _ _ _ _ h
  · cases h
    exact Fr.refl
theorem z_bb_X10_judge_67_19 {x1 : Int32} {x2 : Int32} {s1 : Int32} {M : Mm} {v : Int32} {M' : Mm}  (h : bb_X10_judge_67_19 x1 x2 s1 M = some (v, M')) : Fr [(67, 0), (67, 22)] M M' := by
  unfold bb_X10_judge_67_19 at h
  obtain ⟨v_6, M_5, hc, h⟩ := bd2_ex h
  refine Fr.tr (Fr.sub (z_f_X10_bad_67 hc) rfl) ?_
  rcases ite_ex h with ⟨hc, h⟩ | ⟨hc, h⟩
  · obtain ⟨v_8, _, h⟩ := bd_ex h
    rcases ite_ex h with ⟨hc, h⟩ | ⟨hc, h⟩
    · exact z_bb_X10_judge_67_41 h
    · exact z_bb_X10_judge_67_41 h
  · cases h
    exact Fr.refl
theorem z_bb_X10_judge_67_0 {x1 : Int32} {x2 : Int32} {M : Mm} {v : Int32} {M' : Mm}  (h : bb_X10_judge_67_0 x1 x2 M = some (v, M')) : Fr [(67, 0), (67, 22)] M M' := by
  unfold bb_X10_judge_67_0 at h
  obtain ⟨M_1, he, h⟩ := ltv_ex h
  refine Fr.tr (M1 := M_1) (by rw [he]; exact Fr.wrI rfl) ?_
  obtain ⟨v_3, _, h⟩ := bd_ex h
  rcases ite_ex h with ⟨hc, h⟩ | ⟨hc, h⟩
  · exact z_bb_X10_judge_67_19 h
  · exact z_bb_X10_judge_67_19 h
theorem z_f_X10_judge_67 {x1 : Int32} {x2 : Int32} {M : Mm} {v : Int32} {M' : Mm}  (h : f_X10_judge_67 x1 x2 M = some (v, M')) : Fr [(67, 0), (67, 22)] M M' := by
  unfold f_X10_judge_67 at h
  exact z_bb_X10_judge_67_0 h
