theorem z_bb_J7_fill_d0a16_12_6 {k_6 : Int64 → Int32 → Int32 → Mm → Option Mm} {x1 : Int64} {x3 : Int32} {x4 : Int32} {M : Mm} {M' : Mm} (hk_6 : ∀ (y0 : Int64) (y1 : Int32) (y2 : Int32) (N : Mm) (N' : Mm), k_6 y0 y1 y2 N = some N' → Fr [(12, 999)] N N') (h : bb_J7_fill_d0a16_12_6 k_6 x1 x3 x4 M = some M') : Fr [(12, 999)] M M' := by
  unfold bb_J7_fill_d0a16_12_6 at h
  rcases ite_ex h with ⟨hc, h⟩ | ⟨hc, h⟩
  · cases h
    exact Fr.refl
  · obtain ⟨hg0, h⟩ := gd_ex h
    obtain ⟨M_2, he, h⟩ := ltv_ex h
    refine Fr.tr (M1 := M_2) (by rw [he]; exact Fr.wJa rfl) ?_
    obtain ⟨x3_3, _, h⟩ := ltv_ex h
    exact hk_6 _ _ _ _ _ h
theorem z_b_J7_fill_d0a16_12_6  : ∀ (n : Nat) (y0 : Int64) (y1 : Int32) (y2 : Int32) (M : Mm) (M' : Mm), b_J7_fill_d0a16_12_6 n y0 y1 y2 M = some M' → Fr [(12, 999)] M M' := by
  intro n
  induction n with
  | zero =>
    intro y0 y1 y2 M M' h
    have h : (none : Option _) = some _ := h
    cases h
  | succ n ih =>
    intro y0 y1 y2 M M' h
    exact z_bb_J7_fill_d0a16_12_6 (fun y0 y1 y2 M M' h => ih y0 y1 y2 M M' h) h
theorem z_bb_J7_fill_d0a16_12_0 {x1 : Int64} {M : Mm} {M' : Mm}  (h : bb_J7_fill_d0a16_12_0 x1 M = some M') : Fr [(12, 999)] M M' := by
  unfold bb_J7_fill_d0a16_12_0 at h
  exact z_b_J7_fill_d0a16_12_6 _ _ _ _ _ _ h
theorem z_f_J7_fill_d0a16_12 {x1 : Int64} {M : Mm} {M' : Mm}  (h : f_J7_fill_d0a16_12 x1 M = some M') : Fr [(12, 999)] M M' := by
  unfold f_J7_fill_d0a16_12 at h
  exact z_bb_J7_fill_d0a16_12_0 h
theorem z_bb_J7_fill_d0a16_13_6 {k_6 : Int64 → Int32 → Int32 → Mm → Option Mm} {x1 : Int64} {x3 : Int32} {x4 : Int32} {M : Mm} {M' : Mm} (hk_6 : ∀ (y0 : Int64) (y1 : Int32) (y2 : Int32) (N : Mm) (N' : Mm), k_6 y0 y1 y2 N = some N' → Fr [(13, 999)] N N') (h : bb_J7_fill_d0a16_13_6 k_6 x1 x3 x4 M = some M') : Fr [(13, 999)] M M' := by
  unfold bb_J7_fill_d0a16_13_6 at h
  rcases ite_ex h with ⟨hc, h⟩ | ⟨hc, h⟩
  · cases h
    exact Fr.refl
  · obtain ⟨hg0, h⟩ := gd_ex h
    obtain ⟨M_2, he, h⟩ := ltv_ex h
    refine Fr.tr (M1 := M_2) (by rw [he]; exact Fr.wJa rfl) ?_
    obtain ⟨x3_3, _, h⟩ := ltv_ex h
    exact hk_6 _ _ _ _ _ h
theorem z_b_J7_fill_d0a16_13_6  : ∀ (n : Nat) (y0 : Int64) (y1 : Int32) (y2 : Int32) (M : Mm) (M' : Mm), b_J7_fill_d0a16_13_6 n y0 y1 y2 M = some M' → Fr [(13, 999)] M M' := by
  intro n
  induction n with
  | zero =>
    intro y0 y1 y2 M M' h
    have h : (none : Option _) = some _ := h
    cases h
  | succ n ih =>
    intro y0 y1 y2 M M' h
    exact z_bb_J7_fill_d0a16_13_6 (fun y0 y1 y2 M M' h => ih y0 y1 y2 M M' h) h
theorem z_bb_J7_fill_d0a16_13_0 {x1 : Int64} {M : Mm} {M' : Mm}  (h : bb_J7_fill_d0a16_13_0 x1 M = some M') : Fr [(13, 999)] M M' := by
  unfold bb_J7_fill_d0a16_13_0 at h
  exact z_b_J7_fill_d0a16_13_6 _ _ _ _ _ _ h
theorem z_f_J7_fill_d0a16_13 {x1 : Int64} {M : Mm} {M' : Mm}  (h : f_J7_fill_d0a16_13 x1 M = some M') : Fr [(13, 999)] M M' := by
  unfold f_J7_fill_d0a16_13 at h
  exact z_bb_J7_fill_d0a16_13_0 h
theorem z_bb_J7_fill_53178_15_5 {k_5 : Int32 → Int32 → Int32 → Mm → Option Mm} {x1 : Int32} {x2 : Int32} {x3 : Int32} {M : Mm} {M' : Mm} (hk_5 : ∀ (y0 : Int32) (y1 : Int32) (y2 : Int32) (N : Mm) (N' : Mm), k_5 y0 y1 y2 N = some N' → Fr [(15, 999)] N N') (h : bb_J7_fill_53178_15_5 k_5 x1 x2 x3 M = some M') : Fr [(15, 999)] M M' := by
  unfold bb_J7_fill_53178_15_5 at h
  rcases ite_ex h with ⟨hc, h⟩ | ⟨hc, h⟩
  · cases h
    exact Fr.refl
  · obtain ⟨hg0, h⟩ := gd_ex h
    obtain ⟨M_2, he, h⟩ := ltv_ex h
    refine Fr.tr (M1 := M_2) (by rw [he]; exact Fr.wIa rfl) ?_
    obtain ⟨x2_3, _, h⟩ := ltv_ex h
    exact hk_5 _ _ _ _ _ h
theorem z_b_J7_fill_53178_15_5  : ∀ (n : Nat) (y0 : Int32) (y1 : Int32) (y2 : Int32) (M : Mm) (M' : Mm), b_J7_fill_53178_15_5 n y0 y1 y2 M = some M' → Fr [(15, 999)] M M' := by
  intro n
  induction n with
  | zero =>
    intro y0 y1 y2 M M' h
    have h : (none : Option _) = some _ := h
    cases h
  | succ n ih =>
    intro y0 y1 y2 M M' h
    exact z_bb_J7_fill_53178_15_5 (fun y0 y1 y2 M M' h => ih y0 y1 y2 M M' h) h
theorem z_bb_J7_fill_53178_15_0 {x1 : Int32} {M : Mm} {M' : Mm}  (h : bb_J7_fill_53178_15_0 x1 M = some M') : Fr [(15, 999)] M M' := by
  unfold bb_J7_fill_53178_15_0 at h
  exact z_b_J7_fill_53178_15_5 _ _ _ _ _ _ h
theorem z_f_J7_fill_53178_15 {x1 : Int32} {M : Mm} {M' : Mm}  (h : f_J7_fill_53178_15 x1 M = some M') : Fr [(15, 999)] M M' := by
  unfold f_J7_fill_53178_15 at h
  exact z_bb_J7_fill_53178_15_0 h
theorem z_bb_J7_fill_53178_16_5 {k_5 : Int32 → Int32 → Int32 → Mm → Option Mm} {x1 : Int32} {x2 : Int32} {x3 : Int32} {M : Mm} {M' : Mm} (hk_5 : ∀ (y0 : Int32) (y1 : Int32) (y2 : Int32) (N : Mm) (N' : Mm), k_5 y0 y1 y2 N = some N' → Fr [(16, 999)] N N') (h : bb_J7_fill_53178_16_5 k_5 x1 x2 x3 M = some M') : Fr [(16, 999)] M M' := by
  unfold bb_J7_fill_53178_16_5 at h
  rcases ite_ex h with ⟨hc, h⟩ | ⟨hc, h⟩
  · cases h
    exact Fr.refl
  · obtain ⟨hg0, h⟩ := gd_ex h
    obtain ⟨M_2, he, h⟩ := ltv_ex h
    refine Fr.tr (M1 := M_2) (by rw [he]; exact Fr.wIa rfl) ?_
    obtain ⟨x2_3, _, h⟩ := ltv_ex h
    exact hk_5 _ _ _ _ _ h
theorem z_b_J7_fill_53178_16_5  : ∀ (n : Nat) (y0 : Int32) (y1 : Int32) (y2 : Int32) (M : Mm) (M' : Mm), b_J7_fill_53178_16_5 n y0 y1 y2 M = some M' → Fr [(16, 999)] M M' := by
  intro n
  induction n with
  | zero =>
    intro y0 y1 y2 M M' h
    have h : (none : Option _) = some _ := h
    cases h
  | succ n ih =>
    intro y0 y1 y2 M M' h
    exact z_bb_J7_fill_53178_16_5 (fun y0 y1 y2 M M' h => ih y0 y1 y2 M M' h) h
theorem z_bb_J7_fill_53178_16_0 {x1 : Int32} {M : Mm} {M' : Mm}  (h : bb_J7_fill_53178_16_0 x1 M = some M') : Fr [(16, 999)] M M' := by
  unfold bb_J7_fill_53178_16_0 at h
  exact z_b_J7_fill_53178_16_5 _ _ _ _ _ _ h
theorem z_f_J7_fill_53178_16 {x1 : Int32} {M : Mm} {M' : Mm}  (h : f_J7_fill_53178_16 x1 M = some M') : Fr [(16, 999)] M M' := by
  unfold f_J7_fill_53178_16 at h
  exact z_bb_J7_fill_53178_16_0 h
theorem z_bb_X7_wipe_11_0 {M : Mm} {M' : Mm}  (h : bb_X7_wipe_11_0 M = some M') : Fr [(11, 7), (11, 8), (11, 9), (12, 999), (13, 999), (15, 999), (16, 999)] M M' := by
  unfold bb_X7_wipe_11_0 at h
  obtain ⟨M_1, he, h⟩ := ltv_ex h
  refine Fr.tr (M1 := M_1) (by rw [he]; exact Fr.wrI rfl) ?_
  obtain ⟨M_2, he, h⟩ := ltv_ex h
  refine Fr.tr (M1 := M_2) (by rw [he]; exact Fr.wrI rfl) ?_
  obtain ⟨M_3, he, h⟩ := ltv_ex h
  refine Fr.tr (M1 := M_3) (by rw [he]; exact Fr.wrI rfl) ?_
  obtain ⟨M_5, hc, h⟩ := bd_ex h
  refine Fr.tr (Fr.sub (z_f_J7_fill_d0a16_12 hc) rfl) ?_
  obtain ⟨M_7, hc, h⟩ := bd_ex h
  refine Fr.tr (Fr.sub (z_f_J7_fill_d0a16_13 hc) rfl) ?_
  obtain ⟨M_9, hc, h⟩ := bd_ex h
  refine Fr.tr (Fr.sub (z_f_J7_fill_53178_15 hc) rfl) ?_
  obtain ⟨M_11, hc, h⟩ := bd_ex h
  refine Fr.tr (Fr.sub (z_f_J7_fill_53178_16 hc) rfl) ?_
  cases h
  exact Fr.refl
theorem z_f_X7_wipe_11 {M : Mm} {M' : Mm}  (h : f_X7_wipe_11 M = some M') : Fr [(11, 7), (11, 8), (11, 9), (12, 999), (13, 999), (15, 999), (16, 999)] M M' := by
  unfold f_X7_wipe_11 at h
  exact z_bb_X7_wipe_11_0 h
theorem z_bb_X7_findHollows_11_28 {k_7 : Int32 → Mm → Option Mm} {k_28 : Int32 → Int64 → Int32 → Mm → Option Mm} {x1 : Int32} {x2 : Int64} {x4 : Int32} {M : Mm} {M' : Mm} (hk_7 : ∀ (y0 : Int32) (N : Mm) (N' : Mm), k_7 y0 N = some N' → Fr [(11, 9), (17, 999), (18, 999)] N N') (hk_28 : ∀ (y0 : Int32) (y1 : Int64) (y2 : Int32) (N : Mm) (N' : Mm), k_28 y0 y1 y2 N = some N' → Fr [(11, 9), (17, 999), (18, 999)] N N') (h : bb_X7_findHollows_11_28 k_7 k_28 x1 x2 x4 M = some M') : Fr [(11, 9), (17, 999), (18, 999)] M M' := by
  unfold bb_X7_findHollows_11_28 at h
  rcases ite_ex h with ⟨hc, h⟩ | ⟨hc, h⟩
  · obtain ⟨x1_5, _, h⟩ := ltv_ex h
    exact hk_7 _ _ _ h
  · rcases ite_ex h with ⟨hc, h⟩ | ⟨hc, h⟩
    · obtain ⟨x1_6, _, h⟩ := ltv_ex h
      exact hk_7 _ _ _ h
    · rcases ite_ex h with ⟨hc, h⟩ | ⟨hc, h⟩
      · obtain ⟨x1_7, _, h⟩ := ltv_ex h
        exact hk_7 _ _ _ h
      · obtain ⟨v_9, _, h⟩ := bd_ex h
        obtain ⟨hg0, h⟩ := gd_ex h
        obtain ⟨M_11, he, h⟩ := ltv_ex h
        refine Fr.tr (M1 := M_11) (by rw [he]; exact Fr.wJa rfl) ?_
        obtain ⟨hg1, h⟩ := gd_ex h
        obtain ⟨M_13, he, h⟩ := ltv_ex h
        refine Fr.tr (M1 := M_13) (by rw [he]; exact Fr.wIa rfl) ?_
        obtain ⟨M_14, he, h⟩ := ltv_ex h
        refine Fr.tr (M1 := M_14) (by rw [he]; exact Fr.wrI rfl) ?_
        obtain ⟨x2_15, _, h⟩ := ltv_ex h
        obtain ⟨x4_16, _, h⟩ := ltv_ex h
        exact hk_28 _ _ _ _ _ h
theorem z_b_X7_findHollows_11_28 {k_7 : Int32 → Mm → Option Mm} (hk_7 : ∀ (y0 : Int32) (N : Mm) (N' : Mm), k_7 y0 N = some N' → Fr [(11, 9), (17, 999), (18, 999)] N N') : ∀ (n : Nat) (y0 : Int32) (y1 : Int64) (y2 : Int32) (M : Mm) (M' : Mm), b_X7_findHollows_11_28 k_7 n y0 y1 y2 M = some M' → Fr [(11, 9), (17, 999), (18, 999)] M M' := by
  intro n
  induction n with
  | zero =>
    intro y0 y1 y2 M M' h
    have h : (none : Option _) = some _ := h
    cases h
  | succ n ih =>
    intro y0 y1 y2 M M' h
    exact z_bb_X7_findHollows_11_28 hk_7 (fun y0 y1 y2 M M' h => ih y0 y1 y2 M M' h) h
theorem z_bb_X7_findHollows_11_7 {k_7 : Int32 → Mm → Option Mm} {x1 : Int32} {M : Mm} {M' : Mm} (hk_7 : ∀ (y0 : Int32) (N : Mm) (N' : Mm), k_7 y0 N = some N' → Fr [(11, 9), (17, 999), (18, 999)] N N') (h : bb_X7_findHollows_11_7 k_7 x1 M = some M') : Fr [(11, 9), (17, 999), (18, 999)] M M' := by
  unfold bb_X7_findHollows_11_7 at h
  rcases ite_ex h with ⟨hc, h⟩ | ⟨hc, h⟩
  · cases h
    exact Fr.refl
  · obtain ⟨hg0, h⟩ := gd_ex h
    obtain ⟨v_4, _, h⟩ := bd_ex h
    exact z_b_X7_findHollows_11_28 hk_7 _ _ _ _ _ _ h
theorem z_b_X7_findHollows_11_7  : ∀ (n : Nat) (y0 : Int32) (M : Mm) (M' : Mm), b_X7_findHollows_11_7 n y0 M = some M' → Fr [(11, 9), (17, 999), (18, 999)] M M' := by
  intro n
  induction n with
  | zero =>
    intro y0 M M' h
    have h : (none : Option _) = some _ := h
    cases h
  | succ n ih =>
    intro y0 M M' h
    exact z_bb_X7_findHollows_11_7 (fun y0 M M' h => ih y0 M M' h) h
theorem z_bb_X7_findHollows_11_0 {M : Mm} {M' : Mm}  (h : bb_X7_findHollows_11_0 M = some M') : Fr [(11, 9), (17, 999), (18, 999)] M M' := by
  unfold bb_X7_findHollows_11_0 at h
  obtain ⟨M_1, he, h⟩ := ltv_ex h
  refine Fr.tr (M1 := M_1) (by rw [he]; exact Fr.wrI rfl) ?_
  exact z_b_X7_findHollows_11_7 _ _ _ _ h
theorem z_f_X7_findHollows_11 {M : Mm} {M' : Mm}  (h : f_X7_findHollows_11 M = some M') : Fr [(11, 9), (17, 999), (18, 999)] M M' := by
  unfold f_X7_findHollows_11 at h
  exact z_bb_X7_findHollows_11_0 h
theorem z_bb_X7_copyOf_11_3_0 {M : Mm} {M' : Mm}  (h : bb_X7_copyOf_11_3_0 M = some M') : Fr [(11, 7), (11, 8), (11, 9), (12, 999), (13, 999), (14, 999), (15, 999), (16, 999)] M M' := by
  unfold bb_X7_copyOf_11_3_0 at h
  obtain ⟨M_2, hc, h⟩ := bd_ex h
  refine Fr.tr (Fr.sub (z_f_X7_wipe_11 hc) rfl) ?_
  obtain ⟨M_3, he, h⟩ := ltv_ex h
  refine Fr.tr (M1 := M_3) (by rw [he]; exact Fr.wrI rfl) ?_
  obtain ⟨M_4, he, h⟩ := ltv_ex h
  refine Fr.tr (M1 := M_4) (by rw [he]; exact Fr.wrI rfl) ?_
  obtain ⟨M_5, he, h⟩ := ltv_ex h
  refine Fr.tr (M1 := M_5) (by rw [he]; exact Fr.cpJ rfl) ?_
  obtain ⟨M_6, he, h⟩ := ltv_ex h
  refine Fr.tr (M1 := M_6) (by rw [he]; exact Fr.cpI rfl) ?_
  obtain ⟨M_7, he, h⟩ := ltv_ex h
  refine Fr.tr (M1 := M_7) (by rw [he]; exact Fr.cpI rfl) ?_
  obtain ⟨M_8, he, h⟩ := ltv_ex h
  refine Fr.tr (M1 := M_8) (by rw [he]; exact Fr.cpI rfl) ?_
  cases h
  exact Fr.refl
theorem z_f_X7_copyOf_11_3 {M : Mm} {M' : Mm}  (h : f_X7_copyOf_11_3 M = some M') : Fr [(11, 7), (11, 8), (11, 9), (12, 999), (13, 999), (14, 999), (15, 999), (16, 999)] M M' := by
  unfold f_X7_copyOf_11_3 at h
  exact z_bb_X7_copyOf_11_3_0 h
theorem z_bb_X8_putNumber_1_3 {k_3 : Int32 → Int32 → Mm → Option Mm} {x1 : Int32} {x2 : Int32} {M : Mm} {M' : Mm} (hk_3 : ∀ (y0 : Int32) (y1 : Int32) (N : Mm) (N' : Mm), k_3 y0 y1 N = some N' → Fr [(1, 2), (2, 999)] N N') (h : bb_X8_putNumber_1_3 k_3 x1 x2 M = some M') : Fr [(1, 2), (2, 999)] M M' := by
  unfold bb_X8_putNumber_1_3 at h
  rcases ite_ex h with ⟨hc, h⟩ | ⟨hc, h⟩
  · cases h
    exact Fr.refl
  · rcases ite_ex h with ⟨hc, h⟩ | ⟨hc, h⟩
    · cases h
      exact Fr.refl
    · obtain ⟨hg0, h⟩ := gd_ex h
      obtain ⟨M_2, he, h⟩ := ltv_ex h
      refine Fr.tr (M1 := M_2) (by rw [he]; exact Fr.wIa rfl) ?_
      obtain ⟨M_3, he, h⟩ := ltv_ex h
      refine Fr.tr (M1 := M_3) (by rw [he]; exact Fr.wrI rfl) ?_
      obtain ⟨x2_4, _, h⟩ := ltv_ex h
      exact hk_3 _ _ _ _ h
theorem z_b_X8_putNumber_1_3  : ∀ (n : Nat) (y0 : Int32) (y1 : Int32) (M : Mm) (M' : Mm), b_X8_putNumber_1_3 n y0 y1 M = some M' → Fr [(1, 2), (2, 999)] M M' := by
  intro n
  induction n with
  | zero =>
    intro y0 y1 M M' h
    have h : (none : Option _) = some _ := h
    cases h
  | succ n ih =>
    intro y0 y1 M M' h
    exact z_bb_X8_putNumber_1_3 (fun y0 y1 M M' h => ih y0 y1 M M' h) h
theorem z_bb_X8_putNumber_1_0 {x1 : Int32} {M : Mm} {M' : Mm}  (h : bb_X8_putNumber_1_0 x1 M = some M') : Fr [(1, 2), (2, 999)] M M' := by
  unfold bb_X8_putNumber_1_0 at h
  exact z_b_X8_putNumber_1_3 _ _ _ _ _ h
theorem z_f_X8_putNumber_1 {x1 : Int32} {M : Mm} {M' : Mm}  (h : f_X8_putNumber_1 x1 M = some M') : Fr [(1, 2), (2, 999)] M M' := by
  unfold f_X8_putNumber_1 at h
  exact z_bb_X8_putNumber_1_0 h
theorem z_bb_J7_fill_d0a16_4_6 {k_6 : Int64 → Int32 → Int32 → Mm → Option Mm} {x1 : Int64} {x3 : Int32} {x4 : Int32} {M : Mm} {M' : Mm} (hk_6 : ∀ (y0 : Int64) (y1 : Int32) (y2 : Int32) (N : Mm) (N' : Mm), k_6 y0 y1 y2 N = some N' → Fr [(4, 999)] N N') (h : bb_J7_fill_d0a16_4_6 k_6 x1 x3 x4 M = some M') : Fr [(4, 999)] M M' := by
  unfold bb_J7_fill_d0a16_4_6 at h
  rcases ite_ex h with ⟨hc, h⟩ | ⟨hc, h⟩
  · cases h
    exact Fr.refl
  · obtain ⟨hg0, h⟩ := gd_ex h
    obtain ⟨M_2, he, h⟩ := ltv_ex h
    refine Fr.tr (M1 := M_2) (by rw [he]; exact Fr.wJa rfl) ?_
    obtain ⟨x3_3, _, h⟩ := ltv_ex h
    exact hk_6 _ _ _ _ _ h
theorem z_b_J7_fill_d0a16_4_6  : ∀ (n : Nat) (y0 : Int64) (y1 : Int32) (y2 : Int32) (M : Mm) (M' : Mm), b_J7_fill_d0a16_4_6 n y0 y1 y2 M = some M' → Fr [(4, 999)] M M' := by
  intro n
  induction n with
  | zero =>
    intro y0 y1 y2 M M' h
    have h : (none : Option _) = some _ := h
    cases h
  | succ n ih =>
    intro y0 y1 y2 M M' h
    exact z_bb_J7_fill_d0a16_4_6 (fun y0 y1 y2 M M' h => ih y0 y1 y2 M M' h) h
theorem z_bb_J7_fill_d0a16_4_0 {x1 : Int64} {M : Mm} {M' : Mm}  (h : bb_J7_fill_d0a16_4_0 x1 M = some M') : Fr [(4, 999)] M M' := by
  unfold bb_J7_fill_d0a16_4_0 at h
  exact z_b_J7_fill_d0a16_4_6 _ _ _ _ _ _ h
theorem z_f_J7_fill_d0a16_4 {x1 : Int64} {M : Mm} {M' : Mm}  (h : f_J7_fill_d0a16_4 x1 M = some M') : Fr [(4, 999)] M M' := by
  unfold f_J7_fill_d0a16_4 at h
  exact z_bb_J7_fill_d0a16_4_0 h
theorem z_bb_J7_fill_d0a16_5_6 {k_6 : Int64 → Int32 → Int32 → Mm → Option Mm} {x1 : Int64} {x3 : Int32} {x4 : Int32} {M : Mm} {M' : Mm} (hk_6 : ∀ (y0 : Int64) (y1 : Int32) (y2 : Int32) (N : Mm) (N' : Mm), k_6 y0 y1 y2 N = some N' → Fr [(5, 999)] N N') (h : bb_J7_fill_d0a16_5_6 k_6 x1 x3 x4 M = some M') : Fr [(5, 999)] M M' := by
  unfold bb_J7_fill_d0a16_5_6 at h
  rcases ite_ex h with ⟨hc, h⟩ | ⟨hc, h⟩
  · cases h
    exact Fr.refl
  · obtain ⟨hg0, h⟩ := gd_ex h
    obtain ⟨M_2, he, h⟩ := ltv_ex h
    refine Fr.tr (M1 := M_2) (by rw [he]; exact Fr.wJa rfl) ?_
    obtain ⟨x3_3, _, h⟩ := ltv_ex h
    exact hk_6 _ _ _ _ _ h
theorem z_b_J7_fill_d0a16_5_6  : ∀ (n : Nat) (y0 : Int64) (y1 : Int32) (y2 : Int32) (M : Mm) (M' : Mm), b_J7_fill_d0a16_5_6 n y0 y1 y2 M = some M' → Fr [(5, 999)] M M' := by
  intro n
  induction n with
  | zero =>
    intro y0 y1 y2 M M' h
    have h : (none : Option _) = some _ := h
    cases h
  | succ n ih =>
    intro y0 y1 y2 M M' h
    exact z_bb_J7_fill_d0a16_5_6 (fun y0 y1 y2 M M' h => ih y0 y1 y2 M M' h) h
theorem z_bb_J7_fill_d0a16_5_0 {x1 : Int64} {M : Mm} {M' : Mm}  (h : bb_J7_fill_d0a16_5_0 x1 M = some M') : Fr [(5, 999)] M M' := by
  unfold bb_J7_fill_d0a16_5_0 at h
  exact z_b_J7_fill_d0a16_5_6 _ _ _ _ _ _ h
theorem z_f_J7_fill_d0a16_5 {x1 : Int64} {M : Mm} {M' : Mm}  (h : f_J7_fill_d0a16_5 x1 M = some M') : Fr [(5, 999)] M M' := by
  unfold f_J7_fill_d0a16_5 at h
  exact z_bb_J7_fill_d0a16_5_0 h
theorem z_bb_J7_fill_53178_7_5 {k_5 : Int32 → Int32 → Int32 → Mm → Option Mm} {x1 : Int32} {x2 : Int32} {x3 : Int32} {M : Mm} {M' : Mm} (hk_5 : ∀ (y0 : Int32) (y1 : Int32) (y2 : Int32) (N : Mm) (N' : Mm), k_5 y0 y1 y2 N = some N' → Fr [(7, 999)] N N') (h : bb_J7_fill_53178_7_5 k_5 x1 x2 x3 M = some M') : Fr [(7, 999)] M M' := by
  unfold bb_J7_fill_53178_7_5 at h
  rcases ite_ex h with ⟨hc, h⟩ | ⟨hc, h⟩
  · cases h
    exact Fr.refl
  · obtain ⟨hg0, h⟩ := gd_ex h
    obtain ⟨M_2, he, h⟩ := ltv_ex h
    refine Fr.tr (M1 := M_2) (by rw [he]; exact Fr.wIa rfl) ?_
    obtain ⟨x2_3, _, h⟩ := ltv_ex h
    exact hk_5 _ _ _ _ _ h
theorem z_b_J7_fill_53178_7_5  : ∀ (n : Nat) (y0 : Int32) (y1 : Int32) (y2 : Int32) (M : Mm) (M' : Mm), b_J7_fill_53178_7_5 n y0 y1 y2 M = some M' → Fr [(7, 999)] M M' := by
  intro n
  induction n with
  | zero =>
    intro y0 y1 y2 M M' h
    have h : (none : Option _) = some _ := h
    cases h
  | succ n ih =>
    intro y0 y1 y2 M M' h
    exact z_bb_J7_fill_53178_7_5 (fun y0 y1 y2 M M' h => ih y0 y1 y2 M M' h) h
theorem z_bb_J7_fill_53178_7_0 {x1 : Int32} {M : Mm} {M' : Mm}  (h : bb_J7_fill_53178_7_0 x1 M = some M') : Fr [(7, 999)] M M' := by
  unfold bb_J7_fill_53178_7_0 at h
  exact z_b_J7_fill_53178_7_5 _ _ _ _ _ _ h
theorem z_f_J7_fill_53178_7 {x1 : Int32} {M : Mm} {M' : Mm}  (h : f_J7_fill_53178_7 x1 M = some M') : Fr [(7, 999)] M M' := by
  unfold f_J7_fill_53178_7 at h
  exact z_bb_J7_fill_53178_7_0 h
theorem z_bb_J7_fill_53178_8_5 {k_5 : Int32 → Int32 → Int32 → Mm → Option Mm} {x1 : Int32} {x2 : Int32} {x3 : Int32} {M : Mm} {M' : Mm} (hk_5 : ∀ (y0 : Int32) (y1 : Int32) (y2 : Int32) (N : Mm) (N' : Mm), k_5 y0 y1 y2 N = some N' → Fr [(8, 999)] N N') (h : bb_J7_fill_53178_8_5 k_5 x1 x2 x3 M = some M') : Fr [(8, 999)] M M' := by
  unfold bb_J7_fill_53178_8_5 at h
  rcases ite_ex h with ⟨hc, h⟩ | ⟨hc, h⟩
  · cases h
    exact Fr.refl
  · obtain ⟨hg0, h⟩ := gd_ex h
    obtain ⟨M_2, he, h⟩ := ltv_ex h
    refine Fr.tr (M1 := M_2) (by rw [he]; exact Fr.wIa rfl) ?_
    obtain ⟨x2_3, _, h⟩ := ltv_ex h
    exact hk_5 _ _ _ _ _ h
theorem z_b_J7_fill_53178_8_5  : ∀ (n : Nat) (y0 : Int32) (y1 : Int32) (y2 : Int32) (M : Mm) (M' : Mm), b_J7_fill_53178_8_5 n y0 y1 y2 M = some M' → Fr [(8, 999)] M M' := by
  intro n
  induction n with
  | zero =>
    intro y0 y1 y2 M M' h
    have h : (none : Option _) = some _ := h
    cases h
  | succ n ih =>
    intro y0 y1 y2 M M' h
    exact z_bb_J7_fill_53178_8_5 (fun y0 y1 y2 M M' h => ih y0 y1 y2 M M' h) h
theorem z_bb_J7_fill_53178_8_0 {x1 : Int32} {M : Mm} {M' : Mm}  (h : bb_J7_fill_53178_8_0 x1 M = some M') : Fr [(8, 999)] M M' := by
  unfold bb_J7_fill_53178_8_0 at h
  exact z_b_J7_fill_53178_8_5 _ _ _ _ _ _ h
theorem z_f_J7_fill_53178_8 {x1 : Int32} {M : Mm} {M' : Mm}  (h : f_J7_fill_53178_8 x1 M = some M') : Fr [(8, 999)] M M' := by
  unfold f_J7_fill_53178_8 at h
  exact z_bb_J7_fill_53178_8_0 h
theorem z_bb_X7_wipe_3_0 {M : Mm} {M' : Mm}  (h : bb_X7_wipe_3_0 M = some M') : Fr [(3, 7), (3, 8), (3, 9), (4, 999), (5, 999), (7, 999), (8, 999)] M M' := by
  unfold bb_X7_wipe_3_0 at h
  obtain ⟨M_1, he, h⟩ := ltv_ex h
  refine Fr.tr (M1 := M_1) (by rw [he]; exact Fr.wrI rfl) ?_
  obtain ⟨M_2, he, h⟩ := ltv_ex h
  refine Fr.tr (M1 := M_2) (by rw [he]; exact Fr.wrI rfl) ?_
  obtain ⟨M_3, he, h⟩ := ltv_ex h
  refine Fr.tr (M1 := M_3) (by rw [he]; exact Fr.wrI rfl) ?_
  obtain ⟨M_5, hc, h⟩ := bd_ex h
  refine Fr.tr (Fr.sub (z_f_J7_fill_d0a16_4 hc) rfl) ?_
  obtain ⟨M_7, hc, h⟩ := bd_ex h
  refine Fr.tr (Fr.sub (z_f_J7_fill_d0a16_5 hc) rfl) ?_
  obtain ⟨M_9, hc, h⟩ := bd_ex h
  refine Fr.tr (Fr.sub (z_f_J7_fill_53178_7 hc) rfl) ?_
  obtain ⟨M_11, hc, h⟩ := bd_ex h
  refine Fr.tr (Fr.sub (z_f_J7_fill_53178_8 hc) rfl) ?_
  cases h
  exact Fr.refl
theorem z_f_X7_wipe_3 {M : Mm} {M' : Mm}  (h : f_X7_wipe_3 M = some M') : Fr [(3, 7), (3, 8), (3, 9), (4, 999), (5, 999), (7, 999), (8, 999)] M M' := by
  unfold f_X7_wipe_3 at h
  exact z_bb_X7_wipe_3_0 h
theorem z_bb_X8_skipBlanks_1_2 {k_2 : Int32 → Mm → Option Mm} {x1 : Int32} {M : Mm} {M' : Mm} (hk_2 : ∀ (y0 : Int32) (N : Mm) (N' : Mm), k_2 y0 N = some N' → Fr [(1, 4)] N N') (h : bb_X8_skipBlanks_1_2 k_2 x1 M = some M') : Fr [(1, 4)] M M' := by
  unfold bb_X8_skipBlanks_1_2 at h
  rcases ite_ex h with ⟨hc, h⟩ | ⟨hc, h⟩
  · cases h
    exact Fr.refl
  · obtain ⟨v_2, _, h⟩ := bd_ex h
    rcases ite_ex h with ⟨hc, h⟩ | ⟨hc, h⟩
    · obtain ⟨M_3, he, h⟩ := ltv_ex h
      refine Fr.tr (M1 := M_3) (by rw [he]; exact Fr.wrI rfl) ?_
      obtain ⟨x1_4, _, h⟩ := ltv_ex h
      exact hk_2 _ _ _ h
    · cases h
      exact Fr.refl
theorem z_b_X8_skipBlanks_1_2  : ∀ (n : Nat) (y0 : Int32) (M : Mm) (M' : Mm), b_X8_skipBlanks_1_2 n y0 M = some M' → Fr [(1, 4)] M M' := by
  intro n
  induction n with
  | zero =>
    intro y0 M M' h
    have h : (none : Option _) = some _ := h
    cases h
  | succ n ih =>
    intro y0 M M' h
    exact z_bb_X8_skipBlanks_1_2 (fun y0 M M' h => ih y0 M M' h) h
theorem z_bb_X8_skipBlanks_1_0 {M : Mm} {M' : Mm}  (h : bb_X8_skipBlanks_1_0 M = some M') : Fr [(1, 4)] M M' := by
  unfold bb_X8_skipBlanks_1_0 at h
  exact z_b_X8_skipBlanks_1_2 _ _ _ _ h
theorem z_f_X8_skipBlanks_1 {M : Mm} {M' : Mm}  (h : f_X8_skipBlanks_1 M = some M') : Fr [(1, 4)] M M' := by
  unfold f_X8_skipBlanks_1 at h
  exact z_bb_X8_skipBlanks_1_0 h
theorem z_bb_X8_readKeyword_1_48 {x1 : Int32} {M : Mm} {v : Int32} {M' : Mm}  (h : bb_X8_readKeyword_1_48 x1 M = some (v, M')) : Fr [(1, 4)] M M' := by
  unfold bb_X8_readKeyword_1_48 at h
  obtain ⟨v_9, _, h⟩ := bd_ex h
  rcases ite_ex h with ⟨hc, h⟩ | ⟨hc, h⟩
  · obtain ⟨v_11, _, h⟩ := bd_ex h
    rcases ite_ex h with ⟨hc, h⟩ | ⟨hc, h⟩
    · obtain ⟨v_13, _, h⟩ := bd_ex h
      rcases ite_ex h with ⟨hc, h⟩ | ⟨hc, h⟩
      · obtain ⟨v_15, _, h⟩ := bd_ex h
        rcases ite_ex h with ⟨hc, h⟩ | ⟨hc, h⟩
        · obtain ⟨v_17, _, h⟩ := bd_ex h
          rcases ite_ex h with ⟨hc, h⟩ | ⟨hc, h⟩
          · obtain ⟨v_19, _, h⟩ := bd_ex h
            rcases ite_ex h with ⟨hc, h⟩ | ⟨hc, h⟩
            · obtain ⟨v_21, _, h⟩ := bd_ex h
              rcases ite_ex h with ⟨hc, h⟩ | ⟨hc, h⟩
              · obtain ⟨v_23, _, h⟩ := bd_ex h
                rcases ite_ex h with ⟨hc, h⟩ | ⟨hc, h⟩
                · cases h
                  exact Fr.refl
                · cases h
                  exact Fr.refl
              · cases h
                exact Fr.refl
            · cases h
              exact Fr.refl
          · cases h
            exact Fr.refl
        · cases h
          exact Fr.refl
      · cases h
        exact Fr.refl
    · cases h
      exact Fr.refl
  · cases h
    exact Fr.refl
theorem z_bb_X8_readKeyword_1_7 {k_7 : Int32 → Int32 → Mm → Option (Int32 × Mm)} {x1 : Int32} {x2 : Int32} {M : Mm} {v : Int32} {M' : Mm} (hk_7 : ∀ (y0 : Int32) (y1 : Int32) (N : Mm) (w : Int32) (N' : Mm), k_7 y0 y1 N = some (w, N') → Fr [(1, 4)] N N') (h : bb_X8_readKeyword_1_7 k_7 x1 x2 M = some (v, M')) : Fr [(1, 4)] M M' := by
  unfold bb_X8_readKeyword_1_7 at h
  rcases ite_ex h with ⟨hc, h⟩ | ⟨hc, h⟩
  · exact z_bb_X8_readKeyword_1_48 h
  · obtain ⟨v_3, _, h⟩ := bd_ex h
    rcases ite_ex h with ⟨hc, h⟩ | ⟨hc, h⟩
    · exact z_bb_X8_readKeyword_1_48 h
    · obtain ⟨v_5, _, h⟩ := bd_ex h
      rcases ite_ex h with ⟨hc, h⟩ | ⟨hc, h⟩
      · exact z_bb_X8_readKeyword_1_48 h
      · obtain ⟨M_6, he, h⟩ := ltv_ex h
        refine Fr.tr (M1 := M_6) (by rw [he]; exact Fr.wrI rfl) ?_
        obtain ⟨x2_7, _, h⟩ := ltv_ex h
        exact hk_7 _ _ _ _ _ h
theorem z_b_X8_readKeyword_1_7  : ∀ (n : Nat) (y0 : Int32) (y1 : Int32) (M : Mm) (v : Int32) (M' : Mm), b_X8_readKeyword_1_7 n y0 y1 M = some (v, M') → Fr [(1, 4)] M M' := by
  intro n
  induction n with
  | zero =>
    intro y0 y1 M v M' h
    have h : (none : Option _) = some _ := h
    cases h
  | succ n ih =>
    intro y0 y1 M v M' h
    exact z_bb_X8_readKeyword_1_7 (fun y0 y1 M v M' h => ih y0 y1 M v M' h) h
theorem z_bb_X8_readKeyword_1_0 {M : Mm} {v : Int32} {M' : Mm}  (h : bb_X8_readKeyword_1_0 M = some (v, M')) : Fr [(1, 4)] M M' := by
  unfold bb_X8_readKeyword_1_0 at h
  obtain ⟨x1_1, _, h⟩ := ltv_ex h
  exact z_b_X8_readKeyword_1_7 _ _ _ _ _ _ h
theorem z_f_X8_readKeyword_1 {M : Mm} {v : Int32} {M' : Mm}  (h : f_X8_readKeyword_1 M = some (v, M')) : Fr [(1, 4)] M M' := by
  unfold f_X8_readKeyword_1 at h
  exact z_bb_X8_readKeyword_1_0 h
theorem z_bb_X8_fail_1_0 {x1 : Int32} {x2 : Int32} {M : Mm} {M' : Mm}  (h : bb_X8_fail_1_0 x1 x2 M = some M') : Fr [(1, 5), (1, 6)] M M' := by
  unfold bb_X8_fail_1_0 at h
  rcases ite_ex h with ⟨hc, h⟩ | ⟨hc, h⟩
  · obtain ⟨M_1, he, h⟩ := ltv_ex h
    refine Fr.tr (M1 := M_1) (by rw [he]; exact Fr.wrI rfl) ?_
    obtain ⟨M_2, he, h⟩ := ltv_ex h
    refine Fr.tr (M1 := M_2) (by rw [he]; exact Fr.wrI rfl) ?_
    cases h
    exact Fr.refl
  · cases h
    exact Fr.refl
theorem z_f_X8_fail_1 {x1 : Int32} {x2 : Int32} {M : Mm} {M' : Mm}  (h : f_X8_fail_1 x1 x2 M = some M') : Fr [(1, 5), (1, 6)] M M' := by
  unfold f_X8_fail_1 at h
  exact z_bb_X8_fail_1_0 h
theorem z_bb_X7_addLetter_3_0 {x1 : Int64} {M : Mm} {M' : Mm}  (h : bb_X7_addLetter_3_0 x1 M = some M') : Fr [(3, 7), (4, 999)] M M' := by
  unfold bb_X7_addLetter_3_0 at h
  rcases ite_ex h with ⟨hc, h⟩ | ⟨hc, h⟩
  · cases h
    exact Fr.refl
  · obtain ⟨hg0, h⟩ := gd_ex h
    obtain ⟨M_2, he, h⟩ := ltv_ex h
    refine Fr.tr (M1 := M_2) (by rw [he]; exact Fr.wJa rfl) ?_
    obtain ⟨M_3, he, h⟩ := ltv_ex h
    refine Fr.tr (M1 := M_3) (by rw [he]; exact Fr.wrI rfl) ?_
    cases h
    exact Fr.refl
theorem z_f_X7_addLetter_3 {x1 : Int64} {M : Mm} {M' : Mm}  (h : f_X7_addLetter_3 x1 M = some M') : Fr [(3, 7), (4, 999)] M M' := by
  unfold f_X7_addLetter_3 at h
  exact z_bb_X7_addLetter_3_0 h
theorem z_bb_X8_readNumber_1_76 {x1 : Int32} {x2 : Int32} {x3 : Int32} {x4 : Int32} {M : Mm} {v : Int32} {M' : Mm}  (h : bb_X8_readNumber_1_76 x1 x2 x3 x4 M = some (v, M')) : Fr [(1, 4), (1, 5), (1, 6)] M M' := by
  unfold bb_X8_readNumber_1_76 at h
  rcases ite_ex h with ⟨hc, h⟩ | ⟨hc, h⟩
  · obtain ⟨M_16, hc, h⟩ := bd_ex h
    refine Fr.tr (Fr.sub (z_f_X8_fail_1 hc) rfl) ?_
    cases h
    exact Fr.refl
  · rcases ite_ex h with ⟨hc, h⟩ | ⟨hc, h⟩
    · obtain ⟨M_12, hc, h⟩ := bd_ex h
      refine Fr.tr (Fr.sub (z_f_X8_fail_1 hc) rfl) ?_
      cases h
      exact Fr.refl
    · rcases ite_ex h with ⟨hc, h⟩ | ⟨hc, h⟩
      · cases h
        exact Fr.refl
      · obtain ⟨M_14, hc, h⟩ := bd_ex h
        refine Fr.tr (Fr.sub (z_f_X8_fail_1 hc) rfl) ?_
        cases h
        exact Fr.refl
theorem z_bb_X8_readNumber_1_24 {k_24 : Int32 → Int32 → Int32 → Int32 → Int32 → Mm → Option (Int32 × Mm)} {x1 : Int32} {x2 : Int32} {x3 : Int32} {x4 : Int32} {x5 : Int32} {M : Mm} {v : Int32} {M' : Mm} (hk_24 : ∀ (y0 : Int32) (y1 : Int32) (y2 : Int32) (y3 : Int32) (y4 : Int32) (N : Mm) (w : Int32) (N' : Mm), k_24 y0 y1 y2 y3 y4 N = some (w, N') → Fr [(1, 4), (1, 5), (1, 6)] N N') (h : bb_X8_readNumber_1_24 k_24 x1 x2 x3 x4 x5 M = some (v, M')) : Fr [(1, 4), (1, 5), (1, 6)] M M' := by
  unfold bb_X8_readNumber_1_24 at h
  rcases ite_ex h with ⟨hc, h⟩ | ⟨hc, h⟩
  · exact z_bb_X8_readNumber_1_76 h
  · obtain ⟨v_5, _, h⟩ := bd_ex h
    rcases ite_ex h with ⟨hc, h⟩ | ⟨hc, h⟩
    · exact z_bb_X8_readNumber_1_76 h
    · obtain ⟨v_7, _, h⟩ := bd_ex h
      obtain ⟨x4_8, _, h⟩ := ltv_ex h
      obtain ⟨M_9, he, h⟩ := ltv_ex h
      refine Fr.tr (M1 := M_9) (by rw [he]; exact Fr.wrI rfl) ?_
      obtain ⟨x5_10, _, h⟩ := ltv_ex h
      exact hk_24 _ _ _ _ _ _ _ _ h
theorem z_b_X8_readNumber_1_24  : ∀ (n : Nat) (y0 : Int32) (y1 : Int32) (y2 : Int32) (y3 : Int32) (y4 : Int32) (M : Mm) (v : Int32) (M' : Mm), b_X8_readNumber_1_24 n y0 y1 y2 y3 y4 M = some (v, M') → Fr [(1, 4), (1, 5), (1, 6)] M M' := by
  intro n
  induction n with
  | zero =>
    intro y0 y1 y2 y3 y4 M v M' h
    have h : (none : Option _) = some _ := h
    cases h
  | succ n ih =>
    intro y0 y1 y2 y3 y4 M v M' h
    exact z_bb_X8_readNumber_1_24 (fun y0 y1 y2 y3 y4 M v M' h => ih y0 y1 y2 y3 y4 M v M' h) h
theorem z_bb_X8_readNumber_1_0 {x1 : Int32} {x2 : Int32} {M : Mm} {v : Int32} {M' : Mm}  (h : bb_X8_readNumber_1_0 x1 x2 M = some (v, M')) : Fr [(1, 4), (1, 5), (1, 6)] M M' := by
  unfold bb_X8_readNumber_1_0 at h
  rcases ite_ex h with ⟨hc, h⟩ | ⟨hc, h⟩
  · obtain ⟨M_2, hc, h⟩ := bd_ex h
    refine Fr.tr (Fr.sub (z_f_X8_skipBlanks_1 hc) rfl) ?_
    obtain ⟨x3_3, _, h⟩ := ltv_ex h
    exact z_b_X8_readNumber_1_24 _ _ _ _ _ _ _ _ _ h
  · cases h
    exact Fr.refl
theorem z_f_X8_readNumber_1 {x1 : Int32} {x2 : Int32} {M : Mm} {v : Int32} {M' : Mm}  (h : f_X8_readNumber_1 x1 x2 M = some (v, M')) : Fr [(1, 4), (1, 5), (1, 6)] M M' := by
  unfold f_X8_readNumber_1 at h
  exact z_bb_X8_readNumber_1_0 h
theorem z_bb_X8_readCopy_1_0 {x1 : Int32} {M : Mm} {M' : Mm}  (h : bb_X8_readCopy_1_0 x1 M = some M') : Fr [(1, 4), (1, 5), (1, 6), (3, 7), (4, 999)] M M' := by
  unfold bb_X8_readCopy_1_0 at h
  obtain ⟨v_3, M_2, hc, h⟩ := bd2_ex h
  refine Fr.tr (Fr.sub (z_f_X8_readNumber_1 hc) rfl) ?_
  rcases ite_ex h with ⟨hc, h⟩ | ⟨hc, h⟩
  · obtain ⟨v_5, _, h⟩ := bd_ex h
    rcases ite_ex h with ⟨hc, h⟩ | ⟨hc, h⟩
    · obtain ⟨v_11, _, h⟩ := bd_ex h
      obtain ⟨M_13, hc, h⟩ := bd_ex h
      refine Fr.tr (Fr.sub (z_f_X7_addLetter_3 hc) rfl) ?_
      cases h
      exact Fr.refl
    · obtain ⟨v_7, _, h⟩ := bd_ex h
      obtain ⟨M_9, hc, h⟩ := bd_ex h
      refine Fr.tr (Fr.sub (z_f_X7_addLetter_3 hc) rfl) ?_
      cases h
      exact Fr.refl
  · cases h
    exact Fr.refl
theorem z_f_X8_readCopy_1 {x1 : Int32} {M : Mm} {M' : Mm}  (h : f_X8_readCopy_1 x1 M = some M') : Fr [(1, 4), (1, 5), (1, 6), (3, 7), (4, 999)] M M' := by
  unfold f_X8_readCopy_1 at h
  exact z_bb_X8_readCopy_1_0 h
theorem z_bb_X7_setLatestInk_3_0 {x1 : Int64} {M : Mm} {M' : Mm}  (h : bb_X7_setLatestInk_3_0 x1 M = some M') : Fr [(4, 999)] M M' := by
  unfold bb_X7_setLatestInk_3_0 at h
  rcases ite_ex h with ⟨hc, h⟩ | ⟨hc, h⟩
  · cases h
    exact Fr.refl
  · rcases ite_ex h with ⟨hc, h⟩ | ⟨hc, h⟩
    · cases h
      exact Fr.refl
    · obtain ⟨hg0, h⟩ := gd_ex h
      obtain ⟨M_2, he, h⟩ := ltv_ex h
      refine Fr.tr (M1 := M_2) (by rw [he]; exact Fr.wJa rfl) ?_
      cases h
      exact Fr.refl
theorem z_f_X7_setLatestInk_3 {x1 : Int64} {M : Mm} {M' : Mm}  (h : f_X7_setLatestInk_3 x1 M = some M') : Fr [(4, 999)] M M' := by
  unfold f_X7_setLatestInk_3 at h
  exact z_bb_X7_setLatestInk_3_0 h
theorem z_bb_X8_readDrawing_1_0 {x1 : Int32} {M : Mm} {M' : Mm}  (h : bb_X8_readDrawing_1_0 x1 M = some M') : Fr [(1, 4), (1, 5), (1, 6), (4, 999)] M M' := by
  unfold bb_X8_readDrawing_1_0 at h
  obtain ⟨v_3, M_2, hc, h⟩ := bd2_ex h
  refine Fr.tr (Fr.sub (z_f_X8_readNumber_1 hc) rfl) ?_
  obtain ⟨v_6, M_5, hc, h⟩ := bd2_ex h
  refine Fr.tr (Fr.sub (z_f_X8_readNumber_1 hc) rfl) ?_
  obtain ⟨v_9, M_8, hc, h⟩ := bd2_ex h
  refine Fr.tr (Fr.sub (z_f_X8_readNumber_1 hc) rfl) ?_
  obtain ⟨v_12, M_11, hc, h⟩ := bd2_ex h
  refine Fr.tr (Fr.sub (z_f_X8_readNumber_1 hc) rfl) ?_
  rcases ite_ex h with ⟨hc, h⟩ | ⟨hc, h⟩
  · obtain ⟨v_14, _, h⟩ := bd_ex h
    rcases ite_ex h with ⟨hc, h⟩ | ⟨hc, h⟩
    · obtain ⟨v_24, _, h⟩ := bd_ex h
      obtain ⟨M_26, hc, h⟩ := bd_ex h
      refine Fr.tr (Fr.sub (z_f_X7_setLatestInk_3 hc) rfl) ?_
      cases h
      exact Fr.refl
    · rcases ite_ex h with ⟨hc, h⟩ | ⟨hc, h⟩
      · obtain ⟨v_20, _, h⟩ := bd_ex h
        obtain ⟨M_22, hc, h⟩ := bd_ex h
        refine Fr.tr (Fr.sub (z_f_X7_setLatestInk_3 hc) rfl) ?_
        cases h
        exact Fr.refl
      · obtain ⟨v_16, _, h⟩ := bd_ex h
        obtain ⟨M_18, hc, h⟩ := bd_ex h
        refine Fr.tr (Fr.sub (z_f_X7_setLatestInk_3 hc) rfl) ?_
        cases h
        exact Fr.refl
  · cases h
    exact Fr.refl
theorem z_f_X8_readDrawing_1 {x1 : Int32} {M : Mm} {M' : Mm}  (h : f_X8_readDrawing_1 x1 M = some M') : Fr [(1, 4), (1, 5), (1, 6), (4, 999)] M M' := by
  unfold f_X8_readDrawing_1 at h
  exact z_bb_X8_readDrawing_1_0 h
theorem z_bb_X8_readLettersOfWord_1_83 {k_32 : Int32 → Int32 → Int32 → Int32 → Mm → Option Mm} {x1 : Int32} {x2 : Int32} {x4 : Int32} {x5 : Int32} {s0 : Int32} {M : Mm} {M' : Mm} (hk_32 : ∀ (y0 : Int32) (y1 : Int32) (y2 : Int32) (y3 : Int32) (N : Mm) (N' : Mm), k_32 y0 y1 y2 y3 N = some N' → Fr [(1, 4), (1, 5), (1, 6), (3, 8), (6, 999), (7, 999)] N N') (h : bb_X8_readLettersOfWord_1_83 k_32 x1 x2 x4 x5 s0 M = some M') : Fr [(1, 4), (1, 5), (1, 6), (3, 8), (6, 999), (7, 999)] M M' := by
  unfold bb_X8_readLettersOfWord_1_83 at h
  rcases ite_ex h with ⟨hc, h⟩ | ⟨hc, h⟩
  · obtain ⟨M_16, he, h⟩ := ltv_ex h
    refine Fr.tr (M1 := M_16) (by rw [he]; exact Fr.wrI rfl) ?_
    obtain ⟨x4_17, _, h⟩ := ltv_ex h
    exact hk_32 _ _ _ _ _ _ h
  · obtain ⟨hg0, h⟩ := gd_ex h
    obtain ⟨M_19, he, h⟩ := ltv_ex h
    refine Fr.tr (M1 := M_19) (by rw [he]; exact Fr.wIa rfl) ?_
    obtain ⟨x2_20, _, h⟩ := ltv_ex h
    obtain ⟨M_21, he, h⟩ := ltv_ex h
    refine Fr.tr (M1 := M_21) (by rw [he]; exact Fr.wrI rfl) ?_
    obtain ⟨x4_22, _, h⟩ := ltv_ex h
    exact hk_32 _ _ _ _ _ _ h
theorem z_bb_X8_readLettersOfWord_1_82 {k_32 : Int32 → Int32 → Int32 → Int32 → Mm → Option Mm} {x1 : Int32} {x2 : Int32} {x4 : Int32} {x5 : Int32} {M : Mm} {M' : Mm} (hk_32 : ∀ (y0 : Int32) (y1 : Int32) (y2 : Int32) (y3 : Int32) (N : Mm) (N' : Mm), k_32 y0 y1 y2 y3 N = some N' → Fr [(1, 4), (1, 5), (1, 6), (3, 8), (6, 999), (7, 999)] N N') (h : bb_X8_readLettersOfWord_1_82 k_32 x1 x2 x4 x5 M = some M') : Fr [(1, 4), (1, 5), (1, 6), (3, 8), (6, 999), (7, 999)] M M' := by
  unfold bb_X8_readLettersOfWord_1_82 at h
  exact z_bb_X8_readLettersOfWord_1_83 hk_32 h
theorem z_bb_X8_readLettersOfWord_1_129 {x1 : Int32} {x2 : Int32} {x3 : Int32} {M : Mm} {M' : Mm}  (h : bb_X8_readLettersOfWord_1_129 x1 x2 x3 M = some M') : Fr [(1, 4), (1, 5), (1, 6), (3, 8), (6, 999), (7, 999)] M M' := by
  unfold bb_X8_readLettersOfWord_1_129 at h
  rcases ite_ex h with ⟨hc, h⟩ | ⟨hc, h⟩
  · obtain ⟨M_15, hc, h⟩ := bd_ex h
    refine Fr.tr (Fr.sub (z_f_X8_fail_1 hc) rfl) ?_
    cases h
    exact Fr.refl
  · rcases ite_ex h with ⟨hc, h⟩ | ⟨hc, h⟩
    · obtain ⟨M_13, hc, h⟩ := bd_ex h
      refine Fr.tr (Fr.sub (z_f_X8_fail_1 hc) rfl) ?_
      cases h
      exact Fr.refl
    · obtain ⟨hg0, h⟩ := gd_ex h
      obtain ⟨M_10, he, h⟩ := ltv_ex h
      refine Fr.tr (M1 := M_10) (by rw [he]; exact Fr.wIa rfl) ?_
      obtain ⟨M_11, he, h⟩ := ltv_ex h
      refine Fr.tr (M1 := M_11) (by rw [he]; exact Fr.wrI rfl) ?_
      cases h
      exact Fr.refl
theorem z_bb_X8_readLettersOfWord_1_32 {k_32 : Int32 → Int32 → Int32 → Int32 → Mm → Option Mm} {x1 : Int32} {x2 : Int32} {x3 : Int32} {x4 : Int32} {M : Mm} {M' : Mm} (hk_32 : ∀ (y0 : Int32) (y1 : Int32) (y2 : Int32) (y3 : Int32) (N : Mm) (N' : Mm), k_32 y0 y1 y2 y3 N = some N' → Fr [(1, 4), (1, 5), (1, 6), (3, 8), (6, 999), (7, 999)] N N') (h : bb_X8_readLettersOfWord_1_32 k_32 x1 x2 x3 x4 M = some M') : Fr [(1, 4), (1, 5), (1, 6), (3, 8), (6, 999), (7, 999)] M M' := by
  unfold bb_X8_readLettersOfWord_1_32 at h
  rcases ite_ex h with ⟨hc, h⟩ | ⟨hc, h⟩
  · exact z_bb_X8_readLettersOfWord_1_129 h
  · obtain ⟨v_5, _, h⟩ := bd_ex h
    rcases ite_ex h with ⟨hc, h⟩ | ⟨hc, h⟩
    · exact z_bb_X8_readLettersOfWord_1_129 h
    · obtain ⟨v_7, _, h⟩ := bd_ex h
      obtain ⟨x5_8, _, h⟩ := ltv_ex h
      rcases ite_ex h with ⟨hc, h⟩ | ⟨hc, h⟩
      · exact z_bb_X8_readLettersOfWord_1_82 hk_32 h
      · rcases ite_ex h with ⟨hc, h⟩ | ⟨hc, h⟩
        · exact z_bb_X8_readLettersOfWord_1_82 hk_32 h
        · rcases ite_ex h with ⟨hc, h⟩ | ⟨hc, h⟩
          · exact z_bb_X8_readLettersOfWord_1_82 hk_32 h
          · exact z_bb_X8_readLettersOfWord_1_83 hk_32 h
theorem z_b_X8_readLettersOfWord_1_32  : ∀ (n : Nat) (y0 : Int32) (y1 : Int32) (y2 : Int32) (y3 : Int32) (M : Mm) (M' : Mm), b_X8_readLettersOfWord_1_32 n y0 y1 y2 y3 M = some M' → Fr [(1, 4), (1, 5), (1, 6), (3, 8), (6, 999), (7, 999)] M M' := by
  intro n
  induction n with
  | zero =>
    intro y0 y1 y2 y3 M M' h
    have h : (none : Option _) = some _ := h
    cases h
  | succ n ih =>
    intro y0 y1 y2 y3 M M' h
    exact z_bb_X8_readLettersOfWord_1_32 (fun y0 y1 y2 y3 M M' h => ih y0 y1 y2 y3 M M' h) h
theorem z_bb_X8_readLettersOfWord_1_0 {M : Mm} {M' : Mm}  (h : bb_X8_readLettersOfWord_1_0 M = some M') : Fr [(1, 4), (1, 5), (1, 6), (3, 8), (6, 999), (7, 999)] M M' := by
  unfold bb_X8_readLettersOfWord_1_0 at h
  obtain ⟨M_2, hc, h⟩ := bd_ex h
  refine Fr.tr (Fr.sub (z_f_X8_skipBlanks_1 hc) rfl) ?_
  obtain ⟨x1_3, _, h⟩ := ltv_ex h
  rcases ite_ex h with ⟨hc, h⟩ | ⟨hc, h⟩
  · exact z_b_X8_readLettersOfWord_1_32 _ _ _ _ _ _ _ h
  · exact z_b_X8_readLettersOfWord_1_32 _ _ _ _ _ _ _ h
theorem z_f_X8_readLettersOfWord_1 {M : Mm} {M' : Mm}  (h : f_X8_readLettersOfWord_1 M = some M') : Fr [(1, 4), (1, 5), (1, 6), (3, 8), (6, 999), (7, 999)] M M' := by
  unfold f_X8_readLettersOfWord_1 at h
  exact z_bb_X8_readLettersOfWord_1_0 h
theorem z_bb_X8_readSpread_1_0 {M : Mm} {M' : Mm}  (h : bb_X8_readSpread_1_0 M = some M') : Fr [(1, 4), (1, 5), (1, 6), (8, 999)] M M' := by
  unfold bb_X8_readSpread_1_0 at h
  obtain ⟨v_3, M_2, hc, h⟩ := bd2_ex h
  refine Fr.tr (Fr.sub (z_f_X8_readNumber_1 hc) rfl) ?_
  obtain ⟨v_6, M_5, hc, h⟩ := bd2_ex h
  refine Fr.tr (Fr.sub (z_f_X8_readNumber_1 hc) rfl) ?_
  rcases ite_ex h with ⟨hc, h⟩ | ⟨hc, h⟩
  · rcases ite_ex h with ⟨hc, h⟩ | ⟨hc, h⟩
    · cases h
      exact Fr.refl
    · rcases ite_ex h with ⟨hc, h⟩ | ⟨hc, h⟩
      · cases h
        exact Fr.refl
      · obtain ⟨hg0, h⟩ := gd_ex h
        obtain ⟨M_8, he, h⟩ := ltv_ex h
        refine Fr.tr (M1 := M_8) (by rw [he]; exact Fr.wIa rfl) ?_
        cases h
        exact Fr.refl
  · cases h
    exact Fr.refl
theorem z_f_X8_readSpread_1 {M : Mm} {M' : Mm}  (h : f_X8_readSpread_1 M = some M') : Fr [(1, 4), (1, 5), (1, 6), (8, 999)] M M' := by
  unfold f_X8_readSpread_1 at h
  exact z_bb_X8_readSpread_1_0 h
theorem z_bb_X8_readRest_1_0 {x1 : Int32} {M : Mm} {M' : Mm}  (h : bb_X8_readRest_1_0 x1 M = some M') : Fr [(1, 4), (1, 5), (1, 6), (3, 7), (3, 8), (4, 999), (6, 999), (7, 999), (8, 999)] M M' := by
  unfold bb_X8_readRest_1_0 at h
  rcases ite_ex h with ⟨hc, h⟩ | ⟨hc, h⟩
  · obtain ⟨M_2, hc, h⟩ := bd_ex h
    refine Fr.tr (Fr.sub (z_f_X7_addLetter_3 hc) rfl) ?_
    cases h
    exact Fr.refl
  · rcases ite_ex h with ⟨hc, h⟩ | ⟨hc, h⟩
    · obtain ⟨M_4, hc, h⟩ := bd_ex h
      refine Fr.tr (Fr.sub (z_f_X8_readCopy_1 hc) rfl) ?_
      cases h
      exact Fr.refl
    · rcases ite_ex h with ⟨hc, h⟩ | ⟨hc, h⟩
      · obtain ⟨M_6, hc, h⟩ := bd_ex h
        refine Fr.tr (Fr.sub (z_f_X8_readCopy_1 hc) rfl) ?_
        cases h
        exact Fr.refl
      · rcases ite_ex h with ⟨hc, h⟩ | ⟨hc, h⟩
        · obtain ⟨M_8, hc, h⟩ := bd_ex h
          refine Fr.tr (Fr.sub (z_f_X8_readDrawing_1 hc) rfl) ?_
          cases h
          exact Fr.refl
        · rcases ite_ex h with ⟨hc, h⟩ | ⟨hc, h⟩
          · obtain ⟨M_10, hc, h⟩ := bd_ex h
            refine Fr.tr (Fr.sub (z_f_X8_readDrawing_1 hc) rfl) ?_
            cases h
            exact Fr.refl
          · rcases ite_ex h with ⟨hc, h⟩ | ⟨hc, h⟩
            · obtain ⟨M_12, hc, h⟩ := bd_ex h
              refine Fr.tr (Fr.sub (z_f_X8_readDrawing_1 hc) rfl) ?_
              cases h
              exact Fr.refl
            · rcases ite_ex h with ⟨hc, h⟩ | ⟨hc, h⟩
              · obtain ⟨M_14, hc, h⟩ := bd_ex h
                refine Fr.tr (Fr.sub (z_f_X8_readLettersOfWord_1 hc) rfl) ?_
                cases h
                exact Fr.refl
              · rcases ite_ex h with ⟨hc, h⟩ | ⟨hc, h⟩
                · obtain ⟨M_16, hc, h⟩ := bd_ex h
                  refine Fr.tr (Fr.sub (z_f_X8_readSpread_1 hc) rfl) ?_
                  cases h
                  exact Fr.refl
                · obtain ⟨M_18, hc, h⟩ := bd_ex h
                  refine Fr.tr (Fr.sub (z_f_X8_readDrawing_1 hc) rfl) ?_
                  cases h
                  exact Fr.refl
theorem z_f_X8_readRest_1 {x1 : Int32} {M : Mm} {M' : Mm}  (h : f_X8_readRest_1 x1 M = some M') : Fr [(1, 4), (1, 5), (1, 6), (3, 7), (3, 8), (4, 999), (6, 999), (7, 999), (8, 999)] M M' := by
  unfold f_X8_readRest_1 at h
  exact z_bb_X8_readRest_1_0 h
theorem z_bb_X8_readSemicolon_1_0 {M : Mm} {M' : Mm}  (h : bb_X8_readSemicolon_1_0 M = some M') : Fr [(1, 4), (1, 5), (1, 6)] M M' := by
  unfold bb_X8_readSemicolon_1_0 at h
  rcases ite_ex h with ⟨hc, h⟩ | ⟨hc, h⟩
  · obtain ⟨M_2, hc, h⟩ := bd_ex h
    refine Fr.tr (Fr.sub (z_f_X8_skipBlanks_1 hc) rfl) ?_
    obtain ⟨v_4, _, h⟩ := bd_ex h
    rcases ite_ex h with ⟨hc, h⟩ | ⟨hc, h⟩
    · obtain ⟨M_7, he, h⟩ := ltv_ex h
      refine Fr.tr (M1 := M_7) (by rw [he]; exact Fr.wrI rfl) ?_
      cases h
      exact Fr.refl
    · obtain ⟨M_6, hc, h⟩ := bd_ex h
      refine Fr.tr (Fr.sub (z_f_X8_fail_1 hc) rfl) ?_
      cases h
      exact Fr.refl
  · cases h
    exact Fr.refl
theorem z_f_X8_readSemicolon_1 {M : Mm} {M' : Mm}  (h : f_X8_readSemicolon_1 M = some M') : Fr [(1, 4), (1, 5), (1, 6)] M M' := by
  unfold f_X8_readSemicolon_1 at h
  exact z_bb_X8_readSemicolon_1_0 h
theorem z_bb_X8_readClause_1_61 {x1 : Int32} {x2 : Int32} {x3 : Int32} {M : Mm} {M' : Mm}  (h : bb_X8_readClause_1_61 x1 x2 x3 M = some M') : Fr [(1, 4), (1, 5), (1, 6), (3, 7), (3, 8), (4, 999), (6, 999), (7, 999), (8, 999)] M M' := by
  unfold bb_X8_readClause_1_61 at h
  rcases ite_ex h with ⟨hc, h⟩ | ⟨hc, h⟩
  · obtain ⟨M_10, hc, h⟩ := bd_ex h
    refine Fr.tr (Fr.sub (z_f_X8_fail_1 hc) rfl) ?_
    cases h
    exact Fr.refl
  · obtain ⟨v_12, _, h⟩ := bd_ex h
    rcases ite_ex h with ⟨hc, h⟩ | ⟨hc, h⟩
    · obtain ⟨M_14, hc, h⟩ := bd_ex h
      refine Fr.tr (Fr.sub (z_f_X8_readRest_1 hc) rfl) ?_
      obtain ⟨M_16, hc, h⟩ := bd_ex h
      refine Fr.tr (Fr.sub (z_f_X8_readSemicolon_1 hc) rfl) ?_
      cases h
      exact Fr.refl
    · obtain ⟨M_18, hc, h⟩ := bd_ex h
      refine Fr.tr (Fr.sub (z_f_X8_fail_1 hc) rfl) ?_
      cases h
      exact Fr.refl
theorem z_bb_X8_readClause_1_30 {x1 : Int32} {x2 : Int32} {x3 : Int32} {s0 : Int32} {M : Mm} {M' : Mm}  (h : bb_X8_readClause_1_30 x1 x2 x3 s0 M = some M') : Fr [(1, 4), (1, 5), (1, 6), (3, 7), (3, 8), (4, 999), (6, 999), (7, 999), (8, 999)] M M' := by
  unfold bb_X8_readClause_1_30 at h
  rcases ite_ex h with ⟨hc, h⟩ | ⟨hc, h⟩
  · obtain ⟨M_6, hc, h⟩ := bd_ex h
    refine Fr.tr (Fr.sub (z_f_X8_fail_1 hc) rfl) ?_
    cases h
    exact Fr.refl
  · rcases ite_ex h with ⟨hc, h⟩ | ⟨hc, h⟩
    · exact z_bb_X8_readClause_1_61 h
    · rcases ite_ex h with ⟨hc, h⟩ | ⟨hc, h⟩
      · obtain ⟨M_8, hc, h⟩ := bd_ex h
        refine Fr.tr (Fr.sub (z_f_X8_fail_1 hc) rfl) ?_
        cases h
        exact Fr.refl
      · exact z_bb_X8_readClause_1_61 h
theorem z_bb_X8_readClause_1_25 {x1 : Int32} {x2 : Int32} {x3 : Int32} {M : Mm} {M' : Mm}  (h : bb_X8_readClause_1_25 x1 x2 x3 M = some M') : Fr [(1, 4), (1, 5), (1, 6), (3, 7), (3, 8), (4, 999), (6, 999), (7, 999), (8, 999)] M M' := by
  unfold bb_X8_readClause_1_25 at h
  exact z_bb_X8_readClause_1_30 h
theorem z_bb_X8_readClause_1_0 {x1 : Int32} {M : Mm} {M' : Mm}  (h : bb_X8_readClause_1_0 x1 M = some M') : Fr [(1, 4), (1, 5), (1, 6), (3, 7), (3, 8), (4, 999), (6, 999), (7, 999), (8, 999)] M M' := by
  unfold bb_X8_readClause_1_0 at h
  obtain ⟨x2_1, _, h⟩ := ltv_ex h
  obtain ⟨v_4, M_3, hc, h⟩ := bd2_ex h
  refine Fr.tr (Fr.sub (z_f_X8_readKeyword_1 hc) rfl) ?_
  rcases ite_ex h with ⟨hc, h⟩ | ⟨hc, h⟩
  · exact z_bb_X8_readClause_1_25 h
  · rcases ite_ex h with ⟨hc, h⟩ | ⟨hc, h⟩
    · exact z_bb_X8_readClause_1_25 h
    · rcases ite_ex h with ⟨hc, h⟩ | ⟨hc, h⟩
      · exact z_bb_X8_readClause_1_25 h
      · exact z_bb_X8_readClause_1_30 h
theorem z_f_X8_readClause_1 {x1 : Int32} {M : Mm} {M' : Mm}  (h : f_X8_readClause_1 x1 M = some M') : Fr [(1, 4), (1, 5), (1, 6), (3, 7), (3, 8), (4, 999), (6, 999), (7, 999), (8, 999)] M M' := by
  unfold f_X8_readClause_1 at h
  exact z_bb_X8_readClause_1_0 h
theorem z_bb_X8_readFirst_1_44 {k_44 : Int32 → Mm → Option (Int32 × Mm)} {x2 : Int32} {M : Mm} {v : Int32} {M' : Mm} (hk_44 : ∀ (y0 : Int32) (N : Mm) (w : Int32) (N' : Mm), k_44 y0 N = some (w, N') → Fr [(1, 2), (1, 3), (1, 4), (1, 5), (1, 6), (3, 7), (3, 8), (3, 9), (4, 999), (5, 999), (6, 999), (7, 999), (8, 999)] N N') (h : bb_X8_readFirst_1_44 k_44 x2 M = some (v, M')) : Fr [(1, 2), (1, 3), (1, 4), (1, 5), (1, 6), (3, 7), (3, 8), (3, 9), (4, 999), (5, 999), (6, 999), (7, 999), (8, 999)] M M' := by
  unfold bb_X8_readFirst_1_44 at h
  rcases ite_ex h with ⟨hc, h⟩ | ⟨hc, h⟩
  · cases h
    exact Fr.refl
  · rcases ite_ex h with ⟨hc, h⟩ | ⟨hc, h⟩
    · cases h
      exact Fr.refl
    · rcases ite_ex h with ⟨hc, h⟩ | ⟨hc, h⟩
      · obtain ⟨M_11, hc, h⟩ := bd_ex h
        refine Fr.tr (Fr.sub (z_f_X8_readClause_1 hc) rfl) ?_
        obtain ⟨M_13, hc, h⟩ := bd_ex h
        refine Fr.tr (Fr.sub (z_f_X8_skipBlanks_1 hc) rfl) ?_
        obtain ⟨x2_14, _, h⟩ := ltv_ex h
        exact hk_44 _ _ _ _ h
      · cases h
        exact Fr.refl
theorem z_b_X8_readFirst_1_44  : ∀ (n : Nat) (y0 : Int32) (M : Mm) (v : Int32) (M' : Mm), b_X8_readFirst_1_44 n y0 M = some (v, M') → Fr [(1, 2), (1, 3), (1, 4), (1, 5), (1, 6), (3, 7), (3, 8), (3, 9), (4, 999), (5, 999), (6, 999), (7, 999), (8, 999)] M M' := by
  intro n
  induction n with
  | zero =>
    intro y0 M v M' h
    have h : (none : Option _) = some _ := h
    cases h
  | succ n ih =>
    intro y0 M v M' h
    exact z_bb_X8_readFirst_1_44 (fun y0 M v M' h => ih y0 M v M' h) h
theorem z_bb_X8_readFirst_1_0 {x1 : Int32} {M : Mm} {v : Int32} {M' : Mm}  (h : bb_X8_readFirst_1_0 x1 M = some (v, M')) : Fr [(1, 2), (1, 3), (1, 4), (1, 5), (1, 6), (3, 7), (3, 8), (3, 9), (4, 999), (5, 999), (6, 999), (7, 999), (8, 999)] M M' := by
  unfold bb_X8_readFirst_1_0 at h
  obtain ⟨M_1, he, h⟩ := ltv_ex h
  refine Fr.tr (M1 := M_1) (by rw [he]; exact Fr.wrI rfl) ?_
  obtain ⟨M_2, he, h⟩ := ltv_ex h
  refine Fr.tr (M1 := M_2) (by rw [he]; exact Fr.wrI rfl) ?_
  obtain ⟨M_3, he, h⟩ := ltv_ex h
  refine Fr.tr (M1 := M_3) (by rw [he]; exact Fr.wrI rfl) ?_
  obtain ⟨M_4, he, h⟩ := ltv_ex h
  refine Fr.tr (M1 := M_4) (by rw [he]; exact Fr.wrI rfl) ?_
  obtain ⟨M_5, he, h⟩ := ltv_ex h
  refine Fr.tr (M1 := M_5) (by rw [he]; exact Fr.wrI rfl) ?_
  obtain ⟨M_7, hc, h⟩ := bd_ex h
  refine Fr.tr (Fr.sub (z_f_X7_wipe_3 hc) rfl) ?_
  obtain ⟨M_9, hc, h⟩ := bd_ex h
  refine Fr.tr (Fr.sub (z_f_X8_skipBlanks_1 hc) rfl) ?_
  exact z_b_X8_readFirst_1_44 _ _ _ _ _ h
theorem z_f_X8_readFirst_1 {x1 : Int32} {M : Mm} {v : Int32} {M' : Mm}  (h : f_X8_readFirst_1 x1 M = some (v, M')) : Fr [(1, 2), (1, 3), (1, 4), (1, 5), (1, 6), (3, 7), (3, 8), (3, 9), (4, 999), (5, 999), (6, 999), (7, 999), (8, 999)] M M' := by
  unfold f_X8_readFirst_1 at h
  exact z_bb_X8_readFirst_1_0 h
theorem z_bb_X3_lay_19_70 {k_17 : Int64 → Int32 → Int64 → Int32 → Mm → Option Mm} {x1 : Int64} {x3 : Int32} {x4 : Int64} {x6 : Int32} {x7 : Int64} {s0 : Int32} {M : Mm} {M' : Mm} (hk_17 : ∀ (y0 : Int64) (y1 : Int32) (y2 : Int64) (y3 : Int32) (N : Mm) (N' : Mm), k_17 y0 y1 y2 y3 N = some N' → Fr [(20, 999)] N N') (h : bb_X3_lay_19_70 k_17 x1 x3 x4 x6 x7 s0 M = some M') : Fr [(20, 999)] M M' := by
  unfold bb_X3_lay_19_70 at h
  rcases ite_ex h with ⟨hc, h⟩ | ⟨hc, h⟩
  · obtain ⟨hg0, h⟩ := gd_ex h
    obtain ⟨M_5, he, h⟩ := ltv_ex h
    refine Fr.tr (M1 := M_5) (by rw [he]; exact Fr.wJa rfl) ?_
    obtain ⟨x6_6, _, h⟩ := ltv_ex h
    exact hk_17 _ _ _ _ _ _ h
  · obtain ⟨hg0, h⟩ := gd_ex h
    obtain ⟨M_8, he, h⟩ := ltv_ex h
    refine Fr.tr (M1 := M_8) (by rw [he]; exact Fr.wJa rfl) ?_
    obtain ⟨x6_9, _, h⟩ := ltv_ex h
    exact hk_17 _ _ _ _ _ _ h
theorem z_bb_X3_lay_19_69 {k_17 : Int64 → Int32 → Int64 → Int32 → Mm → Option Mm} {x1 : Int64} {x3 : Int32} {x4 : Int64} {x6 : Int32} {x7 : Int64} {M : Mm} {M' : Mm} (hk_17 : ∀ (y0 : Int64) (y1 : Int32) (y2 : Int64) (y3 : Int32) (N : Mm) (N' : Mm), k_17 y0 y1 y2 y3 N = some N' → Fr [(20, 999)] N N') (h : bb_X3_lay_19_69 k_17 x1 x3 x4 x6 x7 M = some M') : Fr [(20, 999)] M M' := by
  unfold bb_X3_lay_19_69 at h
  exact z_bb_X3_lay_19_70 hk_17 h
theorem z_bb_X3_lay_19_47 {k_17 : Int64 → Int32 → Int64 → Int32 → Mm → Option Mm} {x1 : Int64} {x3 : Int32} {x4 : Int64} {x6 : Int32} {s0 : Int64} {M : Mm} {M' : Mm} (hk_17 : ∀ (y0 : Int64) (y1 : Int32) (y2 : Int64) (y3 : Int32) (N : Mm) (N' : Mm), k_17 y0 y1 y2 y3 N = some N' → Fr [(20, 999)] N N') (h : bb_X3_lay_19_47 k_17 x1 x3 x4 x6 s0 M = some M') : Fr [(20, 999)] M M' := by
  unfold bb_X3_lay_19_47 at h
  rcases ite_ex h with ⟨hc, h⟩ | ⟨hc, h⟩
  · rcases ite_ex h with ⟨hc, h⟩ | ⟨hc, h⟩
    · exact z_bb_X3_lay_19_70 hk_17 h
    · exact z_bb_X3_lay_19_69 hk_17 h
  · exact z_bb_X3_lay_19_69 hk_17 h
theorem z_bb_X3_lay_19_17 {k_2 : Int64 → Int32 → Mm → Option Mm} {k_17 : Int64 → Int32 → Int64 → Int32 → Mm → Option Mm} {x1 : Int64} {x3 : Int32} {x4 : Int64} {x6 : Int32} {M : Mm} {M' : Mm} (hk_2 : ∀ (y0 : Int64) (y1 : Int32) (N : Mm) (N' : Mm), k_2 y0 y1 N = some N' → Fr [(20, 999)] N N') (hk_17 : ∀ (y0 : Int64) (y1 : Int32) (y2 : Int64) (y3 : Int32) (N : Mm) (N' : Mm), k_17 y0 y1 y2 y3 N = some N' → Fr [(20, 999)] N N') (h : bb_X3_lay_19_17 k_2 k_17 x1 x3 x4 x6 M = some M') : Fr [(20, 999)] M M' := by
  unfold bb_X3_lay_19_17 at h
  rcases ite_ex h with ⟨hc, h⟩ | ⟨hc, h⟩
  · obtain ⟨x3_3, _, h⟩ := ltv_ex h
    exact hk_2 _ _ _ _ h
  · rcases ite_ex h with ⟨hc, h⟩ | ⟨hc, h⟩
    · exact z_bb_X3_lay_19_47 hk_17 h
    · exact z_bb_X3_lay_19_47 hk_17 h
theorem z_b_X3_lay_19_17 {k_2 : Int64 → Int32 → Mm → Option Mm} (hk_2 : ∀ (y0 : Int64) (y1 : Int32) (N : Mm) (N' : Mm), k_2 y0 y1 N = some N' → Fr [(20, 999)] N N') : ∀ (n : Nat) (y0 : Int64) (y1 : Int32) (y2 : Int64) (y3 : Int32) (M : Mm) (M' : Mm), b_X3_lay_19_17 k_2 n y0 y1 y2 y3 M = some M' → Fr [(20, 999)] M M' := by
  intro n
  induction n with
  | zero =>
    intro y0 y1 y2 y3 M M' h
    have h : (none : Option _) = some _ := h
    cases h
  | succ n ih =>
    intro y0 y1 y2 y3 M M' h
    exact z_bb_X3_lay_19_17 hk_2 (fun y0 y1 y2 y3 M M' h => ih y0 y1 y2 y3 M M' h) h
theorem z_bb_X3_lay_19_2 {k_2 : Int64 → Int32 → Mm → Option Mm} {x1 : Int64} {x3 : Int32} {M : Mm} {M' : Mm} (hk_2 : ∀ (y0 : Int64) (y1 : Int32) (N : Mm) (N' : Mm), k_2 y0 y1 N = some N' → Fr [(20, 999)] N N') (h : bb_X3_lay_19_2 k_2 x1 x3 M = some M') : Fr [(20, 999)] M M' := by
  unfold bb_X3_lay_19_2 at h
  rcases ite_ex h with ⟨hc, h⟩ | ⟨hc, h⟩
  · cases h
    exact Fr.refl
  · obtain ⟨v_2, _, h⟩ := bd_ex h
    exact z_b_X3_lay_19_17 hk_2 _ _ _ _ _ _ _ h
theorem z_b_X3_lay_19_2  : ∀ (n : Nat) (y0 : Int64) (y1 : Int32) (M : Mm) (M' : Mm), b_X3_lay_19_2 n y0 y1 M = some M' → Fr [(20, 999)] M M' := by
  intro n
  induction n with
  | zero =>
    intro y0 y1 M M' h
    have h : (none : Option _) = some _ := h
    cases h
  | succ n ih =>
    intro y0 y1 M M' h
    exact z_bb_X3_lay_19_2 (fun y0 y1 M M' h => ih y0 y1 M M' h) h
theorem z_bb_X3_lay_19_0 {x1 : Int64} {M : Mm} {M' : Mm}  (h : bb_X3_lay_19_0 x1 M = some M') : Fr [(20, 999)] M M' := by
  unfold bb_X3_lay_19_0 at h
  exact z_b_X3_lay_19_2 _ _ _ _ _ h
theorem z_f_X3_lay_19 {x1 : Int64} {M : Mm} {M' : Mm}  (h : f_X3_lay_19 x1 M = some M') : Fr [(20, 999)] M M' := by
  unfold f_X3_lay_19 at h
  exact z_bb_X3_lay_19_0 h
theorem z_bb_X3_layCrossings_19_28 {k_2 : Int64 → Int32 → Mm → Option Mm} {k_28 : Int64 → Int32 → Int64 → Int32 → Mm → Option Mm} {x1 : Int64} {x3 : Int32} {x4 : Int64} {x6 : Int32} {M : Mm} {M' : Mm} (hk_2 : ∀ (y0 : Int64) (y1 : Int32) (N : Mm) (N' : Mm), k_2 y0 y1 N = some N' → Fr [(21, 999)] N N') (hk_28 : ∀ (y0 : Int64) (y1 : Int32) (y2 : Int64) (y3 : Int32) (N : Mm) (N' : Mm), k_28 y0 y1 y2 y3 N = some N' → Fr [(21, 999)] N N') (h : bb_X3_layCrossings_19_28 k_2 k_28 x1 x3 x4 x6 M = some M') : Fr [(21, 999)] M M' := by
  unfold bb_X3_layCrossings_19_28 at h
  rcases ite_ex h with ⟨hc, h⟩ | ⟨hc, h⟩
  · obtain ⟨x3_5, _, h⟩ := ltv_ex h
    exact hk_2 _ _ _ _ h
  · rcases ite_ex h with ⟨hc, h⟩ | ⟨hc, h⟩
    · obtain ⟨x3_6, _, h⟩ := ltv_ex h
      exact hk_2 _ _ _ _ h
    · obtain ⟨hg0, h⟩ := gd_ex h
      rcases ite_ex h with ⟨hc, h⟩ | ⟨hc, h⟩
      · obtain ⟨x6_8, _, h⟩ := ltv_ex h
        exact hk_28 _ _ _ _ _ _ h
      · obtain ⟨hg1, h⟩ := gd_ex h
        obtain ⟨hg2, h⟩ := gd_ex h
        obtain ⟨M_11, he, h⟩ := ltv_ex h
        refine Fr.tr (M1 := M_11) (by rw [he]; exact Fr.wIa rfl) ?_
        obtain ⟨x6_12, _, h⟩ := ltv_ex h
        exact hk_28 _ _ _ _ _ _ h
theorem z_b_X3_layCrossings_19_28 {k_2 : Int64 → Int32 → Mm → Option Mm} (hk_2 : ∀ (y0 : Int64) (y1 : Int32) (N : Mm) (N' : Mm), k_2 y0 y1 N = some N' → Fr [(21, 999)] N N') : ∀ (n : Nat) (y0 : Int64) (y1 : Int32) (y2 : Int64) (y3 : Int32) (M : Mm) (M' : Mm), b_X3_layCrossings_19_28 k_2 n y0 y1 y2 y3 M = some M' → Fr [(21, 999)] M M' := by
  intro n
  induction n with
  | zero =>
    intro y0 y1 y2 y3 M M' h
    have h : (none : Option _) = some _ := h
    cases h
  | succ n ih =>
    intro y0 y1 y2 y3 M M' h
    exact z_bb_X3_layCrossings_19_28 hk_2 (fun y0 y1 y2 y3 M M' h => ih y0 y1 y2 y3 M M' h) h
theorem z_bb_X3_layCrossings_19_2 {k_2 : Int64 → Int32 → Mm → Option Mm} {x1 : Int64} {x3 : Int32} {M : Mm} {M' : Mm} (hk_2 : ∀ (y0 : Int64) (y1 : Int32) (N : Mm) (N' : Mm), k_2 y0 y1 N = some N' → Fr [(21, 999)] N N') (h : bb_X3_layCrossings_19_2 k_2 x1 x3 M = some M') : Fr [(21, 999)] M M' := by
  unfold bb_X3_layCrossings_19_2 at h
  rcases ite_ex h with ⟨hc, h⟩ | ⟨hc, h⟩
  · cases h
    exact Fr.refl
  · obtain ⟨hg0, h⟩ := gd_ex h
    obtain ⟨M_2, he, h⟩ := ltv_ex h
    refine Fr.tr (M1 := M_2) (by rw [he]; exact Fr.wIa rfl) ?_
    obtain ⟨hg1, h⟩ := gd_ex h
    obtain ⟨x4_4, _, h⟩ := ltv_ex h
    exact z_b_X3_layCrossings_19_28 hk_2 _ _ _ _ _ _ _ h
theorem z_b_X3_layCrossings_19_2  : ∀ (n : Nat) (y0 : Int64) (y1 : Int32) (M : Mm) (M' : Mm), b_X3_layCrossings_19_2 n y0 y1 M = some M' → Fr [(21, 999)] M M' := by
  intro n
  induction n with
  | zero =>
    intro y0 y1 M M' h
    have h : (none : Option _) = some _ := h
    cases h
  | succ n ih =>
    intro y0 y1 M M' h
    exact z_bb_X3_layCrossings_19_2 (fun y0 y1 M M' h => ih y0 y1 M M' h) h
theorem z_bb_X3_layCrossings_19_0 {x1 : Int64} {M : Mm} {M' : Mm}  (h : bb_X3_layCrossings_19_0 x1 M = some M') : Fr [(21, 999)] M M' := by
  unfold bb_X3_layCrossings_19_0 at h
  exact z_b_X3_layCrossings_19_2 _ _ _ _ _ h
theorem z_f_X3_layCrossings_19 {x1 : Int64} {M : Mm} {M' : Mm}  (h : f_X3_layCrossings_19 x1 M = some M') : Fr [(21, 999)] M M' := by
  unfold f_X3_layCrossings_19 at h
  exact z_bb_X3_layCrossings_19_0 h
theorem z_bb_J7_fill_53178_22_5 {k_5 : Int32 → Int32 → Int32 → Mm → Option Mm} {x1 : Int32} {x2 : Int32} {x3 : Int32} {M : Mm} {M' : Mm} (hk_5 : ∀ (y0 : Int32) (y1 : Int32) (y2 : Int32) (N : Mm) (N' : Mm), k_5 y0 y1 y2 N = some N' → Fr [(22, 999)] N N') (h : bb_J7_fill_53178_22_5 k_5 x1 x2 x3 M = some M') : Fr [(22, 999)] M M' := by
  unfold bb_J7_fill_53178_22_5 at h
  rcases ite_ex h with ⟨hc, h⟩ | ⟨hc, h⟩
  · cases h
    exact Fr.refl
  · obtain ⟨hg0, h⟩ := gd_ex h
    obtain ⟨M_2, he, h⟩ := ltv_ex h
    refine Fr.tr (M1 := M_2) (by rw [he]; exact Fr.wIa rfl) ?_
    obtain ⟨x2_3, _, h⟩ := ltv_ex h
    exact hk_5 _ _ _ _ _ h
theorem z_b_J7_fill_53178_22_5  : ∀ (n : Nat) (y0 : Int32) (y1 : Int32) (y2 : Int32) (M : Mm) (M' : Mm), b_J7_fill_53178_22_5 n y0 y1 y2 M = some M' → Fr [(22, 999)] M M' := by
  intro n
  induction n with
  | zero =>
    intro y0 y1 y2 M M' h
    have h : (none : Option _) = some _ := h
    cases h
  | succ n ih =>
    intro y0 y1 y2 M M' h
    exact z_bb_J7_fill_53178_22_5 (fun y0 y1 y2 M M' h => ih y0 y1 y2 M M' h) h
theorem z_bb_J7_fill_53178_22_0 {x1 : Int32} {M : Mm} {M' : Mm}  (h : bb_J7_fill_53178_22_0 x1 M = some M') : Fr [(22, 999)] M M' := by
  unfold bb_J7_fill_53178_22_0 at h
  exact z_b_J7_fill_53178_22_5 _ _ _ _ _ _ h
theorem z_f_J7_fill_53178_22 {x1 : Int32} {M : Mm} {M' : Mm}  (h : f_J7_fill_53178_22 x1 M = some M') : Fr [(22, 999)] M M' := by
  unfold f_J7_fill_53178_22 at h
  exact z_bb_J7_fill_53178_22_0 h
theorem z_bb_J7_fill_53178_23_5 {k_5 : Int32 → Int32 → Int32 → Mm → Option Mm} {x1 : Int32} {x2 : Int32} {x3 : Int32} {M : Mm} {M' : Mm} (hk_5 : ∀ (y0 : Int32) (y1 : Int32) (y2 : Int32) (N : Mm) (N' : Mm), k_5 y0 y1 y2 N = some N' → Fr [(23, 999)] N N') (h : bb_J7_fill_53178_23_5 k_5 x1 x2 x3 M = some M') : Fr [(23, 999)] M M' := by
  unfold bb_J7_fill_53178_23_5 at h
  rcases ite_ex h with ⟨hc, h⟩ | ⟨hc, h⟩
  · cases h
    exact Fr.refl
  · obtain ⟨hg0, h⟩ := gd_ex h
    obtain ⟨M_2, he, h⟩ := ltv_ex h
    refine Fr.tr (M1 := M_2) (by rw [he]; exact Fr.wIa rfl) ?_
    obtain ⟨x2_3, _, h⟩ := ltv_ex h
    exact hk_5 _ _ _ _ _ h
theorem z_b_J7_fill_53178_23_5  : ∀ (n : Nat) (y0 : Int32) (y1 : Int32) (y2 : Int32) (M : Mm) (M' : Mm), b_J7_fill_53178_23_5 n y0 y1 y2 M = some M' → Fr [(23, 999)] M M' := by
  intro n
  induction n with
  | zero =>
    intro y0 y1 y2 M M' h
    have h : (none : Option _) = some _ := h
    cases h
  | succ n ih =>
    intro y0 y1 y2 M M' h
    exact z_bb_J7_fill_53178_23_5 (fun y0 y1 y2 M M' h => ih y0 y1 y2 M M' h) h
theorem z_bb_J7_fill_53178_23_0 {x1 : Int32} {M : Mm} {M' : Mm}  (h : bb_J7_fill_53178_23_0 x1 M = some M') : Fr [(23, 999)] M M' := by
  unfold bb_J7_fill_53178_23_0 at h
  exact z_b_J7_fill_53178_23_5 _ _ _ _ _ _ h
theorem z_f_J7_fill_53178_23 {x1 : Int32} {M : Mm} {M' : Mm}  (h : f_J7_fill_53178_23 x1 M = some M') : Fr [(23, 999)] M M' := by
  unfold f_J7_fill_53178_23 at h
  exact z_bb_J7_fill_53178_23_0 h
theorem z_bb_X3_findsMate_21_22_23_22 {rc : Int32 → Int32 → Mm → Option (Int32 × Mm)} {k_22 : Int32 → Int32 → Int32 → Mm → Option (Int32 × Mm)} {x3 : Int32} {x4 : Int32} {x5 : Int32} {M : Mm} {v : Int32} {M' : Mm} (hrc : ∀ (y0 : Int32) (y1 : Int32) (N : Mm) (w : Int32) (N' : Mm), rc y0 y1 N = some (w, N') → Fr [(22, 999), (23, 999)] N N') (hk_22 : ∀ (y0 : Int32) (y1 : Int32) (y2 : Int32) (N : Mm) (w : Int32) (N' : Mm), k_22 y0 y1 y2 N = some (w, N') → Fr [(22, 999), (23, 999)] N N') (h : bb_X3_findsMate_21_22_23_22 rc k_22 x3 x4 x5 M = some (v, M')) : Fr [(22, 999), (23, 999)] M M' := by
  unfold bb_X3_findsMate_21_22_23_22 at h
  rcases ite_ex h with ⟨hc, h⟩ | ⟨hc, h⟩
  · cases h
    exact Fr.refl
  · obtain ⟨hg0, h⟩ := gd_ex h
    rcases ite_ex h with ⟨hc, h⟩ | ⟨hc, h⟩
    · obtain ⟨x5_2, _, h⟩ := ltv_ex h
      exact hk_22 _ _ _ _ _ _ h
    · obtain ⟨hg1, h⟩ := gd_ex h
      rcases ite_ex h with ⟨hc, h⟩ | ⟨hc, h⟩
      · obtain ⟨hg2, h⟩ := gd_ex h
        obtain ⟨M_5, he, h⟩ := ltv_ex h
        refine Fr.tr (M1 := M_5) (by rw [he]; exact Fr.wIa rfl) ?_
        obtain ⟨hg3, h⟩ := gd_ex h
        rcases ite_ex h with ⟨hc, h⟩ | ⟨hc, h⟩
        · obtain ⟨hg4, h⟩ := gd_ex h
          obtain ⟨M_8, he, h⟩ := ltv_ex h
          refine Fr.tr (M1 := M_8) (by rw [he]; exact Fr.wIa rfl) ?_
          cases h
          exact Fr.refl
        · obtain ⟨hg4, h⟩ := gd_ex h
          obtain ⟨v_12, M_11, hc, h⟩ := bd2_ex h
          refine Fr.tr (hrc _ _ _ _ _ hc) ?_
          rcases ite_ex h with ⟨hc, h⟩ | ⟨hc, h⟩
          · obtain ⟨x5_13, _, h⟩ := ltv_ex h
            exact hk_22 _ _ _ _ _ _ h
          · obtain ⟨hg5, h⟩ := gd_ex h
            obtain ⟨M_15, he, h⟩ := ltv_ex h
            refine Fr.tr (M1 := M_15) (by rw [he]; exact Fr.wIa rfl) ?_
            cases h
            exact Fr.refl
      · obtain ⟨x5_16, _, h⟩ := ltv_ex h
        exact hk_22 _ _ _ _ _ _ h
theorem z_b_X3_findsMate_21_22_23_22 {rc : Int32 → Int32 → Mm → Option (Int32 × Mm)} (hrc : ∀ (y0 : Int32) (y1 : Int32) (N : Mm) (w : Int32) (N' : Mm), rc y0 y1 N = some (w, N') → Fr [(22, 999), (23, 999)] N N') : ∀ (n : Nat) (y0 : Int32) (y1 : Int32) (y2 : Int32) (M : Mm) (v : Int32) (M' : Mm), b_X3_findsMate_21_22_23_22 rc n y0 y1 y2 M = some (v, M') → Fr [(22, 999), (23, 999)] M M' := by
  intro n
  induction n with
  | zero =>
    intro y0 y1 y2 M v M' h
    have h : (none : Option _) = some _ := h
    cases h
  | succ n ih =>
    intro y0 y1 y2 M v M' h
    exact z_bb_X3_findsMate_21_22_23_22 hrc (fun y0 y1 y2 M v M' h => ih y0 y1 y2 M v M' h) h
theorem z_bb_X3_findsMate_21_22_23_0 {rc : Int32 → Int32 → Mm → Option (Int32 × Mm)} {x3 : Int32} {x4 : Int32} {M : Mm} {v : Int32} {M' : Mm} (hrc : ∀ (y0 : Int32) (y1 : Int32) (N : Mm) (w : Int32) (N' : Mm), rc y0 y1 N = some (w, N') → Fr [(22, 999), (23, 999)] N N') (h : bb_X3_findsMate_21_22_23_0 rc x3 x4 M = some (v, M')) : Fr [(22, 999), (23, 999)] M M' := by
  unfold bb_X3_findsMate_21_22_23_0 at h
  rcases ite_ex h with ⟨hc, h⟩ | ⟨hc, h⟩
  · cases h
    exact Fr.refl
  · rcases ite_ex h with ⟨hc, h⟩ | ⟨hc, h⟩
    · cases h
      exact Fr.refl
    · rcases ite_ex h with ⟨hc, h⟩ | ⟨hc, h⟩
      · exact z_b_X3_findsMate_21_22_23_22 hrc _ _ _ _ _ _ _ h
      · cases h
        exact Fr.refl
theorem z_fr_X3_findsMate_21_22_23  : ∀ (n : Nat) (y0 : Int32) (y1 : Int32) (M : Mm) (v : Int32) (M' : Mm), fr_X3_findsMate_21_22_23 n y0 y1 M = some (v, M') → Fr [(22, 999), (23, 999)] M M' := by
  intro n
  induction n with
  | zero =>
    intro y0 y1 M v M' h
    have h : (none : Option _) = some _ := h
    cases h
  | succ n ih =>
    intro y0 y1 M v M' h
    exact z_bb_X3_findsMate_21_22_23_0 (fun y0 y1 M v M' h => ih y0 y1 M v M' h) h
theorem z_f_X3_findsMate_21_22_23 {x3 : Int32} {x4 : Int32} {M : Mm} {v : Int32} {M' : Mm}  (h : f_X3_findsMate_21_22_23 x3 x4 M = some (v, M')) : Fr [(22, 999), (23, 999)] M M' := by
  unfold f_X3_findsMate_21_22_23 at h
  exact z_fr_X3_findsMate_21_22_23 _ _ _ _ _ _ h
theorem z_bb_X3_mostPairs_19_12 {k_12 : Int32 → Int32 → Mm → Option (Int32 × Mm)} {x1 : Int32} {x2 : Int32} {M : Mm} {v : Int32} {M' : Mm} (hk_12 : ∀ (y0 : Int32) (y1 : Int32) (N : Mm) (w : Int32) (N' : Mm), k_12 y0 y1 N = some (w, N') → Fr [(22, 999), (23, 999)] N N') (h : bb_X3_mostPairs_19_12 k_12 x1 x2 M = some (v, M')) : Fr [(22, 999), (23, 999)] M M' := by
  unfold bb_X3_mostPairs_19_12 at h
  rcases ite_ex h with ⟨hc, h⟩ | ⟨hc, h⟩
  · cases h
    exact Fr.refl
  · obtain ⟨M_4, hc, h⟩ := bd_ex h
    refine Fr.tr (Fr.sub (z_f_J7_fill_53178_23 hc) rfl) ?_
    obtain ⟨hg0, h⟩ := gd_ex h
    rcases ite_ex h with ⟨hc, h⟩ | ⟨hc, h⟩
    · obtain ⟨x2_6, _, h⟩ := ltv_ex h
      exact hk_12 _ _ _ _ _ h
    · obtain ⟨v_9, M_8, hc, h⟩ := bd2_ex h
      refine Fr.tr (Fr.sub (z_f_X3_findsMate_21_22_23 hc) rfl) ?_
      rcases ite_ex h with ⟨hc, h⟩ | ⟨hc, h⟩
      · obtain ⟨x2_10, _, h⟩ := ltv_ex h
        exact hk_12 _ _ _ _ _ h
      · obtain ⟨x1_11, _, h⟩ := ltv_ex h
        obtain ⟨x2_12, _, h⟩ := ltv_ex h
        exact hk_12 _ _ _ _ _ h
theorem z_b_X3_mostPairs_19_12  : ∀ (n : Nat) (y0 : Int32) (y1 : Int32) (M : Mm) (v : Int32) (M' : Mm), b_X3_mostPairs_19_12 n y0 y1 M = some (v, M') → Fr [(22, 999), (23, 999)] M M' := by
  intro n
  induction n with
  | zero =>
    intro y0 y1 M v M' h
    have h : (none : Option _) = some _ := h
    cases h
  | succ n ih =>
    intro y0 y1 M v M' h
    exact z_bb_X3_mostPairs_19_12 (fun y0 y1 M v M' h => ih y0 y1 M v M' h) h
theorem z_bb_X3_mostPairs_19_0 {M : Mm} {v : Int32} {M' : Mm}  (h : bb_X3_mostPairs_19_0 M = some (v, M')) : Fr [(22, 999), (23, 999)] M M' := by
  unfold bb_X3_mostPairs_19_0 at h
  obtain ⟨M_2, hc, h⟩ := bd_ex h
  refine Fr.tr (Fr.sub (z_f_J7_fill_53178_22 hc) rfl) ?_
  exact z_b_X3_mostPairs_19_12 _ _ _ _ _ _ h
theorem z_f_X3_mostPairs_19 {M : Mm} {v : Int32} {M' : Mm}  (h : f_X3_mostPairs_19 M = some (v, M')) : Fr [(22, 999), (23, 999)] M M' := by
  unfold f_X3_mostPairs_19 at h
  exact z_bb_X3_mostPairs_19_0 h
theorem z_bb_X3_fewestWithout_19_59 {k_59 : Int64 → Int64 → Int64 → Int32 → Int32 → Mm → Option (Int32 × Mm)} {x3 : Int64} {x9 : Int64} {x11 : Int64} {x13 : Int32} {x14 : Int32} {M : Mm} {v : Int32} {M' : Mm} (hk_59 : ∀ (y0 : Int64) (y1 : Int64) (y2 : Int64) (y3 : Int32) (y4 : Int32) (N : Mm) (w : Int32) (N' : Mm), k_59 y0 y1 y2 y3 y4 N = some (w, N') → Fr [(21, 999), (22, 999), (23, 999)] N N') (h : bb_X3_fewestWithout_19_59 k_59 x3 x9 x11 x13 x14 M = some (v, M')) : Fr [(21, 999), (22, 999), (23, 999)] M M' := by
  unfold bb_X3_fewestWithout_19_59 at h
  rcases ite_ex h with ⟨hc, h⟩ | ⟨hc, h⟩
  · obtain ⟨M_7, hc, h⟩ := bd_ex h
    refine Fr.tr (Fr.sub (z_f_X3_layCrossings_19 hc) rfl) ?_
    obtain ⟨v_10, M_9, hc, h⟩ := bd2_ex h
    refine Fr.tr (Fr.sub (z_f_X3_mostPairs_19 hc) rfl) ?_
    cases h
    exact Fr.refl
  · rcases ite_ex h with ⟨hc, h⟩ | ⟨hc, h⟩
    · obtain ⟨hg0, h⟩ := gd_ex h
      rcases ite_ex h with ⟨hc, h⟩ | ⟨hc, h⟩
      · obtain ⟨x14_13, _, h⟩ := ltv_ex h
        exact hk_59 _ _ _ _ _ _ _ _ h
      · obtain ⟨x13_14, _, h⟩ := ltv_ex h
        obtain ⟨hg1, h⟩ := gd_ex h
        obtain ⟨x11_16, _, h⟩ := ltv_ex h
        obtain ⟨x14_17, _, h⟩ := ltv_ex h
        exact hk_59 _ _ _ _ _ _ _ _ h
    · obtain ⟨x14_11, _, h⟩ := ltv_ex h
      exact hk_59 _ _ _ _ _ _ _ _ h
theorem z_b_X3_fewestWithout_19_59  : ∀ (n : Nat) (y0 : Int64) (y1 : Int64) (y2 : Int64) (y3 : Int32) (y4 : Int32) (M : Mm) (v : Int32) (M' : Mm), b_X3_fewestWithout_19_59 n y0 y1 y2 y3 y4 M = some (v, M') → Fr [(21, 999), (22, 999), (23, 999)] M M' := by
  intro n
  induction n with
  | zero =>
    intro y0 y1 y2 y3 y4 M v M' h
    have h : (none : Option _) = some _ := h
    cases h
  | succ n ih =>
    intro y0 y1 y2 y3 y4 M v M' h
    exact z_bb_X3_fewestWithout_19_59 (fun y0 y1 y2 y3 y4 M v M' h => ih y0 y1 y2 y3 y4 M v M' h) h
theorem z_bb_X3_fewestWithout_19_0 {x1 : Int64} {x3 : Int64} {M : Mm} {v : Int32} {M' : Mm}  (h : bb_X3_fewestWithout_19_0 x1 x3 M = some (v, M')) : Fr [(21, 999), (22, 999), (23, 999)] M M' := by
  unfold bb_X3_fewestWithout_19_0 at h
  obtain ⟨v_2, _, h⟩ := bd_ex h
  obtain ⟨v_4, _, h⟩ := bd_ex h
  rcases ite_ex h with ⟨hc, h⟩ | ⟨hc, h⟩
  · obtain ⟨x9_5, _, h⟩ := ltv_ex h
    exact z_b_X3_fewestWithout_19_59 _ _ _ _ _ _ _ _ _ h
  · cases h
    exact Fr.refl
theorem z_f_X3_fewestWithout_19 {x1 : Int64} {x3 : Int64} {M : Mm} {v : Int32} {M' : Mm}  (h : f_X3_fewestWithout_19 x1 x3 M = some (v, M')) : Fr [(21, 999), (22, 999), (23, 999)] M M' := by
  unfold f_X3_fewestWithout_19 at h
  exact z_bb_X3_fewestWithout_19_0 h
theorem z_bb_X3_fewest_19_0 {x1 : Int64} {M : Mm} {v : Int32} {M' : Mm}  (h : bb_X3_fewest_19_0 x1 M = some (v, M')) : Fr [(21, 999), (22, 999), (23, 999)] M M' := by
  unfold bb_X3_fewest_19_0 at h
  obtain ⟨v_3, M_2, hc, h⟩ := bd2_ex h
  refine Fr.tr (Fr.sub (z_f_X3_fewestWithout_19 hc) rfl) ?_
  cases h
  exact Fr.refl
theorem z_f_X3_fewest_19 {x1 : Int64} {M : Mm} {v : Int32} {M' : Mm}  (h : f_X3_fewest_19 x1 M = some (v, M')) : Fr [(21, 999), (22, 999), (23, 999)] M M' := by
  unfold f_X3_fewest_19 at h
  exact z_bb_X3_fewest_19_0 h
theorem z_bb_X3_leastSet_19_63 {k_16 : Int64 → Int32 → Int64 → Int64 → Int32 → Mm → Option (Int64 × Mm)} {x1 : Int64} {x3 : Int32} {x4 : Int64} {x6 : Int64} {x8 : Int32} {M : Mm} {v : Int64} {M' : Mm} (hk_16 : ∀ (y0 : Int64) (y1 : Int32) (y2 : Int64) (y3 : Int64) (y4 : Int32) (N : Mm) (w : Int64) (N' : Mm), k_16 y0 y1 y2 y3 y4 N = some (w, N') → Fr [(21, 999), (22, 999), (23, 999)] N N') (h : bb_X3_leastSet_19_63 k_16 x1 x3 x4 x6 x8 M = some (v, M')) : Fr [(21, 999), (22, 999), (23, 999)] M M' := by
  unfold bb_X3_leastSet_19_63 at h
  obtain ⟨x4_10, _, h⟩ := ltv_ex h
  obtain ⟨x8_11, _, h⟩ := ltv_ex h
  exact hk_16 _ _ _ _ _ _ _ _ h
theorem z_bb_X3_leastSet_19_40 {k_16 : Int64 → Int32 → Int64 → Int64 → Int32 → Mm → Option (Int64 × Mm)} {x1 : Int64} {x3 : Int32} {x4 : Int64} {x6 : Int64} {x8 : Int32} {s0 : Int32} {M : Mm} {v : Int64} {M' : Mm} (hk_16 : ∀ (y0 : Int64) (y1 : Int32) (y2 : Int64) (y3 : Int64) (y4 : Int32) (N : Mm) (w : Int64) (N' : Mm), k_16 y0 y1 y2 y3 y4 N = some (w, N') → Fr [(21, 999), (22, 999), (23, 999)] N N') (h : bb_X3_leastSet_19_40 k_16 x1 x3 x4 x6 x8 s0 M = some (v, M')) : Fr [(21, 999), (22, 999), (23, 999)] M M' := by
  unfold bb_X3_leastSet_19_40 at h
  rcases ite_ex h with ⟨hc, h⟩ | ⟨hc, h⟩
  · obtain ⟨v_7, M_6, hc, h⟩ := bd2_ex h
    refine Fr.tr (Fr.sub (z_f_X3_fewestWithout_19 hc) rfl) ?_
    rcases ite_ex h with ⟨hc, h⟩ | ⟨hc, h⟩
    · exact z_bb_X3_leastSet_19_63 hk_16 h
    · obtain ⟨x6_8, _, h⟩ := ltv_ex h
      obtain ⟨x8_9, _, h⟩ := ltv_ex h
      exact hk_16 _ _ _ _ _ _ _ _ h
  · exact z_bb_X3_leastSet_19_63 hk_16 h
theorem z_bb_X3_leastSet_19_16 {k_16 : Int64 → Int32 → Int64 → Int64 → Int32 → Mm → Option (Int64 × Mm)} {x1 : Int64} {x3 : Int32} {x4 : Int64} {x6 : Int64} {x8 : Int32} {M : Mm} {v : Int64} {M' : Mm} (hk_16 : ∀ (y0 : Int64) (y1 : Int32) (y2 : Int64) (y3 : Int64) (y4 : Int32) (N : Mm) (w : Int64) (N' : Mm), k_16 y0 y1 y2 y3 y4 N = some (w, N') → Fr [(21, 999), (22, 999), (23, 999)] N N') (h : bb_X3_leastSet_19_16 k_16 x1 x3 x4 x6 x8 M = some (v, M')) : Fr [(21, 999), (22, 999), (23, 999)] M M' := by
  unfold bb_X3_leastSet_19_16 at h
  rcases ite_ex h with ⟨hc, h⟩ | ⟨hc, h⟩
  · cases h
    exact Fr.refl
  · obtain ⟨hg0, h⟩ := gd_ex h
    rcases ite_ex h with ⟨hc, h⟩ | ⟨hc, h⟩
    · exact z_bb_X3_leastSet_19_40 hk_16 h
    · exact z_bb_X3_leastSet_19_40 hk_16 h
theorem z_b_X3_leastSet_19_16  : ∀ (n : Nat) (y0 : Int64) (y1 : Int32) (y2 : Int64) (y3 : Int64) (y4 : Int32) (M : Mm) (v : Int64) (M' : Mm), b_X3_leastSet_19_16 n y0 y1 y2 y3 y4 M = some (v, M') → Fr [(21, 999), (22, 999), (23, 999)] M M' := by
  intro n
  induction n with
  | zero =>
    intro y0 y1 y2 y3 y4 M v M' h
    have h : (none : Option _) = some _ := h
    cases h
  | succ n ih =>
    intro y0 y1 y2 y3 y4 M v M' h
    exact z_bb_X3_leastSet_19_16 (fun y0 y1 y2 y3 y4 M v M' h => ih y0 y1 y2 y3 y4 M v M' h) h
theorem z_bb_X3_leastSet_19_0 {x1 : Int64} {M : Mm} {v : Int64} {M' : Mm}  (h : bb_X3_leastSet_19_0 x1 M = some (v, M')) : Fr [(21, 999), (22, 999), (23, 999)] M M' := by
  unfold bb_X3_leastSet_19_0 at h
  obtain ⟨v_3, M_2, hc, h⟩ := bd2_ex h
  refine Fr.tr (Fr.sub (z_f_X3_fewest_19 hc) rfl) ?_
  exact z_b_X3_leastSet_19_16 _ _ _ _ _ _ _ _ _ h
theorem z_f_X3_leastSet_19 {x1 : Int64} {M : Mm} {v : Int64} {M' : Mm}  (h : f_X3_leastSet_19 x1 M = some (v, M')) : Fr [(21, 999), (22, 999), (23, 999)] M M' := by
  unfold f_X3_leastSet_19 at h
  exact z_bb_X3_leastSet_19_0 h
theorem z_bb_J7_fill_53178_29_5 {k_5 : Int32 → Int32 → Int32 → Mm → Option Mm} {x1 : Int32} {x2 : Int32} {x3 : Int32} {M : Mm} {M' : Mm} (hk_5 : ∀ (y0 : Int32) (y1 : Int32) (y2 : Int32) (N : Mm) (N' : Mm), k_5 y0 y1 y2 N = some N' → Fr [(29, 999)] N N') (h : bb_J7_fill_53178_29_5 k_5 x1 x2 x3 M = some M') : Fr [(29, 999)] M M' := by
  unfold bb_J7_fill_53178_29_5 at h
  rcases ite_ex h with ⟨hc, h⟩ | ⟨hc, h⟩
  · cases h
    exact Fr.refl
  · obtain ⟨hg0, h⟩ := gd_ex h
    obtain ⟨M_2, he, h⟩ := ltv_ex h
    refine Fr.tr (M1 := M_2) (by rw [he]; exact Fr.wIa rfl) ?_
    obtain ⟨x2_3, _, h⟩ := ltv_ex h
    exact hk_5 _ _ _ _ _ h
theorem z_b_J7_fill_53178_29_5  : ∀ (n : Nat) (y0 : Int32) (y1 : Int32) (y2 : Int32) (M : Mm) (M' : Mm), b_J7_fill_53178_29_5 n y0 y1 y2 M = some M' → Fr [(29, 999)] M M' := by
  intro n
  induction n with
  | zero =>
    intro y0 y1 y2 M M' h
    have h : (none : Option _) = some _ := h
    cases h
  | succ n ih =>
    intro y0 y1 y2 M M' h
    exact z_bb_J7_fill_53178_29_5 (fun y0 y1 y2 M M' h => ih y0 y1 y2 M M' h) h
theorem z_bb_J7_fill_53178_29_0 {x1 : Int32} {M : Mm} {M' : Mm}  (h : bb_J7_fill_53178_29_0 x1 M = some M') : Fr [(29, 999)] M M' := by
  unfold bb_J7_fill_53178_29_0 at h
  exact z_b_J7_fill_53178_29_5 _ _ _ _ _ _ h
theorem z_f_J7_fill_53178_29 {x1 : Int32} {M : Mm} {M' : Mm}  (h : f_J7_fill_53178_29 x1 M = some M') : Fr [(29, 999)] M M' := by
  unfold f_J7_fill_53178_29 at h
  exact z_bb_J7_fill_53178_29_0 h
theorem z_bb_X4_turnsInto_25_29 {k_29 : Int32 → Int64 → Int64 → Int32 → Mm → Option Mm} {x3 : Int32} {x4 : Int64} {x6 : Int64} {x8 : Int32} {M : Mm} {M' : Mm} (hk_29 : ∀ (y0 : Int32) (y1 : Int64) (y2 : Int64) (y3 : Int32) (N : Mm) (N' : Mm), k_29 y0 y1 y2 y3 N = some N' → Fr [(25, 999)] N N') (h : bb_X4_turnsInto_25_29 k_29 x3 x4 x6 x8 M = some M') : Fr [(25, 999)] M M' := by
  unfold bb_X4_turnsInto_25_29 at h
  rcases ite_ex h with ⟨hc, h⟩ | ⟨hc, h⟩
  · cases h
    exact Fr.refl
  · obtain ⟨v_4, _, h⟩ := bd_ex h
    obtain ⟨hg0, h⟩ := gd_ex h
    obtain ⟨M_6, he, h⟩ := ltv_ex h
    refine Fr.tr (M1 := M_6) (by rw [he]; exact Fr.wJa rfl) ?_
    obtain ⟨v_8, _, h⟩ := bd_ex h
    obtain ⟨hg1, h⟩ := gd_ex h
    obtain ⟨M_10, he, h⟩ := ltv_ex h
    refine Fr.tr (M1 := M_10) (by rw [he]; exact Fr.wJa rfl) ?_
    obtain ⟨v_12, _, h⟩ := bd_ex h
    obtain ⟨v_14, _, h⟩ := bd_ex h
    obtain ⟨x8_15, _, h⟩ := ltv_ex h
    exact hk_29 _ _ _ _ _ _ h
theorem z_b_X4_turnsInto_25_29  : ∀ (n : Nat) (y0 : Int32) (y1 : Int64) (y2 : Int64) (y3 : Int32) (M : Mm) (M' : Mm), b_X4_turnsInto_25_29 n y0 y1 y2 y3 M = some M' → Fr [(25, 999)] M M' := by
  intro n
  induction n with
  | zero =>
    intro y0 y1 y2 y3 M M' h
    have h : (none : Option _) = some _ := h
    cases h
  | succ n ih =>
    intro y0 y1 y2 y3 M M' h
    exact z_bb_X4_turnsInto_25_29 (fun y0 y1 y2 y3 M M' h => ih y0 y1 y2 y3 M M' h) h
theorem z_bb_X4_turnsInto_25_0 {x0 : Int64} {x3 : Int32} {M : Mm} {M' : Mm}  (h : bb_X4_turnsInto_25_0 x0 x3 M = some M') : Fr [(25, 999)] M M' := by
  unfold bb_X4_turnsInto_25_0 at h
  rcases ite_ex h with ⟨hc, h⟩ | ⟨hc, h⟩
  · cases h
    exact Fr.refl
  · rcases ite_ex h with ⟨hc, h⟩ | ⟨hc, h⟩
    · obtain ⟨v_2, _, h⟩ := bd_ex h
      exact z_b_X4_turnsInto_25_29 _ _ _ _ _ _ _ h
    · cases h
      exact Fr.refl
theorem z_f_X4_turnsInto_25 {x0 : Int64} {x3 : Int32} {M : Mm} {M' : Mm}  (h : f_X4_turnsInto_25 x0 x3 M = some M') : Fr [(25, 999)] M M' := by
  unfold f_X4_turnsInto_25 at h
  exact z_bb_X4_turnsInto_25_0 h
theorem z_bb_X1_lay_24_11_15 {k_15 : Int32 → Mm → Option Mm} {x2 : Int32} {M : Mm} {M' : Mm} (hk_15 : ∀ (y0 : Int32) (N : Mm) (N' : Mm), k_15 y0 N = some N' → Fr [(24, 5), (25, 999), (29, 999)] N N') (h : bb_X1_lay_24_11_15 k_15 x2 M = some M') : Fr [(24, 5), (25, 999), (29, 999)] M M' := by
  unfold bb_X1_lay_24_11_15 at h
  rcases ite_ex h with ⟨hc, h⟩ | ⟨hc, h⟩
  · obtain ⟨M_3, hc, h⟩ := bd_ex h
    refine Fr.tr (Fr.sub (z_f_J7_fill_53178_29 hc) rfl) ?_
    cases h
    exact Fr.refl
  · obtain ⟨hg0, h⟩ := gd_ex h
    obtain ⟨M_6, hc, h⟩ := bd_ex h
    refine Fr.tr (Fr.sub (z_f_X4_turnsInto_25 hc) rfl) ?_
    obtain ⟨x2_7, _, h⟩ := ltv_ex h
    exact hk_15 _ _ _ h
theorem z_b_X1_lay_24_11_15  : ∀ (n : Nat) (y0 : Int32) (M : Mm) (M' : Mm), b_X1_lay_24_11_15 n y0 M = some M' → Fr [(24, 5), (25, 999), (29, 999)] M M' := by
  intro n
  induction n with
  | zero =>
    intro y0 M M' h
    have h : (none : Option _) = some _ := h
    cases h
  | succ n ih =>
    intro y0 M M' h
    exact z_bb_X1_lay_24_11_15 (fun y0 M M' h => ih y0 M M' h) h
theorem z_bb_X1_lay_24_11_0 {M : Mm} {M' : Mm}  (h : bb_X1_lay_24_11_0 M = some M') : Fr [(24, 5), (25, 999), (29, 999)] M M' := by
  unfold bb_X1_lay_24_11_0 at h
  obtain ⟨M_1, he, h⟩ := ltv_ex h
  refine Fr.tr (M1 := M_1) (by rw [he]; exact Fr.wrI rfl) ?_
  exact z_b_X1_lay_24_11_15 _ _ _ _ h
theorem z_f_X1_lay_24_11 {M : Mm} {M' : Mm}  (h : f_X1_lay_24_11 M = some M') : Fr [(24, 5), (25, 999), (29, 999)] M M' := by
  unfold f_X1_lay_24_11 at h
  exact z_bb_X1_lay_24_11_0 h
theorem z_bb_X1_layServing_24_25 {k_5 : Int32 → Int32 → Int32 → Int32 → Mm → Option Mm} {k_25 : Int32 → Int32 → Int32 → Int32 → Int32 → Mm → Option Mm} {x1 : Int32} {x2 : Int32} {x3 : Int32} {x4 : Int32} {x5 : Int32} {M : Mm} {M' : Mm} (hk_5 : ∀ (y0 : Int32) (y1 : Int32) (y2 : Int32) (y3 : Int32) (N : Mm) (N' : Mm), k_5 y0 y1 y2 y3 N = some N' → Fr [(27, 999), (28, 999)] N N') (hk_25 : ∀ (y0 : Int32) (y1 : Int32) (y2 : Int32) (y3 : Int32) (y4 : Int32) (N : Mm) (N' : Mm), k_25 y0 y1 y2 y3 y4 N = some N' → Fr [(27, 999), (28, 999)] N N') (h : bb_X1_layServing_24_25 k_5 k_25 x1 x2 x3 x4 x5 M = some M') : Fr [(27, 999), (28, 999)] M M' := by
  unfold bb_X1_layServing_24_25 at h
  rcases ite_ex h with ⟨hc, h⟩ | ⟨hc, h⟩
  · obtain ⟨hg0, h⟩ := gd_ex h
    obtain ⟨x3_4, _, h⟩ := ltv_ex h
    obtain ⟨hg1, h⟩ := gd_ex h
    obtain ⟨M_6, he, h⟩ := ltv_ex h
    refine Fr.tr (M1 := M_6) (by rw [he]; exact Fr.wIa rfl) ?_
    obtain ⟨x4_7, _, h⟩ := ltv_ex h
    exact hk_5 _ _ _ _ _ _ h
  · obtain ⟨v_9, _, h⟩ := bd_ex h
    rcases ite_ex h with ⟨hc, h⟩ | ⟨hc, h⟩
    · obtain ⟨x5_10, _, h⟩ := ltv_ex h
      exact hk_25 _ _ _ _ _ _ _ h
    · obtain ⟨hg0, h⟩ := gd_ex h
      obtain ⟨hg1, h⟩ := gd_ex h
      obtain ⟨M_13, he, h⟩ := ltv_ex h
      refine Fr.tr (M1 := M_13) (by rw [he]; exact Fr.wIa rfl) ?_
      obtain ⟨x5_14, _, h⟩ := ltv_ex h
      exact hk_25 _ _ _ _ _ _ _ h
theorem z_b_X1_layServing_24_25 {k_5 : Int32 → Int32 → Int32 → Int32 → Mm → Option Mm} (hk_5 : ∀ (y0 : Int32) (y1 : Int32) (y2 : Int32) (y3 : Int32) (N : Mm) (N' : Mm), k_5 y0 y1 y2 y3 N = some N' → Fr [(27, 999), (28, 999)] N N') : ∀ (n : Nat) (y0 : Int32) (y1 : Int32) (y2 : Int32) (y3 : Int32) (y4 : Int32) (M : Mm) (M' : Mm), b_X1_layServing_24_25 k_5 n y0 y1 y2 y3 y4 M = some M' → Fr [(27, 999), (28, 999)] M M' := by
  intro n
  induction n with
  | zero =>
    intro y0 y1 y2 y3 y4 M M' h
    have h : (none : Option _) = some _ := h
    cases h
  | succ n ih =>
    intro y0 y1 y2 y3 y4 M M' h
    exact z_bb_X1_layServing_24_25 hk_5 (fun y0 y1 y2 y3 y4 M M' h => ih y0 y1 y2 y3 y4 M M' h) h
theorem z_bb_X1_layServing_24_5 {k_5 : Int32 → Int32 → Int32 → Int32 → Mm → Option Mm} {x1 : Int32} {x2 : Int32} {x3 : Int32} {x4 : Int32} {M : Mm} {M' : Mm} (hk_5 : ∀ (y0 : Int32) (y1 : Int32) (y2 : Int32) (y3 : Int32) (N : Mm) (N' : Mm), k_5 y0 y1 y2 y3 N = some N' → Fr [(27, 999), (28, 999)] N N') (h : bb_X1_layServing_24_5 k_5 x1 x2 x3 x4 M = some M') : Fr [(27, 999), (28, 999)] M M' := by
  unfold bb_X1_layServing_24_5 at h
  rcases ite_ex h with ⟨hc, h⟩ | ⟨hc, h⟩
  · cases h
    exact Fr.refl
  · obtain ⟨hg0, h⟩ := gd_ex h
    obtain ⟨M_2, he, h⟩ := ltv_ex h
    refine Fr.tr (M1 := M_2) (by rw [he]; exact Fr.wIa rfl) ?_
    exact z_b_X1_layServing_24_25 hk_5 _ _ _ _ _ _ _ _ h
theorem z_b_X1_layServing_24_5  : ∀ (n : Nat) (y0 : Int32) (y1 : Int32) (y2 : Int32) (y3 : Int32) (M : Mm) (M' : Mm), b_X1_layServing_24_5 n y0 y1 y2 y3 M = some M' → Fr [(27, 999), (28, 999)] M M' := by
  intro n
  induction n with
  | zero =>
    intro y0 y1 y2 y3 M M' h
    have h : (none : Option _) = some _ := h
    cases h
  | succ n ih =>
    intro y0 y1 y2 y3 M M' h
    exact z_bb_X1_layServing_24_5 (fun y0 y1 y2 y3 M M' h => ih y0 y1 y2 y3 M M' h) h
theorem z_bb_X1_layServing_24_0 {x1 : Int32} {x2 : Int32} {M : Mm} {M' : Mm}  (h : bb_X1_layServing_24_0 x1 x2 M = some M') : Fr [(27, 999), (28, 999)] M M' := by
  unfold bb_X1_layServing_24_0 at h
  exact z_b_X1_layServing_24_5 _ _ _ _ _ _ _ h
theorem z_f_X1_layServing_24 {x1 : Int32} {x2 : Int32} {M : Mm} {M' : Mm}  (h : f_X1_layServing_24 x1 x2 M = some M') : Fr [(27, 999), (28, 999)] M M' := by
  unfold f_X1_layServing_24 at h
  exact z_bb_X1_layServing_24_0 h
theorem z_bb_X1_leastSet_24_12 {x1 : Int32} {x2 : Int32} {s0 : Int32} {s1 : Int32} {M : Mm} {v : Int32} {M' : Mm}  (h : bb_X1_leastSet_24_12 x1 x2 s0 s1 M = some (v, M')) : Fr [(27, 999), (28, 999), (29, 999)] M M' := by
  unfold bb_X1_leastSet_24_12 at h
  obtain ⟨x3_1, _, h⟩ := ltv_ex h
  rcases ite_ex h with ⟨hc, h⟩ | ⟨hc, h⟩
  · cases h
    exact Fr.refl
  · rcases ite_ex h with ⟨hc, h⟩ | ⟨hc, h⟩
    · obtain ⟨hg0, h⟩ := gd_ex h
      rcases ite_ex h with ⟨hc, h⟩ | ⟨hc, h⟩
      · obtain ⟨M_5, hc, h⟩ := bd_ex h
        refine Fr.tr (Fr.sub (z_f_X1_layServing_24 hc) rfl) ?_
        obtain ⟨v_7, _, h⟩ := bd_ex h
        obtain ⟨hg1, h⟩ := gd_ex h
        obtain ⟨M_9, he, h⟩ := ltv_ex h
        refine Fr.tr (M1 := M_9) (by rw [he]; exact Fr.wIa rfl) ?_
        obtain ⟨hg2, h⟩ := gd_ex h
        cases h
        exact Fr.refl
      · obtain ⟨hg1, h⟩ := gd_ex h
        cases h
        exact Fr.refl
    · cases h
      exact Fr.refl
theorem z_bb_X1_leastSet_24_0 {x1 : Int32} {x2 : Int32} {M : Mm} {v : Int32} {M' : Mm}  (h : bb_X1_leastSet_24_0 x1 x2 M = some (v, M')) : Fr [(27, 999), (28, 999), (29, 999)] M M' := by
  unfold bb_X1_leastSet_24_0 at h
  rcases ite_ex h with ⟨hc, h⟩ | ⟨hc, h⟩
  · exact z_bb_X1_leastSet_24_12 h
  · exact z_bb_X1_leastSet_24_12 h
theorem z_f_X1_leastSet_24 {x1 : Int32} {x2 : Int32} {M : Mm} {v : Int32} {M' : Mm}  (h : f_X1_leastSet_24 x1 x2 M = some (v, M')) : Fr [(27, 999), (28, 999), (29, 999)] M M' := by
  unfold f_X1_leastSet_24 at h
  exact z_bb_X1_leastSet_24_0 h
theorem z_bb_X1_serverOf_24_11 {k_11 : Int32 → Int32 → Int32 → Int32 → Int32 → Mm → Option (Int32 × Mm)} {x1 : Int32} {x2 : Int32} {x3 : Int32} {x4 : Int32} {x5 : Int32} {M : Mm} {v : Int32} {M' : Mm} (hk_11 : ∀ (y0 : Int32) (y1 : Int32) (y2 : Int32) (y3 : Int32) (y4 : Int32) (N : Mm) (w : Int32) (N' : Mm), k_11 y0 y1 y2 y3 y4 N = some (w, N') → Fr [(27, 999), (28, 999), (29, 999)] N N') (h : bb_X1_serverOf_24_11 k_11 x1 x2 x3 x4 x5 M = some (v, M')) : Fr [(27, 999), (28, 999), (29, 999)] M M' := by
  unfold bb_X1_serverOf_24_11 at h
  rcases ite_ex h with ⟨hc, h⟩ | ⟨hc, h⟩
  · cases h
    exact Fr.refl
  · rcases ite_ex h with ⟨hc, h⟩ | ⟨hc, h⟩
    · obtain ⟨x5_4, _, h⟩ := ltv_ex h
      exact hk_11 _ _ _ _ _ _ _ _ h
    · obtain ⟨v_6, _, h⟩ := bd_ex h
      rcases ite_ex h with ⟨hc, h⟩ | ⟨hc, h⟩
      · obtain ⟨x5_7, _, h⟩ := ltv_ex h
        exact hk_11 _ _ _ _ _ _ _ _ h
      · cases h
        exact Fr.refl
theorem z_b_X1_serverOf_24_11  : ∀ (n : Nat) (y0 : Int32) (y1 : Int32) (y2 : Int32) (y3 : Int32) (y4 : Int32) (M : Mm) (v : Int32) (M' : Mm), b_X1_serverOf_24_11 n y0 y1 y2 y3 y4 M = some (v, M') → Fr [(27, 999), (28, 999), (29, 999)] M M' := by
  intro n
  induction n with
  | zero =>
    intro y0 y1 y2 y3 y4 M v M' h
    have h : (none : Option _) = some _ := h
    cases h
  | succ n ih =>
    intro y0 y1 y2 y3 y4 M v M' h
    exact z_bb_X1_serverOf_24_11 (fun y0 y1 y2 y3 y4 M v M' h => ih y0 y1 y2 y3 y4 M v M' h) h
theorem z_bb_X1_serverOf_24_0 {x1 : Int32} {x2 : Int32} {x3 : Int32} {M : Mm} {v : Int32} {M' : Mm}  (h : bb_X1_serverOf_24_0 x1 x2 x3 M = some (v, M')) : Fr [(27, 999), (28, 999), (29, 999)] M M' := by
  unfold bb_X1_serverOf_24_0 at h
  obtain ⟨v_3, M_2, hc, h⟩ := bd2_ex h
  refine Fr.tr (Fr.sub (z_f_X1_leastSet_24 hc) rfl) ?_
  exact z_b_X1_serverOf_24_11 _ _ _ _ _ _ _ _ _ h
theorem z_f_X1_serverOf_24 {x1 : Int32} {x2 : Int32} {x3 : Int32} {M : Mm} {v : Int32} {M' : Mm}  (h : f_X1_serverOf_24 x1 x2 x3 M = some (v, M')) : Fr [(27, 999), (28, 999), (29, 999)] M M' := by
  unfold f_X1_serverOf_24 at h
  exact z_bb_X1_serverOf_24_0 h
theorem z_bb_X4_turnsInto_26_29 {k_29 : Int32 → Int64 → Int64 → Int32 → Mm → Option Mm} {x3 : Int32} {x4 : Int64} {x6 : Int64} {x8 : Int32} {M : Mm} {M' : Mm} (hk_29 : ∀ (y0 : Int32) (y1 : Int64) (y2 : Int64) (y3 : Int32) (N : Mm) (N' : Mm), k_29 y0 y1 y2 y3 N = some N' → Fr [(26, 999)] N N') (h : bb_X4_turnsInto_26_29 k_29 x3 x4 x6 x8 M = some M') : Fr [(26, 999)] M M' := by
  unfold bb_X4_turnsInto_26_29 at h
  rcases ite_ex h with ⟨hc, h⟩ | ⟨hc, h⟩
  · cases h
    exact Fr.refl
  · obtain ⟨v_4, _, h⟩ := bd_ex h
    obtain ⟨hg0, h⟩ := gd_ex h
    obtain ⟨M_6, he, h⟩ := ltv_ex h
    refine Fr.tr (M1 := M_6) (by rw [he]; exact Fr.wJa rfl) ?_
    obtain ⟨v_8, _, h⟩ := bd_ex h
    obtain ⟨hg1, h⟩ := gd_ex h
    obtain ⟨M_10, he, h⟩ := ltv_ex h
    refine Fr.tr (M1 := M_10) (by rw [he]; exact Fr.wJa rfl) ?_
    obtain ⟨v_12, _, h⟩ := bd_ex h
    obtain ⟨v_14, _, h⟩ := bd_ex h
    obtain ⟨x8_15, _, h⟩ := ltv_ex h
    exact hk_29 _ _ _ _ _ _ h
theorem z_b_X4_turnsInto_26_29  : ∀ (n : Nat) (y0 : Int32) (y1 : Int64) (y2 : Int64) (y3 : Int32) (M : Mm) (M' : Mm), b_X4_turnsInto_26_29 n y0 y1 y2 y3 M = some M' → Fr [(26, 999)] M M' := by
  intro n
  induction n with
  | zero =>
    intro y0 y1 y2 y3 M M' h
    have h : (none : Option _) = some _ := h
    cases h
  | succ n ih =>
    intro y0 y1 y2 y3 M M' h
    exact z_bb_X4_turnsInto_26_29 (fun y0 y1 y2 y3 M M' h => ih y0 y1 y2 y3 M M' h) h
theorem z_bb_X4_turnsInto_26_0 {x0 : Int64} {x3 : Int32} {M : Mm} {M' : Mm}  (h : bb_X4_turnsInto_26_0 x0 x3 M = some M') : Fr [(26, 999)] M M' := by
  unfold bb_X4_turnsInto_26_0 at h
  rcases ite_ex h with ⟨hc, h⟩ | ⟨hc, h⟩
  · cases h
    exact Fr.refl
  · rcases ite_ex h with ⟨hc, h⟩ | ⟨hc, h⟩
    · obtain ⟨v_2, _, h⟩ := bd_ex h
      exact z_b_X4_turnsInto_26_29 _ _ _ _ _ _ _ h
    · cases h
      exact Fr.refl
theorem z_f_X4_turnsInto_26 {x0 : Int64} {x3 : Int32} {M : Mm} {M' : Mm}  (h : f_X4_turnsInto_26 x0 x3 M = some M') : Fr [(26, 999)] M M' := by
  unfold f_X4_turnsInto_26 at h
  exact z_bb_X4_turnsInto_26_0 h
theorem z_bb_X1_hasLesserTwin_24_11_16 {k_16 : Int32 → Int32 → Int32 → Mm → Option (Int32 × Mm)} {x2 : Int32} {x3 : Int32} {x4 : Int32} {M : Mm} {v : Int32} {M' : Mm} (hk_16 : ∀ (y0 : Int32) (y1 : Int32) (y2 : Int32) (N : Mm) (w : Int32) (N' : Mm), k_16 y0 y1 y2 N = some (w, N') → Fr [(26, 999)] N N') (h : bb_X1_hasLesserTwin_24_11_16 k_16 x2 x3 x4 M = some (v, M')) : Fr [(26, 999)] M M' := by
  unfold bb_X1_hasLesserTwin_24_11_16 at h
  rcases ite_ex h with ⟨hc, h⟩ | ⟨hc, h⟩
  · cases h
    exact Fr.refl
  · obtain ⟨v_6, _, h⟩ := bd_ex h
    obtain ⟨v_8, _, h⟩ := bd_ex h
    rcases ite_ex h with ⟨hc, h⟩ | ⟨hc, h⟩
    · obtain ⟨x4_9, _, h⟩ := ltv_ex h
      exact hk_16 _ _ _ _ _ _ h
    · obtain ⟨v_11, _, h⟩ := bd_ex h
      rcases ite_ex h with ⟨hc, h⟩ | ⟨hc, h⟩
      · cases h
        exact Fr.refl
      · obtain ⟨x4_12, _, h⟩ := ltv_ex h
        exact hk_16 _ _ _ _ _ _ h
theorem z_b_X1_hasLesserTwin_24_11_16  : ∀ (n : Nat) (y0 : Int32) (y1 : Int32) (y2 : Int32) (M : Mm) (v : Int32) (M' : Mm), b_X1_hasLesserTwin_24_11_16 n y0 y1 y2 M = some (v, M') → Fr [(26, 999)] M M' := by
  intro n
  induction n with
  | zero =>
    intro y0 y1 y2 M v M' h
    have h : (none : Option _) = some _ := h
    cases h
  | succ n ih =>
    intro y0 y1 y2 M v M' h
    exact z_bb_X1_hasLesserTwin_24_11_16 (fun y0 y1 y2 M v M' h => ih y0 y1 y2 M v M' h) h
theorem z_bb_X1_hasLesserTwin_24_11_0 {x2 : Int32} {x3 : Int32} {M : Mm} {v : Int32} {M' : Mm}  (h : bb_X1_hasLesserTwin_24_11_0 x2 x3 M = some (v, M')) : Fr [(26, 999)] M M' := by
  unfold bb_X1_hasLesserTwin_24_11_0 at h
  obtain ⟨v_2, _, h⟩ := bd_ex h
  obtain ⟨M_4, hc, h⟩ := bd_ex h
  refine Fr.tr (Fr.sub (z_f_X4_turnsInto_26 hc) rfl) ?_
  exact z_b_X1_hasLesserTwin_24_11_16 _ _ _ _ _ _ _ h
theorem z_f_X1_hasLesserTwin_24_11 {x2 : Int32} {x3 : Int32} {M : Mm} {v : Int32} {M' : Mm}  (h : f_X1_hasLesserTwin_24_11 x2 x3 M = some (v, M')) : Fr [(26, 999)] M M' := by
  unfold f_X1_hasLesserTwin_24_11 at h
  exact z_bb_X1_hasLesserTwin_24_11_0 h
theorem z_bb_X1_originalLetters_24_11_5 {k_5 : Int32 → Int32 → Int32 → Mm → Option (Int32 × Mm)} {x2 : Int32} {x3 : Int32} {x4 : Int32} {M : Mm} {v : Int32} {M' : Mm} (hk_5 : ∀ (y0 : Int32) (y1 : Int32) (y2 : Int32) (N : Mm) (w : Int32) (N' : Mm), k_5 y0 y1 y2 N = some (w, N') → Fr [(26, 999)] N N') (h : bb_X1_originalLetters_24_11_5 k_5 x2 x3 x4 M = some (v, M')) : Fr [(26, 999)] M M' := by
  unfold bb_X1_originalLetters_24_11_5 at h
  rcases ite_ex h with ⟨hc, h⟩ | ⟨hc, h⟩
  · cases h
    exact Fr.refl
  · obtain ⟨v_2, _, h⟩ := bd_ex h
    rcases ite_ex h with ⟨hc, h⟩ | ⟨hc, h⟩
    · obtain ⟨x4_3, _, h⟩ := ltv_ex h
      exact hk_5 _ _ _ _ _ _ h
    · obtain ⟨v_6, M_5, hc, h⟩ := bd2_ex h
      refine Fr.tr (Fr.sub (z_f_X1_hasLesserTwin_24_11 hc) rfl) ?_
      rcases ite_ex h with ⟨hc, h⟩ | ⟨hc, h⟩
      · obtain ⟨x3_8, _, h⟩ := ltv_ex h
        obtain ⟨x4_9, _, h⟩ := ltv_ex h
        exact hk_5 _ _ _ _ _ _ h
      · obtain ⟨x4_7, _, h⟩ := ltv_ex h
        exact hk_5 _ _ _ _ _ _ h
theorem z_b_X1_originalLetters_24_11_5  : ∀ (n : Nat) (y0 : Int32) (y1 : Int32) (y2 : Int32) (M : Mm) (v : Int32) (M' : Mm), b_X1_originalLetters_24_11_5 n y0 y1 y2 M = some (v, M') → Fr [(26, 999)] M M' := by
  intro n
  induction n with
  | zero =>
    intro y0 y1 y2 M v M' h
    have h : (none : Option _) = some _ := h
    cases h
  | succ n ih =>
    intro y0 y1 y2 M v M' h
    exact z_bb_X1_originalLetters_24_11_5 (fun y0 y1 y2 M v M' h => ih y0 y1 y2 M v M' h) h
theorem z_bb_X1_originalLetters_24_11_0 {x2 : Int32} {M : Mm} {v : Int32} {M' : Mm}  (h : bb_X1_originalLetters_24_11_0 x2 M = some (v, M')) : Fr [(26, 999)] M M' := by
  unfold bb_X1_originalLetters_24_11_0 at h
  exact z_b_X1_originalLetters_24_11_5 _ _ _ _ _ _ _ h
theorem z_f_X1_originalLetters_24_11 {x2 : Int32} {M : Mm} {v : Int32} {M' : Mm}  (h : f_X1_originalLetters_24_11 x2 M = some (v, M')) : Fr [(26, 999)] M M' := by
  unfold f_X1_originalLetters_24_11 at h
  exact z_bb_X1_originalLetters_24_11_0 h
theorem z_bb_X2_add_30_112 {x1 : Int32} {x2 : Int32} {x3 : Int32} {x5 : Int32} {M : Mm} {M' : Mm}  (h : bb_X2_add_30_112 x1 x2 x3 x5 M = some M') : Fr [(30, 3), (30, 5), (31, 999), (32, 999), (33, 999)] M M' := by
  unfold bb_X2_add_30_112 at h
  obtain ⟨hg0, h⟩ := gd_ex h
  obtain ⟨M_16, he, h⟩ := ltv_ex h
  refine Fr.tr (M1 := M_16) (by rw [he]; exact Fr.wIa rfl) ?_
  obtain ⟨hg1, h⟩ := gd_ex h
  obtain ⟨M_18, he, h⟩ := ltv_ex h
  refine Fr.tr (M1 := M_18) (by rw [he]; exact Fr.wIa rfl) ?_
  obtain ⟨hg2, h⟩ := gd_ex h
  obtain ⟨M_20, he, h⟩ := ltv_ex h
  refine Fr.tr (M1 := M_20) (by rw [he]; exact Fr.wIa rfl) ?_
  obtain ⟨M_21, he, h⟩ := ltv_ex h
  refine Fr.tr (M1 := M_21) (by rw [he]; exact Fr.wrI rfl) ?_
  cases h
  exact Fr.refl
theorem z_bb_X2_add_30_21 {k_21 : Int32 → Int32 → Int32 → Int32 → Int32 → Mm → Option Mm} {x1 : Int32} {x2 : Int32} {x3 : Int32} {x4 : Int32} {x5 : Int32} {M : Mm} {M' : Mm} (hk_21 : ∀ (y0 : Int32) (y1 : Int32) (y2 : Int32) (y3 : Int32) (y4 : Int32) (N : Mm) (N' : Mm), k_21 y0 y1 y2 y3 y4 N = some N' → Fr [(30, 3), (30, 5), (31, 999), (32, 999), (33, 999)] N N') (h : bb_X2_add_30_21 k_21 x1 x2 x3 x4 x5 M = some M') : Fr [(30, 3), (30, 5), (31, 999), (32, 999), (33, 999)] M M' := by
  unfold bb_X2_add_30_21 at h
  rcases ite_ex h with ⟨hc, h⟩ | ⟨hc, h⟩
  · exact z_bb_X2_add_30_112 h
  · rcases ite_ex h with ⟨hc, h⟩ | ⟨hc, h⟩
    · exact z_bb_X2_add_30_112 h
    · obtain ⟨hg0, h⟩ := gd_ex h
      obtain ⟨hg1, h⟩ := gd_ex h
      rcases ite_ex h with ⟨hc, h⟩ | ⟨hc, h⟩
      · exact z_bb_X2_add_30_112 h
      · obtain ⟨hg2, h⟩ := gd_ex h
        obtain ⟨hg3, h⟩ := gd_ex h
        obtain ⟨M_7, he, h⟩ := ltv_ex h
        refine Fr.tr (M1 := M_7) (by rw [he]; exact Fr.wIa rfl) ?_
        obtain ⟨hg4, h⟩ := gd_ex h
        obtain ⟨hg5, h⟩ := gd_ex h
        obtain ⟨M_10, he, h⟩ := ltv_ex h
        refine Fr.tr (M1 := M_10) (by rw [he]; exact Fr.wIa rfl) ?_
        obtain ⟨hg6, h⟩ := gd_ex h
        obtain ⟨hg7, h⟩ := gd_ex h
        obtain ⟨M_13, he, h⟩ := ltv_ex h
        refine Fr.tr (M1 := M_13) (by rw [he]; exact Fr.wIa rfl) ?_
        obtain ⟨x5_14, _, h⟩ := ltv_ex h
        exact hk_21 _ _ _ _ _ _ _ h
theorem z_b_X2_add_30_21  : ∀ (n : Nat) (y0 : Int32) (y1 : Int32) (y2 : Int32) (y3 : Int32) (y4 : Int32) (M : Mm) (M' : Mm), b_X2_add_30_21 n y0 y1 y2 y3 y4 M = some M' → Fr [(30, 3), (30, 5), (31, 999), (32, 999), (33, 999)] M M' := by
  intro n
  induction n with
  | zero =>
    intro y0 y1 y2 y3 y4 M M' h
    have h : (none : Option _) = some _ := h
    cases h
  | succ n ih =>
    intro y0 y1 y2 y3 y4 M M' h
    exact z_bb_X2_add_30_21 (fun y0 y1 y2 y3 y4 M M' h => ih y0 y1 y2 y3 y4 M M' h) h
theorem z_bb_X2_add_30_0 {x1 : Int32} {x2 : Int32} {x3 : Int32} {x4 : Int32} {M : Mm} {M' : Mm}  (h : bb_X2_add_30_0 x1 x2 x3 x4 M = some M') : Fr [(30, 3), (30, 5), (31, 999), (32, 999), (33, 999)] M M' := by
  unfold bb_X2_add_30_0 at h
  rcases ite_ex h with ⟨hc, h⟩ | ⟨hc, h⟩
  · obtain ⟨x5_1, _, h⟩ := ltv_ex h
    exact z_b_X2_add_30_21 _ _ _ _ _ _ _ _ h
  · obtain ⟨M_2, he, h⟩ := ltv_ex h
    refine Fr.tr (M1 := M_2) (by rw [he]; exact Fr.wrI rfl) ?_
    cases h
    exact Fr.refl
theorem z_f_X2_add_30 {x1 : Int32} {x2 : Int32} {x3 : Int32} {x4 : Int32} {M : Mm} {M' : Mm}  (h : f_X2_add_30 x1 x2 x3 x4 M = some M') : Fr [(30, 3), (30, 5), (31, 999), (32, 999), (33, 999)] M M' := by
  unfold f_X2_add_30 at h
  exact z_bb_X2_add_30_0 h
theorem z_bb_X2_lay_30_11_13 {k_13 : Int32 → Int32 → Int32 → Mm → Option Mm} {x2 : Int32} {x3 : Int32} {x4 : Int32} {M : Mm} {M' : Mm} (hk_13 : ∀ (y0 : Int32) (y1 : Int32) (y2 : Int32) (N : Mm) (N' : Mm), k_13 y0 y1 y2 N = some N' → Fr [(30, 3), (30, 4), (30, 5), (31, 999), (32, 999), (33, 999)] N N') (h : bb_X2_lay_30_11_13 k_13 x2 x3 x4 M = some M') : Fr [(30, 3), (30, 4), (30, 5), (31, 999), (32, 999), (33, 999)] M M' := by
  unfold bb_X2_lay_30_11_13 at h
  rcases ite_ex h with ⟨hc, h⟩ | ⟨hc, h⟩
  · obtain ⟨M_3, he, h⟩ := ltv_ex h
    refine Fr.tr (M1 := M_3) (by rw [he]; exact Fr.wrI rfl) ?_
    cases h
    exact Fr.refl
  · obtain ⟨hg0, h⟩ := gd_ex h
    rcases ite_ex h with ⟨hc, h⟩ | ⟨hc, h⟩
    · obtain ⟨hg1, h⟩ := gd_ex h
      obtain ⟨v_8, _, h⟩ := bd_ex h
      obtain ⟨M_10, hc, h⟩ := bd_ex h
      refine Fr.tr (Fr.sub (z_f_X2_add_30 hc) rfl) ?_
      obtain ⟨x4_11, _, h⟩ := ltv_ex h
      exact hk_13 _ _ _ _ _ h
    · obtain ⟨x4_5, _, h⟩ := ltv_ex h
      exact hk_13 _ _ _ _ _ h
theorem z_b_X2_lay_30_11_13  : ∀ (n : Nat) (y0 : Int32) (y1 : Int32) (y2 : Int32) (M : Mm) (M' : Mm), b_X2_lay_30_11_13 n y0 y1 y2 M = some M' → Fr [(30, 3), (30, 4), (30, 5), (31, 999), (32, 999), (33, 999)] M M' := by
  intro n
  induction n with
  | zero =>
    intro y0 y1 y2 M M' h
    have h : (none : Option _) = some _ := h
    cases h
  | succ n ih =>
    intro y0 y1 y2 M M' h
    exact z_bb_X2_lay_30_11_13 (fun y0 y1 y2 M M' h => ih y0 y1 y2 M M' h) h
theorem z_bb_X2_lay_30_11_0 {x2 : Int32} {x3 : Int32} {M : Mm} {M' : Mm}  (h : bb_X2_lay_30_11_0 x2 x3 M = some M') : Fr [(30, 3), (30, 4), (30, 5), (31, 999), (32, 999), (33, 999)] M M' := by
  unfold bb_X2_lay_30_11_0 at h
  obtain ⟨M_1, he, h⟩ := ltv_ex h
  refine Fr.tr (M1 := M_1) (by rw [he]; exact Fr.wrI rfl) ?_
  obtain ⟨M_2, he, h⟩ := ltv_ex h
  refine Fr.tr (M1 := M_2) (by rw [he]; exact Fr.wrI rfl) ?_
  exact z_b_X2_lay_30_11_13 _ _ _ _ _ _ h
theorem z_f_X2_lay_30_11 {x2 : Int32} {x3 : Int32} {M : Mm} {M' : Mm}  (h : f_X2_lay_30_11 x2 x3 M = some M') : Fr [(30, 3), (30, 4), (30, 5), (31, 999), (32, 999), (33, 999)] M M' := by
  unfold f_X2_lay_30_11 at h
  exact z_bb_X2_lay_30_11_0 h
theorem z_bb_X2_layBites_30_19_3 {k_3 : Int64 → Int32 → Int32 → Mm → Option Mm} {x2 : Int64} {x4 : Int32} {x5 : Int32} {M : Mm} {M' : Mm} (hk_3 : ∀ (y0 : Int64) (y1 : Int32) (y2 : Int32) (N : Mm) (N' : Mm), k_3 y0 y1 y2 N = some N' → Fr [(30, 3), (30, 5), (31, 999), (32, 999), (33, 999)] N N') (h : bb_X2_layBites_30_19_3 k_3 x2 x4 x5 M = some M') : Fr [(30, 3), (30, 5), (31, 999), (32, 999), (33, 999)] M M' := by
  unfold bb_X2_layBites_30_19_3 at h
  rcases ite_ex h with ⟨hc, h⟩ | ⟨hc, h⟩
  · cases h
    exact Fr.refl
  · rcases ite_ex h with ⟨hc, h⟩ | ⟨hc, h⟩
    · obtain ⟨x5_1, _, h⟩ := ltv_ex h
      exact hk_3 _ _ _ _ _ h
    · obtain ⟨v_3, _, h⟩ := bd_ex h
      obtain ⟨v_5, _, h⟩ := bd_ex h
      obtain ⟨M_7, hc, h⟩ := bd_ex h
      refine Fr.tr (Fr.sub (z_f_X2_add_30 hc) rfl) ?_
      obtain ⟨x5_8, _, h⟩ := ltv_ex h
      exact hk_3 _ _ _ _ _ h
theorem z_b_X2_layBites_30_19_3  : ∀ (n : Nat) (y0 : Int64) (y1 : Int32) (y2 : Int32) (M : Mm) (M' : Mm), b_X2_layBites_30_19_3 n y0 y1 y2 M = some M' → Fr [(30, 3), (30, 5), (31, 999), (32, 999), (33, 999)] M M' := by
  intro n
  induction n with
  | zero =>
    intro y0 y1 y2 M M' h
    have h : (none : Option _) = some _ := h
    cases h
  | succ n ih =>
    intro y0 y1 y2 M M' h
    exact z_bb_X2_layBites_30_19_3 (fun y0 y1 y2 M M' h => ih y0 y1 y2 M M' h) h
theorem z_bb_X2_layBites_30_19_0 {x2 : Int64} {x4 : Int32} {M : Mm} {M' : Mm}  (h : bb_X2_layBites_30_19_0 x2 x4 M = some M') : Fr [(30, 3), (30, 5), (31, 999), (32, 999), (33, 999)] M M' := by
  unfold bb_X2_layBites_30_19_0 at h
  exact z_b_X2_layBites_30_19_3 _ _ _ _ _ _ h
theorem z_f_X2_layBites_30_19 {x2 : Int64} {x4 : Int32} {M : Mm} {M' : Mm}  (h : f_X2_layBites_30_19 x2 x4 M = some M') : Fr [(30, 3), (30, 5), (31, 999), (32, 999), (33, 999)] M M' := by
  unfold f_X2_layBites_30_19 at h
  exact z_bb_X2_layBites_30_19_0 h
theorem z_bb_J7_fill_53178_38_5 {k_5 : Int32 → Int32 → Int32 → Mm → Option Mm} {x1 : Int32} {x2 : Int32} {x3 : Int32} {M : Mm} {M' : Mm} (hk_5 : ∀ (y0 : Int32) (y1 : Int32) (y2 : Int32) (N : Mm) (N' : Mm), k_5 y0 y1 y2 N = some N' → Fr [(38, 999)] N N') (h : bb_J7_fill_53178_38_5 k_5 x1 x2 x3 M = some M') : Fr [(38, 999)] M M' := by
  unfold bb_J7_fill_53178_38_5 at h
  rcases ite_ex h with ⟨hc, h⟩ | ⟨hc, h⟩
  · cases h
    exact Fr.refl
  · obtain ⟨hg0, h⟩ := gd_ex h
    obtain ⟨M_2, he, h⟩ := ltv_ex h
    refine Fr.tr (M1 := M_2) (by rw [he]; exact Fr.wIa rfl) ?_
    obtain ⟨x2_3, _, h⟩ := ltv_ex h
    exact hk_5 _ _ _ _ _ h
theorem z_b_J7_fill_53178_38_5  : ∀ (n : Nat) (y0 : Int32) (y1 : Int32) (y2 : Int32) (M : Mm) (M' : Mm), b_J7_fill_53178_38_5 n y0 y1 y2 M = some M' → Fr [(38, 999)] M M' := by
  intro n
  induction n with
  | zero =>
    intro y0 y1 y2 M M' h
    have h : (none : Option _) = some _ := h
    cases h
  | succ n ih =>
    intro y0 y1 y2 M M' h
    exact z_bb_J7_fill_53178_38_5 (fun y0 y1 y2 M M' h => ih y0 y1 y2 M M' h) h
theorem z_bb_J7_fill_53178_38_0 {x1 : Int32} {M : Mm} {M' : Mm}  (h : bb_J7_fill_53178_38_0 x1 M = some M') : Fr [(38, 999)] M M' := by
  unfold bb_J7_fill_53178_38_0 at h
  exact z_b_J7_fill_53178_38_5 _ _ _ _ _ _ h
theorem z_f_J7_fill_53178_38 {x1 : Int32} {M : Mm} {M' : Mm}  (h : f_J7_fill_53178_38 x1 M = some M') : Fr [(38, 999)] M M' := by
  unfold f_J7_fill_53178_38 at h
  exact z_bb_J7_fill_53178_38_0 h
theorem z_bb_J7_fill_53178_43_5 {k_5 : Int32 → Int32 → Int32 → Mm → Option Mm} {x1 : Int32} {x2 : Int32} {x3 : Int32} {M : Mm} {M' : Mm} (hk_5 : ∀ (y0 : Int32) (y1 : Int32) (y2 : Int32) (N : Mm) (N' : Mm), k_5 y0 y1 y2 N = some N' → Fr [(43, 999)] N N') (h : bb_J7_fill_53178_43_5 k_5 x1 x2 x3 M = some M') : Fr [(43, 999)] M M' := by
  unfold bb_J7_fill_53178_43_5 at h
  rcases ite_ex h with ⟨hc, h⟩ | ⟨hc, h⟩
  · cases h
    exact Fr.refl
  · obtain ⟨hg0, h⟩ := gd_ex h
    obtain ⟨M_2, he, h⟩ := ltv_ex h
    refine Fr.tr (M1 := M_2) (by rw [he]; exact Fr.wIa rfl) ?_
    obtain ⟨x2_3, _, h⟩ := ltv_ex h
    exact hk_5 _ _ _ _ _ h
theorem z_b_J7_fill_53178_43_5  : ∀ (n : Nat) (y0 : Int32) (y1 : Int32) (y2 : Int32) (M : Mm) (M' : Mm), b_J7_fill_53178_43_5 n y0 y1 y2 M = some M' → Fr [(43, 999)] M M' := by
  intro n
  induction n with
  | zero =>
    intro y0 y1 y2 M M' h
    have h : (none : Option _) = some _ := h
    cases h
  | succ n ih =>
    intro y0 y1 y2 M M' h
    exact z_bb_J7_fill_53178_43_5 (fun y0 y1 y2 M M' h => ih y0 y1 y2 M M' h) h
theorem z_bb_J7_fill_53178_43_0 {x1 : Int32} {M : Mm} {M' : Mm}  (h : bb_J7_fill_53178_43_0 x1 M = some M') : Fr [(43, 999)] M M' := by
  unfold bb_J7_fill_53178_43_0 at h
  exact z_b_J7_fill_53178_43_5 _ _ _ _ _ _ h
theorem z_f_J7_fill_53178_43 {x1 : Int32} {M : Mm} {M' : Mm}  (h : f_J7_fill_53178_43 x1 M = some M') : Fr [(43, 999)] M M' := by
  unfold f_J7_fill_53178_43 at h
  exact z_bb_J7_fill_53178_43_0 h
theorem z_bb_X6_lay_34_11_100 {k_90 : Int32 → Mm → Option Mm} {k_100 : Int32 → Int32 → Mm → Option Mm} {x2 : Int32} {x3 : Int32} {M : Mm} {M' : Mm} (hk_90 : ∀ (y0 : Int32) (N : Mm) (N' : Mm), k_90 y0 N = some N' → Fr [(34, 0), (34, 1), (35, 999), (36, 999), (37, 999), (38, 999), (43, 999)] N N') (hk_100 : ∀ (y0 : Int32) (y1 : Int32) (N : Mm) (N' : Mm), k_100 y0 y1 N = some N' → Fr [(34, 0), (34, 1), (35, 999), (36, 999), (37, 999), (38, 999), (43, 999)] N N') (h : bb_X6_lay_34_11_100 k_90 k_100 x2 x3 M = some M') : Fr [(34, 0), (34, 1), (35, 999), (36, 999), (37, 999), (38, 999), (43, 999)] M M' := by
  unfold bb_X6_lay_34_11_100 at h
  obtain ⟨hg0, h⟩ := gd_ex h
  rcases ite_ex h with ⟨hc, h⟩ | ⟨hc, h⟩
  · obtain ⟨x2_25, _, h⟩ := ltv_ex h
    exact hk_90 _ _ _ h
  · obtain ⟨v_27, _, h⟩ := bd_ex h
    obtain ⟨y_28, _, h⟩ := ltv_ex h
    obtain ⟨hg1, h⟩ := gd_ex h
    obtain ⟨hg2, h⟩ := gd_ex h
    obtain ⟨M_31, he, h⟩ := ltv_ex h
    refine Fr.tr (M1 := M_31) (by rw [he]; exact Fr.wIa rfl) ?_
    obtain ⟨x3_32, _, h⟩ := ltv_ex h
    exact hk_100 _ _ _ _ h
theorem z_b_X6_lay_34_11_100 {k_90 : Int32 → Mm → Option Mm} (hk_90 : ∀ (y0 : Int32) (N : Mm) (N' : Mm), k_90 y0 N = some N' → Fr [(34, 0), (34, 1), (35, 999), (36, 999), (37, 999), (38, 999), (43, 999)] N N') : ∀ (n : Nat) (y0 : Int32) (y1 : Int32) (M : Mm) (M' : Mm), b_X6_lay_34_11_100 k_90 n y0 y1 M = some M' → Fr [(34, 0), (34, 1), (35, 999), (36, 999), (37, 999), (38, 999), (43, 999)] M M' := by
  intro n
  induction n with
  | zero =>
    intro y0 y1 M M' h
    have h : (none : Option _) = some _ := h
    cases h
  | succ n ih =>
    intro y0 y1 M M' h
    exact z_bb_X6_lay_34_11_100 hk_90 (fun y0 y1 M M' h => ih y0 y1 M M' h) h
theorem z_bb_X6_lay_34_11_90 {k_90 : Int32 → Mm → Option Mm} {x2 : Int32} {M : Mm} {M' : Mm} (hk_90 : ∀ (y0 : Int32) (N : Mm) (N' : Mm), k_90 y0 N = some N' → Fr [(34, 0), (34, 1), (35, 999), (36, 999), (37, 999), (38, 999), (43, 999)] N N') (h : bb_X6_lay_34_11_90 k_90 x2 M = some M') : Fr [(34, 0), (34, 1), (35, 999), (36, 999), (37, 999), (38, 999), (43, 999)] M M' := by
  unfold bb_X6_lay_34_11_90 at h
  rcases ite_ex h with ⟨hc, h⟩ | ⟨hc, h⟩
  · cases h
    exact Fr.refl
  · exact z_b_X6_lay_34_11_100 hk_90 _ _ _ _ _ h
theorem z_b_X6_lay_34_11_90  : ∀ (n : Nat) (y0 : Int32) (M : Mm) (M' : Mm), b_X6_lay_34_11_90 n y0 M = some M' → Fr [(34, 0), (34, 1), (35, 999), (36, 999), (37, 999), (38, 999), (43, 999)] M M' := by
  intro n
  induction n with
  | zero =>
    intro y0 M M' h
    have h : (none : Option _) = some _ := h
    cases h
  | succ n ih =>
    intro y0 M M' h
    exact z_bb_X6_lay_34_11_90 (fun y0 M M' h => ih y0 M M' h) h
theorem z_bb_X6_lay_34_11_18 {k_18 : Int32 → Mm → Option Mm} {x2 : Int32} {M : Mm} {M' : Mm} (hk_18 : ∀ (y0 : Int32) (N : Mm) (N' : Mm), k_18 y0 N = some N' → Fr [(34, 0), (34, 1), (35, 999), (36, 999), (37, 999), (38, 999), (43, 999)] N N') (h : bb_X6_lay_34_11_18 k_18 x2 M = some M') : Fr [(34, 0), (34, 1), (35, 999), (36, 999), (37, 999), (38, 999), (43, 999)] M M' := by
  unfold bb_X6_lay_34_11_18 at h
  rcases ite_ex h with ⟨hc, h⟩ | ⟨hc, h⟩
  · obtain ⟨M_4, hc, h⟩ := bd_ex h
    refine Fr.tr (Fr.sub (z_f_J7_fill_53178_38 hc) rfl) ?_
    obtain ⟨M_6, hc, h⟩ := bd_ex h
    refine Fr.tr (Fr.sub (z_f_J7_fill_53178_43 hc) rfl) ?_
    exact z_b_X6_lay_34_11_90 _ _ _ _ h
  · obtain ⟨v_8, _, h⟩ := bd_ex h
    obtain ⟨v_10, _, h⟩ := bd_ex h
    obtain ⟨hg0, h⟩ := gd_ex h
    obtain ⟨M_12, he, h⟩ := ltv_ex h
    refine Fr.tr (M1 := M_12) (by rw [he]; exact Fr.wIa rfl) ?_
    obtain ⟨v_14, _, h⟩ := bd_ex h
    obtain ⟨v_16, _, h⟩ := bd_ex h
    obtain ⟨hg1, h⟩ := gd_ex h
    obtain ⟨M_18, he, h⟩ := ltv_ex h
    refine Fr.tr (M1 := M_18) (by rw [he]; exact Fr.wIa rfl) ?_
    obtain ⟨v_20, _, h⟩ := bd_ex h
    obtain ⟨hg2, h⟩ := gd_ex h
    obtain ⟨M_22, he, h⟩ := ltv_ex h
    refine Fr.tr (M1 := M_22) (by rw [he]; exact Fr.wIa rfl) ?_
    obtain ⟨x2_23, _, h⟩ := ltv_ex h
    exact hk_18 _ _ _ h
theorem z_b_X6_lay_34_11_18  : ∀ (n : Nat) (y0 : Int32) (M : Mm) (M' : Mm), b_X6_lay_34_11_18 n y0 M = some M' → Fr [(34, 0), (34, 1), (35, 999), (36, 999), (37, 999), (38, 999), (43, 999)] M M' := by
  intro n
  induction n with
  | zero =>
    intro y0 M M' h
    have h : (none : Option _) = some _ := h
    cases h
  | succ n ih =>
    intro y0 M M' h
    exact z_bb_X6_lay_34_11_18 (fun y0 M M' h => ih y0 M M' h) h
theorem z_bb_X6_lay_34_11_0 {M : Mm} {M' : Mm}  (h : bb_X6_lay_34_11_0 M = some M') : Fr [(34, 0), (34, 1), (35, 999), (36, 999), (37, 999), (38, 999), (43, 999)] M M' := by
  unfold bb_X6_lay_34_11_0 at h
  obtain ⟨M_1, he, h⟩ := ltv_ex h
  refine Fr.tr (M1 := M_1) (by rw [he]; exact Fr.wrI rfl) ?_
  obtain ⟨M_2, he, h⟩ := ltv_ex h
  refine Fr.tr (M1 := M_2) (by rw [he]; exact Fr.wrI rfl) ?_
  exact z_b_X6_lay_34_11_18 _ _ _ _ h
theorem z_f_X6_lay_34_11 {M : Mm} {M' : Mm}  (h : f_X6_lay_34_11 M = some M') : Fr [(34, 0), (34, 1), (35, 999), (36, 999), (37, 999), (38, 999), (43, 999)] M M' := by
  unfold f_X6_lay_34_11 at h
  exact z_bb_X6_lay_34_11_0 h
theorem z_bb_X6_layWords_34_2 {k_2 : Int32 → Int32 → Int32 → Mm → Option Mm} {x1 : Int32} {x2 : Int32} {x3 : Int32} {M : Mm} {M' : Mm} (hk_2 : ∀ (y0 : Int32) (y1 : Int32) (y2 : Int32) (N : Mm) (N' : Mm), k_2 y0 y1 y2 N = some N' → Fr [(40, 999), (41, 999)] N N') (h : bb_X6_layWords_34_2 k_2 x1 x2 x3 M = some M') : Fr [(40, 999), (41, 999)] M M' := by
  unfold bb_X6_layWords_34_2 at h
  rcases ite_ex h with ⟨hc, h⟩ | ⟨hc, h⟩
  · cases h
    exact Fr.refl
  · obtain ⟨v_2, _, h⟩ := bd_ex h
    obtain ⟨hg0, h⟩ := gd_ex h
    obtain ⟨M_4, he, h⟩ := ltv_ex h
    refine Fr.tr (M1 := M_4) (by rw [he]; exact Fr.wIa rfl) ?_
    obtain ⟨v_6, _, h⟩ := bd_ex h
    obtain ⟨hg1, h⟩ := gd_ex h
    obtain ⟨M_8, he, h⟩ := ltv_ex h
    refine Fr.tr (M1 := M_8) (by rw [he]; exact Fr.wIa rfl) ?_
    obtain ⟨x3_9, _, h⟩ := ltv_ex h
    exact hk_2 _ _ _ _ _ h
theorem z_b_X6_layWords_34_2  : ∀ (n : Nat) (y0 : Int32) (y1 : Int32) (y2 : Int32) (M : Mm) (M' : Mm), b_X6_layWords_34_2 n y0 y1 y2 M = some M' → Fr [(40, 999), (41, 999)] M M' := by
  intro n
  induction n with
  | zero =>
    intro y0 y1 y2 M M' h
    have h : (none : Option _) = some _ := h
    cases h
  | succ n ih =>
    intro y0 y1 y2 M M' h
    exact z_bb_X6_layWords_34_2 (fun y0 y1 y2 M M' h => ih y0 y1 y2 M M' h) h
theorem z_bb_X6_layWords_34_0 {x1 : Int32} {x2 : Int32} {M : Mm} {M' : Mm}  (h : bb_X6_layWords_34_0 x1 x2 M = some M') : Fr [(40, 999), (41, 999)] M M' := by
  unfold bb_X6_layWords_34_0 at h
  exact z_b_X6_layWords_34_2 _ _ _ _ _ _ h
theorem z_f_X6_layWords_34 {x1 : Int32} {x2 : Int32} {M : Mm} {M' : Mm}  (h : f_X6_layWords_34 x1 x2 M = some M') : Fr [(40, 999), (41, 999)] M M' := by
  unfold f_X6_layWords_34 at h
  exact z_bb_X6_layWords_34_0 h
theorem z_bb_X6_unevenOf_34_0 {x1 : Int32} {x2 : Int32} {M : Mm} {v : Int32} {M' : Mm}  (h : bb_X6_unevenOf_34_0 x1 x2 M = some (v, M')) : Fr [(40, 999), (41, 999)] M M' := by
  unfold bb_X6_unevenOf_34_0 at h
  obtain ⟨M_2, hc, h⟩ := bd_ex h
  refine Fr.tr (Fr.sub (z_f_X6_layWords_34 hc) rfl) ?_
  obtain ⟨v_4, _, h⟩ := bd_ex h
  cases h
  exact Fr.refl
theorem z_f_X6_unevenOf_34 {x1 : Int32} {x2 : Int32} {M : Mm} {v : Int32} {M' : Mm}  (h : f_X6_unevenOf_34 x1 x2 M = some (v, M')) : Fr [(40, 999), (41, 999)] M M' := by
  unfold f_X6_unevenOf_34 at h
  exact z_bb_X6_unevenOf_34_0 h
theorem z_bb_X6_listFree_34_17 {k_4 : Int32 → Int32 → Mm → Option (Int32 × Mm)} {k_17 : Int32 → Int32 → Int32 → Int32 → Mm → Option (Int32 × Mm)} {x1 : Int32} {x2 : Int32} {x3 : Int32} {x4 : Int32} {M : Mm} {v : Int32} {M' : Mm} (hk_4 : ∀ (y0 : Int32) (y1 : Int32) (N : Mm) (w : Int32) (N' : Mm), k_4 y0 y1 N = some (w, N') → Fr [(39, 999)] N N') (hk_17 : ∀ (y0 : Int32) (y1 : Int32) (y2 : Int32) (y3 : Int32) (N : Mm) (w : Int32) (N' : Mm), k_17 y0 y1 y2 y3 N = some (w, N') → Fr [(39, 999)] N N') (h : bb_X6_listFree_34_17 k_4 k_17 x1 x2 x3 x4 M = some (v, M')) : Fr [(39, 999)] M M' := by
  unfold bb_X6_listFree_34_17 at h
  rcases ite_ex h with ⟨hc, h⟩ | ⟨hc, h⟩
  · rcases ite_ex h with ⟨hc, h⟩ | ⟨hc, h⟩
    · rcases ite_ex h with ⟨hc, h⟩ | ⟨hc, h⟩
      · obtain ⟨x2_1, _, h⟩ := ltv_ex h
        exact hk_4 _ _ _ _ _ h
      · obtain ⟨x1_2, _, h⟩ := ltv_ex h
        obtain ⟨x2_3, _, h⟩ := ltv_ex h
        exact hk_4 _ _ _ _ _ h
    · rcases ite_ex h with ⟨hc, h⟩ | ⟨hc, h⟩
      · rcases ite_ex h with ⟨hc, h⟩ | ⟨hc, h⟩
        · obtain ⟨x2_4, _, h⟩ := ltv_ex h
          exact hk_4 _ _ _ _ _ h
        · obtain ⟨x1_5, _, h⟩ := ltv_ex h
          obtain ⟨x2_6, _, h⟩ := ltv_ex h
          exact hk_4 _ _ _ _ _ h
      · obtain ⟨hg0, h⟩ := gd_ex h
        obtain ⟨M_8, he, h⟩ := ltv_ex h
        refine Fr.tr (M1 := M_8) (by rw [he]; exact Fr.wIa rfl) ?_
        rcases ite_ex h with ⟨hc, h⟩ | ⟨hc, h⟩
        · obtain ⟨x2_9, _, h⟩ := ltv_ex h
          exact hk_4 _ _ _ _ _ h
        · obtain ⟨x1_10, _, h⟩ := ltv_ex h
          obtain ⟨x2_11, _, h⟩ := ltv_ex h
          exact hk_4 _ _ _ _ _ h
  · rcases ite_ex h with ⟨hc, h⟩ | ⟨hc, h⟩
    · obtain ⟨hg0, h⟩ := gd_ex h
      rcases ite_ex h with ⟨hc, h⟩ | ⟨hc, h⟩
      · obtain ⟨x4_14, _, h⟩ := ltv_ex h
        exact hk_17 _ _ _ _ _ _ _ h
      · obtain ⟨x4_15, _, h⟩ := ltv_ex h
        exact hk_17 _ _ _ _ _ _ _ h
    · obtain ⟨x4_12, _, h⟩ := ltv_ex h
      exact hk_17 _ _ _ _ _ _ _ h
theorem z_b_X6_listFree_34_17 {k_4 : Int32 → Int32 → Mm → Option (Int32 × Mm)} (hk_4 : ∀ (y0 : Int32) (y1 : Int32) (N : Mm) (w : Int32) (N' : Mm), k_4 y0 y1 N = some (w, N') → Fr [(39, 999)] N N') : ∀ (n : Nat) (y0 : Int32) (y1 : Int32) (y2 : Int32) (y3 : Int32) (M : Mm) (v : Int32) (M' : Mm), b_X6_listFree_34_17 k_4 n y0 y1 y2 y3 M = some (v, M') → Fr [(39, 999)] M M' := by
  intro n
  induction n with
  | zero =>
    intro y0 y1 y2 y3 M v M' h
    have h : (none : Option _) = some _ := h
    cases h
  | succ n ih =>
    intro y0 y1 y2 y3 M v M' h
    exact z_bb_X6_listFree_34_17 hk_4 (fun y0 y1 y2 y3 M v M' h => ih y0 y1 y2 y3 M v M' h) h
theorem z_bb_X6_listFree_34_4 {k_4 : Int32 → Int32 → Mm → Option (Int32 × Mm)} {x1 : Int32} {x2 : Int32} {M : Mm} {v : Int32} {M' : Mm} (hk_4 : ∀ (y0 : Int32) (y1 : Int32) (N : Mm) (w : Int32) (N' : Mm), k_4 y0 y1 N = some (w, N') → Fr [(39, 999)] N N') (h : bb_X6_listFree_34_4 k_4 x1 x2 M = some (v, M')) : Fr [(39, 999)] M M' := by
  unfold bb_X6_listFree_34_4 at h
  rcases ite_ex h with ⟨hc, h⟩ | ⟨hc, h⟩
  · cases h
    exact Fr.refl
  · exact z_b_X6_listFree_34_17 hk_4 _ _ _ _ _ _ _ _ h
theorem z_b_X6_listFree_34_4  : ∀ (n : Nat) (y0 : Int32) (y1 : Int32) (M : Mm) (v : Int32) (M' : Mm), b_X6_listFree_34_4 n y0 y1 M = some (v, M') → Fr [(39, 999)] M M' := by
  intro n
  induction n with
  | zero =>
    intro y0 y1 M v M' h
    have h : (none : Option _) = some _ := h
    cases h
  | succ n ih =>
    intro y0 y1 M v M' h
    exact z_bb_X6_listFree_34_4 (fun y0 y1 M v M' h => ih y0 y1 M v M' h) h
theorem z_bb_X6_listFree_34_0 {M : Mm} {v : Int32} {M' : Mm}  (h : bb_X6_listFree_34_0 M = some (v, M')) : Fr [(39, 999)] M M' := by
  unfold bb_X6_listFree_34_0 at h
  exact z_b_X6_listFree_34_4 _ _ _ _ _ _ h
theorem z_f_X6_listFree_34 {M : Mm} {v : Int32} {M' : Mm}  (h : f_X6_listFree_34 M = some (v, M')) : Fr [(39, 999)] M M' := by
  unfold f_X6_listFree_34 at h
  exact z_bb_X6_listFree_34_0 h
theorem z_bb_X6_layWider_34_15 {k_2 : Int32 → Int32 → Mm → Option Mm} {k_15 : Int32 → Int32 → Int32 → Int32 → Mm → Option Mm} {x1 : Int32} {x2 : Int32} {x3 : Int32} {x4 : Int32} {M : Mm} {M' : Mm} (hk_2 : ∀ (y0 : Int32) (y1 : Int32) (N : Mm) (N' : Mm), k_2 y0 y1 N = some N' → Fr [(42, 999)] N N') (hk_15 : ∀ (y0 : Int32) (y1 : Int32) (y2 : Int32) (y3 : Int32) (N : Mm) (N' : Mm), k_15 y0 y1 y2 y3 N = some N' → Fr [(42, 999)] N N') (h : bb_X6_layWider_34_15 k_2 k_15 x1 x2 x3 x4 M = some M') : Fr [(42, 999)] M M' := by
  unfold bb_X6_layWider_34_15 at h
  rcases ite_ex h with ⟨hc, h⟩ | ⟨hc, h⟩
  · obtain ⟨x2_1, _, h⟩ := ltv_ex h
    exact hk_2 _ _ _ _ h
  · rcases ite_ex h with ⟨hc, h⟩ | ⟨hc, h⟩
    · obtain ⟨x2_2, _, h⟩ := ltv_ex h
      exact hk_2 _ _ _ _ h
    · obtain ⟨hg0, h⟩ := gd_ex h
      obtain ⟨hg1, h⟩ := gd_ex h
      obtain ⟨x3_5, _, h⟩ := ltv_ex h
      obtain ⟨hg2, h⟩ := gd_ex h
      obtain ⟨M_7, he, h⟩ := ltv_ex h
      refine Fr.tr (M1 := M_7) (by rw [he]; exact Fr.wIa rfl) ?_
      obtain ⟨x4_8, _, h⟩ := ltv_ex h
      exact hk_15 _ _ _ _ _ _ h
theorem z_b_X6_layWider_34_15 {k_2 : Int32 → Int32 → Mm → Option Mm} (hk_2 : ∀ (y0 : Int32) (y1 : Int32) (N : Mm) (N' : Mm), k_2 y0 y1 N = some N' → Fr [(42, 999)] N N') : ∀ (n : Nat) (y0 : Int32) (y1 : Int32) (y2 : Int32) (y3 : Int32) (M : Mm) (M' : Mm), b_X6_layWider_34_15 k_2 n y0 y1 y2 y3 M = some M' → Fr [(42, 999)] M M' := by
  intro n
  induction n with
  | zero =>
    intro y0 y1 y2 y3 M M' h
    have h : (none : Option _) = some _ := h
    cases h
  | succ n ih =>
    intro y0 y1 y2 y3 M M' h
    exact z_bb_X6_layWider_34_15 hk_2 (fun y0 y1 y2 y3 M M' h => ih y0 y1 y2 y3 M M' h) h
theorem z_bb_X6_layWider_34_2 {k_2 : Int32 → Int32 → Mm → Option Mm} {x1 : Int32} {x2 : Int32} {M : Mm} {M' : Mm} (hk_2 : ∀ (y0 : Int32) (y1 : Int32) (N : Mm) (N' : Mm), k_2 y0 y1 N = some N' → Fr [(42, 999)] N N') (h : bb_X6_layWider_34_2 k_2 x1 x2 M = some M') : Fr [(42, 999)] M M' := by
  unfold bb_X6_layWider_34_2 at h
  rcases ite_ex h with ⟨hc, h⟩ | ⟨hc, h⟩
  · cases h
    exact Fr.refl
  · exact z_b_X6_layWider_34_15 hk_2 _ _ _ _ _ _ _ h
theorem z_b_X6_layWider_34_2  : ∀ (n : Nat) (y0 : Int32) (y1 : Int32) (M : Mm) (M' : Mm), b_X6_layWider_34_2 n y0 y1 M = some M' → Fr [(42, 999)] M M' := by
  intro n
  induction n with
  | zero =>
    intro y0 y1 M M' h
    have h : (none : Option _) = some _ := h
    cases h
  | succ n ih =>
    intro y0 y1 M M' h
    exact z_bb_X6_layWider_34_2 (fun y0 y1 M M' h => ih y0 y1 M M' h) h
theorem z_bb_X6_layWider_34_0 {x1 : Int32} {M : Mm} {M' : Mm}  (h : bb_X6_layWider_34_0 x1 M = some M') : Fr [(42, 999)] M M' := by
  unfold bb_X6_layWider_34_0 at h
  exact z_b_X6_layWider_34_2 _ _ _ _ _ h
theorem z_f_X6_layWider_34 {x1 : Int32} {M : Mm} {M' : Mm}  (h : f_X6_layWider_34 x1 M = some M') : Fr [(42, 999)] M M' := by
  unfold f_X6_layWider_34 at h
  exact z_bb_X6_layWider_34_0 h
theorem z_bb_X6_widen_34_2 {k_2 : Int32 → Int32 → Int32 → Mm → Option Mm} {x1 : Int32} {x2 : Int32} {x3 : Int32} {M : Mm} {M' : Mm} (hk_2 : ∀ (y0 : Int32) (y1 : Int32) (y2 : Int32) (N : Mm) (N' : Mm), k_2 y0 y1 y2 N = some N' → Fr [(41, 999)] N N') (h : bb_X6_widen_34_2 k_2 x1 x2 x3 M = some M') : Fr [(41, 999)] M M' := by
  unfold bb_X6_widen_34_2 at h
  rcases ite_ex h with ⟨hc, h⟩ | ⟨hc, h⟩
  · cases h
    exact Fr.refl
  · rcases ite_ex h with ⟨hc, h⟩ | ⟨hc, h⟩
    · cases h
      exact Fr.refl
    · rcases ite_ex h with ⟨hc, h⟩ | ⟨hc, h⟩
      · cases h
        exact Fr.refl
      · obtain ⟨hg0, h⟩ := gd_ex h
        obtain ⟨hg1, h⟩ := gd_ex h
        obtain ⟨hg2, h⟩ := gd_ex h
        obtain ⟨hg3, h⟩ := gd_ex h
        obtain ⟨M_5, he, h⟩ := ltv_ex h
        refine Fr.tr (M1 := M_5) (by rw [he]; exact Fr.wIa rfl) ?_
        obtain ⟨x3_6, _, h⟩ := ltv_ex h
        exact hk_2 _ _ _ _ _ h
theorem z_b_X6_widen_34_2  : ∀ (n : Nat) (y0 : Int32) (y1 : Int32) (y2 : Int32) (M : Mm) (M' : Mm), b_X6_widen_34_2 n y0 y1 y2 M = some M' → Fr [(41, 999)] M M' := by
  intro n
  induction n with
  | zero =>
    intro y0 y1 y2 M M' h
    have h : (none : Option _) = some _ := h
    cases h
  | succ n ih =>
    intro y0 y1 y2 M M' h
    exact z_bb_X6_widen_34_2 (fun y0 y1 y2 M M' h => ih y0 y1 y2 M M' h) h
theorem z_bb_X6_widen_34_0 {x1 : Int32} {x2 : Int32} {M : Mm} {M' : Mm}  (h : bb_X6_widen_34_0 x1 x2 M = some M') : Fr [(41, 999)] M M' := by
  unfold bb_X6_widen_34_0 at h
  exact z_b_X6_widen_34_2 _ _ _ _ _ _ h
theorem z_f_X6_widen_34 {x1 : Int32} {x2 : Int32} {M : Mm} {M' : Mm}  (h : f_X6_widen_34 x1 x2 M = some M') : Fr [(41, 999)] M M' := by
  unfold f_X6_widen_34 at h
  exact z_bb_X6_widen_34_0 h
theorem z_bb_X6_seekEven_34_39 {rc : Int32 → Int32 → Mm → Option Mm} {k_39 : Int32 → Int32 → Int32 → Mm → Option Mm} {x1 : Int32} {x2 : Int32} {x4 : Int32} {M : Mm} {M' : Mm} (hrc : ∀ (y0 : Int32) (y1 : Int32) (N : Mm) (N' : Mm), rc y0 y1 N = some N' → Fr [(34, 11), (34, 12), (41, 999)] N N') (hk_39 : ∀ (y0 : Int32) (y1 : Int32) (y2 : Int32) (N : Mm) (N' : Mm), k_39 y0 y1 y2 N = some N' → Fr [(34, 11), (34, 12), (41, 999)] N N') (h : bb_X6_seekEven_34_39 rc k_39 x1 x2 x4 M = some M') : Fr [(34, 11), (34, 12), (41, 999)] M M' := by
  unfold bb_X6_seekEven_34_39 at h
  rcases ite_ex h with ⟨hc, h⟩ | ⟨hc, h⟩
  · obtain ⟨M_6, hc, h⟩ := bd_ex h
    refine Fr.tr (Fr.sub (z_f_X6_widen_34 hc) rfl) ?_
    cases h
    exact Fr.refl
  · obtain ⟨hg0, h⟩ := gd_ex h
    obtain ⟨hg1, h⟩ := gd_ex h
    obtain ⟨M_10, hc, h⟩ := bd_ex h
    refine Fr.tr (hrc _ _ _ _ hc) ?_
    obtain ⟨M_12, hc, h⟩ := bd_ex h
    refine Fr.tr (Fr.sub (z_f_X6_widen_34 hc) rfl) ?_
    obtain ⟨x4_13, _, h⟩ := ltv_ex h
    exact hk_39 _ _ _ _ _ h
theorem z_b_X6_seekEven_34_39 {rc : Int32 → Int32 → Mm → Option Mm} (hrc : ∀ (y0 : Int32) (y1 : Int32) (N : Mm) (N' : Mm), rc y0 y1 N = some N' → Fr [(34, 11), (34, 12), (41, 999)] N N') : ∀ (n : Nat) (y0 : Int32) (y1 : Int32) (y2 : Int32) (M : Mm) (M' : Mm), b_X6_seekEven_34_39 rc n y0 y1 y2 M = some M' → Fr [(34, 11), (34, 12), (41, 999)] M M' := by
  intro n
  induction n with
  | zero =>
    intro y0 y1 y2 M M' h
    have h : (none : Option _) = some _ := h
    cases h
  | succ n ih =>
    intro y0 y1 y2 M M' h
    exact z_bb_X6_seekEven_34_39 hrc (fun y0 y1 y2 M M' h => ih y0 y1 y2 M M' h) h
theorem z_bb_X6_seekEven_34_0 {rc : Int32 → Int32 → Mm → Option Mm} {x1 : Int32} {x2 : Int32} {M : Mm} {M' : Mm} (hrc : ∀ (y0 : Int32) (y1 : Int32) (N : Mm) (N' : Mm), rc y0 y1 N = some N' → Fr [(34, 11), (34, 12), (41, 999)] N N') (h : bb_X6_seekEven_34_0 rc x1 x2 M = some M') : Fr [(34, 11), (34, 12), (41, 999)] M M' := by
  unfold bb_X6_seekEven_34_0 at h
  obtain ⟨v_2, _, h⟩ := bd_ex h
  rcases ite_ex h with ⟨hc, h⟩ | ⟨hc, h⟩
  · cases h
    exact Fr.refl
  · rcases ite_ex h with ⟨hc, h⟩ | ⟨hc, h⟩
    · rcases ite_ex h with ⟨hc, h⟩ | ⟨hc, h⟩
      · exact z_b_X6_seekEven_34_39 hrc _ _ _ _ _ _ h
      · obtain ⟨M_3, he, h⟩ := ltv_ex h
        refine Fr.tr (M1 := M_3) (by rw [he]; exact Fr.wrI rfl) ?_
        obtain ⟨M_4, he, h⟩ := ltv_ex h
        refine Fr.tr (M1 := M_4) (by rw [he]; exact Fr.wrI rfl) ?_
        cases h
        exact Fr.refl
    · cases h
      exact Fr.refl
theorem z_fr_X6_seekEven_34  : ∀ (n : Nat) (y0 : Int32) (y1 : Int32) (M : Mm) (M' : Mm), fr_X6_seekEven_34 n y0 y1 M = some M' → Fr [(34, 11), (34, 12), (41, 999)] M M' := by
  intro n
  induction n with
  | zero =>
    intro y0 y1 M M' h
    have h : (none : Option _) = some _ := h
    cases h
  | succ n ih =>
    intro y0 y1 M M' h
    exact z_bb_X6_seekEven_34_0 (fun y0 y1 M M' h => ih y0 y1 M M' h) h
theorem z_f_X6_seekEven_34 {x1 : Int32} {x2 : Int32} {M : Mm} {M' : Mm}  (h : f_X6_seekEven_34 x1 x2 M = some M') : Fr [(34, 11), (34, 12), (41, 999)] M M' := by
  unfold f_X6_seekEven_34 at h
  exact z_fr_X6_seekEven_34 _ _ _ _ _ h
theorem z_bb_X6_findEvenRoom_34_0 {x1 : Int32} {M : Mm} {v : Int32} {M' : Mm}  (h : bb_X6_findEvenRoom_34_0 x1 M = some (v, M')) : Fr [(34, 11), (34, 12), (39, 999), (40, 999), (41, 999), (42, 999)] M M' := by
  unfold bb_X6_findEvenRoom_34_0 at h
  obtain ⟨v_3, M_2, hc, h⟩ := bd2_ex h
  refine Fr.tr (Fr.sub (z_f_X6_listFree_34 hc) rfl) ?_
  rcases ite_ex h with ⟨hc, h⟩ | ⟨hc, h⟩
  · obtain ⟨M_5, hc, h⟩ := bd_ex h
    refine Fr.tr (Fr.sub (z_f_X6_layWords_34 hc) rfl) ?_
    obtain ⟨M_7, hc, h⟩ := bd_ex h
    refine Fr.tr (Fr.sub (z_f_X6_layWider_34 hc) rfl) ?_
    obtain ⟨M_8, he, h⟩ := ltv_ex h
    refine Fr.tr (M1 := M_8) (by rw [he]; exact Fr.wrI rfl) ?_
    obtain ⟨M_9, he, h⟩ := ltv_ex h
    refine Fr.tr (M1 := M_9) (by rw [he]; exact Fr.wrI rfl) ?_
    obtain ⟨M_11, hc, h⟩ := bd_ex h
    refine Fr.tr (Fr.sub (z_f_X6_seekEven_34 hc) rfl) ?_
    cases h
    exact Fr.refl
  · cases h
    exact Fr.refl
theorem z_f_X6_findEvenRoom_34 {x1 : Int32} {M : Mm} {v : Int32} {M' : Mm}  (h : f_X6_findEvenRoom_34 x1 M = some (v, M')) : Fr [(34, 11), (34, 12), (39, 999), (40, 999), (41, 999), (42, 999)] M M' := by
  unfold f_X6_findEvenRoom_34 at h
  exact z_bb_X6_findEvenRoom_34_0 h
theorem z_bb_X6_evenRoom_34_0 {x1 : Int32} {M : Mm} {v : Int32} {M' : Mm}  (h : bb_X6_evenRoom_34_0 x1 M = some (v, M')) : Fr [(34, 11), (34, 12), (38, 999), (39, 999), (40, 999), (41, 999), (42, 999)] M M' := by
  unfold bb_X6_evenRoom_34_0 at h
  rcases ite_ex h with ⟨hc, h⟩ | ⟨hc, h⟩
  · cases h
    exact Fr.refl
  · rcases ite_ex h with ⟨hc, h⟩ | ⟨hc, h⟩
    · obtain ⟨hg0, h⟩ := gd_ex h
      rcases ite_ex h with ⟨hc, h⟩ | ⟨hc, h⟩
      · obtain ⟨v_5, M_4, hc, h⟩ := bd2_ex h
        refine Fr.tr (Fr.sub (z_f_X6_findEvenRoom_34 hc) rfl) ?_
        obtain ⟨hg1, h⟩ := gd_ex h
        obtain ⟨M_7, he, h⟩ := ltv_ex h
        refine Fr.tr (M1 := M_7) (by rw [he]; exact Fr.wIa rfl) ?_
        obtain ⟨hg2, h⟩ := gd_ex h
        cases h
        exact Fr.refl
      · obtain ⟨hg1, h⟩ := gd_ex h
        cases h
        exact Fr.refl
    · cases h
      exact Fr.refl
theorem z_f_X6_evenRoom_34 {x1 : Int32} {M : Mm} {v : Int32} {M' : Mm}  (h : f_X6_evenRoom_34 x1 M = some (v, M')) : Fr [(34, 11), (34, 12), (38, 999), (39, 999), (40, 999), (41, 999), (42, 999)] M M' := by
  unfold f_X6_evenRoom_34 at h
  exact z_bb_X6_evenRoom_34_0 h
theorem z_bb_X0_wipe_50_0 {M : Mm} {M' : Mm}  (h : bb_X0_wipe_50_0 M = some M') : Fr [(50, 0), (50, 1), (50, 2), (50, 5), (50, 7)] M M' := by
  unfold bb_X0_wipe_50_0 at h
  obtain ⟨M_1, he, h⟩ := ltv_ex h
  refine Fr.tr (M1 := M_1) (by rw [he]; exact Fr.wrI rfl) ?_
  obtain ⟨M_2, he, h⟩ := ltv_ex h
  refine Fr.tr (M1 := M_2) (by rw [he]; exact Fr.wrJ rfl) ?_
  obtain ⟨M_3, he, h⟩ := ltv_ex h
  refine Fr.tr (M1 := M_3) (by rw [he]; exact Fr.wrI rfl) ?_
  obtain ⟨M_4, he, h⟩ := ltv_ex h
  refine Fr.tr (M1 := M_4) (by rw [he]; exact Fr.wrI rfl) ?_
  obtain ⟨M_5, he, h⟩ := ltv_ex h
  refine Fr.tr (M1 := M_5) (by rw [he]; exact Fr.wrI rfl) ?_
  cases h
  exact Fr.refl
theorem z_f_X0_wipe_50 {M : Mm} {M' : Mm}  (h : f_X0_wipe_50 M = some M') : Fr [(50, 0), (50, 1), (50, 2), (50, 5), (50, 7)] M M' := by
  unfold f_X0_wipe_50 at h
  exact z_bb_X0_wipe_50_0 h
theorem z_bb_X0_takePunch_50_0 {x1 : Int32} {M : Mm} {M' : Mm}  (h : bb_X0_takePunch_50_0 x1 M = some M') : Fr [(50, 0), (50, 1), (50, 2)] M M' := by
  unfold bb_X0_takePunch_50_0 at h
  obtain ⟨M_1, he, h⟩ := ltv_ex h
  refine Fr.tr (M1 := M_1) (by rw [he]; exact Fr.wrI rfl) ?_
  obtain ⟨M_2, he, h⟩ := ltv_ex h
  refine Fr.tr (M1 := M_2) (by rw [he]; exact Fr.wrJ rfl) ?_
  obtain ⟨M_3, he, h⟩ := ltv_ex h
  refine Fr.tr (M1 := M_3) (by rw [he]; exact Fr.wrI rfl) ?_
  cases h
  exact Fr.refl
theorem z_f_X0_takePunch_50 {x1 : Int32} {M : Mm} {M' : Mm}  (h : f_X0_takePunch_50 x1 M = some M') : Fr [(50, 0), (50, 1), (50, 2)] M M' := by
  unfold f_X0_takePunch_50 at h
  exact z_bb_X0_takePunch_50_0 h
theorem z_bb_X0_take_50_0 {x1 : Int64} {M : Mm} {v : Int32} {M' : Mm}  (h : bb_X0_take_50_0 x1 M = some (v, M')) : Fr [(50, 1)] M M' := by
  unfold bb_X0_take_50_0 at h
  obtain ⟨v_2, _, h⟩ := bd_ex h
  obtain ⟨M_3, he, h⟩ := ltv_ex h
  refine Fr.tr (M1 := M_3) (by rw [he]; exact Fr.wrJ rfl) ?_
  cases h
  exact Fr.refl
theorem z_f_X0_take_50 {x1 : Int64} {M : Mm} {v : Int32} {M' : Mm}  (h : f_X0_take_50 x1 M = some (v, M')) : Fr [(50, 1)] M M' := by
  unfold f_X0_take_50 at h
  exact z_bb_X0_take_50_0 h
theorem z_bb_X0_strike_50_24 {x1 : Int64} {s1 : Int32} {M : Mm} {v : Int32} {M' : Mm}  (h : bb_X0_strike_50_24 x1 s1 M = some (v, M')) : Fr [(50, 1), (50, 2)] M M' := by
  unfold bb_X0_strike_50_24 at h
  obtain ⟨hg0, h⟩ := gd_ex h
  obtain ⟨M_4, he, h⟩ := ltv_ex h
  refine Fr.tr (M1 := M_4) (by rw [he]; exact Fr.wrI rfl) ?_
  obtain ⟨v_6, _, h⟩ := bd_ex h
  obtain ⟨v_9, M_8, hc, h⟩ := bd2_ex h
  refine Fr.tr (Fr.sub (z_f_X0_take_50 hc) rfl) ?_
  cases h
  exact Fr.refl
theorem z_bb_X0_strike_50_19 {x1 : Int64} {M : Mm} {v : Int32} {M' : Mm}  (h : bb_X0_strike_50_19 x1 M = some (v, M')) : Fr [(50, 1), (50, 2)] M M' := by
  unfold bb_X0_strike_50_19 at h
  exact z_bb_X0_strike_50_24 h
theorem z_bb_X0_strike_50_0 {x1 : Int64} {M : Mm} {v : Int32} {M' : Mm}  (h : bb_X0_strike_50_0 x1 M = some (v, M')) : Fr [(50, 1), (50, 2)] M M' := by
  unfold bb_X0_strike_50_0 at h
  rcases ite_ex h with ⟨hc, h⟩ | ⟨hc, h⟩
  · obtain ⟨v_2, _, h⟩ := bd_ex h
    rcases ite_ex h with ⟨hc, h⟩ | ⟨hc, h⟩
    · exact z_bb_X0_strike_50_24 h
    · exact z_bb_X0_strike_50_19 h
  · exact z_bb_X0_strike_50_19 h
theorem z_f_X0_strike_50 {x1 : Int64} {M : Mm} {v : Int32} {M' : Mm}  (h : f_X0_strike_50 x1 M = some (v, M')) : Fr [(50, 1), (50, 2)] M M' := by
  unfold f_X0_strike_50 at h
  exact z_bb_X0_strike_50_0 h
theorem z_bb_X0_addAct_50_0 {x1 : Int32} {x2 : Int64} {M : Mm} {v : Int32} {M' : Mm}  (h : bb_X0_addAct_50_0 x1 x2 M = some (v, M')) : Fr [(50, 5), (51, 999), (52, 999)] M M' := by
  unfold bb_X0_addAct_50_0 at h
  rcases ite_ex h with ⟨hc, h⟩ | ⟨hc, h⟩
  · cases h
    exact Fr.refl
  · rcases ite_ex h with ⟨hc, h⟩ | ⟨hc, h⟩
    · obtain ⟨hg0, h⟩ := gd_ex h
      obtain ⟨M_2, he, h⟩ := ltv_ex h
      refine Fr.tr (M1 := M_2) (by rw [he]; exact Fr.wIa rfl) ?_
      obtain ⟨hg1, h⟩ := gd_ex h
      obtain ⟨M_4, he, h⟩ := ltv_ex h
      refine Fr.tr (M1 := M_4) (by rw [he]; exact Fr.wJa rfl) ?_
      obtain ⟨M_5, he, h⟩ := ltv_ex h
      refine Fr.tr (M1 := M_5) (by rw [he]; exact Fr.wrI rfl) ?_
      cases h
      exact Fr.refl
    · cases h
      exact Fr.refl
theorem z_f_X0_addAct_50 {x1 : Int32} {x2 : Int64} {M : Mm} {v : Int32} {M' : Mm}  (h : f_X0_addAct_50 x1 x2 M = some (v, M')) : Fr [(50, 5), (51, 999), (52, 999)] M M' := by
  unfold f_X0_addAct_50 at h
  exact z_bb_X0_addAct_50_0 h
theorem z_bb_X0_addPrint_50_0 {x1 : Int64} {M : Mm} {v : Int32} {M' : Mm}  (h : bb_X0_addPrint_50_0 x1 M = some (v, M')) : Fr [(50, 7), (53, 999)] M M' := by
  unfold bb_X0_addPrint_50_0 at h
  rcases ite_ex h with ⟨hc, h⟩ | ⟨hc, h⟩
  · cases h
    exact Fr.refl
  · rcases ite_ex h with ⟨hc, h⟩ | ⟨hc, h⟩
    · obtain ⟨hg0, h⟩ := gd_ex h
      obtain ⟨M_2, he, h⟩ := ltv_ex h
      refine Fr.tr (M1 := M_2) (by rw [he]; exact Fr.wJa rfl) ?_
      obtain ⟨M_3, he, h⟩ := ltv_ex h
      refine Fr.tr (M1 := M_3) (by rw [he]; exact Fr.wrI rfl) ?_
      cases h
      exact Fr.refl
    · cases h
      exact Fr.refl
theorem z_f_X0_addPrint_50 {x1 : Int64} {M : Mm} {v : Int32} {M' : Mm}  (h : f_X0_addPrint_50 x1 M = some (v, M')) : Fr [(50, 7), (53, 999)] M M' := by
  unfold f_X0_addPrint_50 at h
  exact z_bb_X0_addPrint_50_0 h
theorem z_bb_X0_copyOf_50_55_0 {M : Mm} {M' : Mm}  (h : bb_X0_copyOf_50_55_0 M = some M') : Fr [(50, 0), (50, 1), (50, 2), (50, 5), (50, 7), (51, 999), (52, 999), (53, 999)] M M' := by
  unfold bb_X0_copyOf_50_55_0 at h
  obtain ⟨M_1, he, h⟩ := ltv_ex h
  refine Fr.tr (M1 := M_1) (by rw [he]; exact Fr.wrI rfl) ?_
  obtain ⟨M_2, he, h⟩ := ltv_ex h
  refine Fr.tr (M1 := M_2) (by rw [he]; exact Fr.wrJ rfl) ?_
  obtain ⟨hg0, h⟩ := gd_ex h
  obtain ⟨M_4, he, h⟩ := ltv_ex h
  refine Fr.tr (M1 := M_4) (by rw [he]; exact Fr.wrI rfl) ?_
  obtain ⟨M_5, he, h⟩ := ltv_ex h
  refine Fr.tr (M1 := M_5) (by rw [he]; exact Fr.wrI rfl) ?_
  obtain ⟨M_6, he, h⟩ := ltv_ex h
  refine Fr.tr (M1 := M_6) (by rw [he]; exact Fr.wrI rfl) ?_
  obtain ⟨M_7, he, h⟩ := ltv_ex h
  refine Fr.tr (M1 := M_7) (by rw [he]; exact Fr.cpI rfl) ?_
  obtain ⟨M_8, he, h⟩ := ltv_ex h
  refine Fr.tr (M1 := M_8) (by rw [he]; exact Fr.cpJ rfl) ?_
  obtain ⟨M_9, he, h⟩ := ltv_ex h
  refine Fr.tr (M1 := M_9) (by rw [he]; exact Fr.cpJ rfl) ?_
  cases h
  exact Fr.refl
theorem z_f_X0_copyOf_50_55 {M : Mm} {M' : Mm}  (h : f_X0_copyOf_50_55 M = some M') : Fr [(50, 0), (50, 1), (50, 2), (50, 5), (50, 7), (51, 999), (52, 999), (53, 999)] M M' := by
  unfold f_X0_copyOf_50_55 at h
  exact z_bb_X0_copyOf_50_55_0 h
theorem z_bb_X0_copyOf_55_50_0 {M : Mm} {M' : Mm}  (h : bb_X0_copyOf_55_50_0 M = some M') : Fr [(55, 0), (55, 1), (55, 2), (55, 5), (55, 7), (56, 999), (57, 999), (58, 999)] M M' := by
  unfold bb_X0_copyOf_55_50_0 at h
  obtain ⟨M_1, he, h⟩ := ltv_ex h
  refine Fr.tr (M1 := M_1) (by rw [he]; exact Fr.wrI rfl) ?_
  obtain ⟨M_2, he, h⟩ := ltv_ex h
  refine Fr.tr (M1 := M_2) (by rw [he]; exact Fr.wrJ rfl) ?_
  obtain ⟨hg0, h⟩ := gd_ex h
  obtain ⟨M_4, he, h⟩ := ltv_ex h
  refine Fr.tr (M1 := M_4) (by rw [he]; exact Fr.wrI rfl) ?_
  obtain ⟨M_5, he, h⟩ := ltv_ex h
  refine Fr.tr (M1 := M_5) (by rw [he]; exact Fr.wrI rfl) ?_
  obtain ⟨M_6, he, h⟩ := ltv_ex h
  refine Fr.tr (M1 := M_6) (by rw [he]; exact Fr.wrI rfl) ?_
  obtain ⟨M_7, he, h⟩ := ltv_ex h
  refine Fr.tr (M1 := M_7) (by rw [he]; exact Fr.cpI rfl) ?_
  obtain ⟨M_8, he, h⟩ := ltv_ex h
  refine Fr.tr (M1 := M_8) (by rw [he]; exact Fr.cpJ rfl) ?_
  obtain ⟨M_9, he, h⟩ := ltv_ex h
  refine Fr.tr (M1 := M_9) (by rw [he]; exact Fr.cpJ rfl) ?_
  cases h
  exact Fr.refl
theorem z_f_X0_copyOf_55_50 {M : Mm} {M' : Mm}  (h : f_X0_copyOf_55_50 M = some M') : Fr [(55, 0), (55, 1), (55, 2), (55, 5), (55, 7), (56, 999), (57, 999), (58, 999)] M M' := by
  unfold f_X0_copyOf_55_50 at h
  exact z_bb_X0_copyOf_55_50_0 h
theorem z_bb_X0_copyOf_50_59_0 {M : Mm} {M' : Mm}  (h : bb_X0_copyOf_50_59_0 M = some M') : Fr [(50, 0), (50, 1), (50, 2), (50, 5), (50, 7), (51, 999), (52, 999), (53, 999)] M M' := by
  unfold bb_X0_copyOf_50_59_0 at h
  obtain ⟨M_1, he, h⟩ := ltv_ex h
  refine Fr.tr (M1 := M_1) (by rw [he]; exact Fr.wrI rfl) ?_
  obtain ⟨M_2, he, h⟩ := ltv_ex h
  refine Fr.tr (M1 := M_2) (by rw [he]; exact Fr.wrJ rfl) ?_
  obtain ⟨hg0, h⟩ := gd_ex h
  obtain ⟨M_4, he, h⟩ := ltv_ex h
  refine Fr.tr (M1 := M_4) (by rw [he]; exact Fr.wrI rfl) ?_
  obtain ⟨M_5, he, h⟩ := ltv_ex h
  refine Fr.tr (M1 := M_5) (by rw [he]; exact Fr.wrI rfl) ?_
  obtain ⟨M_6, he, h⟩ := ltv_ex h
  refine Fr.tr (M1 := M_6) (by rw [he]; exact Fr.wrI rfl) ?_
  obtain ⟨M_7, he, h⟩ := ltv_ex h
  refine Fr.tr (M1 := M_7) (by rw [he]; exact Fr.cpI rfl) ?_
  obtain ⟨M_8, he, h⟩ := ltv_ex h
  refine Fr.tr (M1 := M_8) (by rw [he]; exact Fr.cpJ rfl) ?_
  obtain ⟨M_9, he, h⟩ := ltv_ex h
  refine Fr.tr (M1 := M_9) (by rw [he]; exact Fr.cpJ rfl) ?_
  cases h
  exact Fr.refl
theorem z_f_X0_copyOf_50_59 {M : Mm} {M' : Mm}  (h : f_X0_copyOf_50_59 M = some M') : Fr [(50, 0), (50, 1), (50, 2), (50, 5), (50, 7), (51, 999), (52, 999), (53, 999)] M M' := by
  unfold f_X0_copyOf_50_59 at h
  exact z_bb_X0_copyOf_50_59_0 h
theorem z_bb_X0_copyOf_59_50_0 {M : Mm} {M' : Mm}  (h : bb_X0_copyOf_59_50_0 M = some M') : Fr [(59, 0), (59, 1), (59, 2), (59, 5), (59, 7), (60, 999), (61, 999), (62, 999)] M M' := by
  unfold bb_X0_copyOf_59_50_0 at h
  obtain ⟨M_1, he, h⟩ := ltv_ex h
  refine Fr.tr (M1 := M_1) (by rw [he]; exact Fr.wrI rfl) ?_
  obtain ⟨M_2, he, h⟩ := ltv_ex h
  refine Fr.tr (M1 := M_2) (by rw [he]; exact Fr.wrJ rfl) ?_
  obtain ⟨hg0, h⟩ := gd_ex h
  obtain ⟨M_4, he, h⟩ := ltv_ex h
  refine Fr.tr (M1 := M_4) (by rw [he]; exact Fr.wrI rfl) ?_
  obtain ⟨M_5, he, h⟩ := ltv_ex h
  refine Fr.tr (M1 := M_5) (by rw [he]; exact Fr.wrI rfl) ?_
  obtain ⟨M_6, he, h⟩ := ltv_ex h
  refine Fr.tr (M1 := M_6) (by rw [he]; exact Fr.wrI rfl) ?_
  obtain ⟨M_7, he, h⟩ := ltv_ex h
  refine Fr.tr (M1 := M_7) (by rw [he]; exact Fr.cpI rfl) ?_
  obtain ⟨M_8, he, h⟩ := ltv_ex h
  refine Fr.tr (M1 := M_8) (by rw [he]; exact Fr.cpJ rfl) ?_
  obtain ⟨M_9, he, h⟩ := ltv_ex h
  refine Fr.tr (M1 := M_9) (by rw [he]; exact Fr.cpJ rfl) ?_
  cases h
  exact Fr.refl
theorem z_f_X0_copyOf_59_50 {M : Mm} {M' : Mm}  (h : f_X0_copyOf_59_50 M = some M') : Fr [(59, 0), (59, 1), (59, 2), (59, 5), (59, 7), (60, 999), (61, 999), (62, 999)] M M' := by
  unfold f_X0_copyOf_59_50 at h
  exact z_bb_X0_copyOf_59_50_0 h
theorem z_bb_X0_copyOf_50_63_0 {M : Mm} {M' : Mm}  (h : bb_X0_copyOf_50_63_0 M = some M') : Fr [(50, 0), (50, 1), (50, 2), (50, 5), (50, 7), (51, 999), (52, 999), (53, 999)] M M' := by
  unfold bb_X0_copyOf_50_63_0 at h
  obtain ⟨M_1, he, h⟩ := ltv_ex h
  refine Fr.tr (M1 := M_1) (by rw [he]; exact Fr.wrI rfl) ?_
  obtain ⟨M_2, he, h⟩ := ltv_ex h
  refine Fr.tr (M1 := M_2) (by rw [he]; exact Fr.wrJ rfl) ?_
  obtain ⟨hg0, h⟩ := gd_ex h
  obtain ⟨M_4, he, h⟩ := ltv_ex h
  refine Fr.tr (M1 := M_4) (by rw [he]; exact Fr.wrI rfl) ?_
  obtain ⟨M_5, he, h⟩ := ltv_ex h
  refine Fr.tr (M1 := M_5) (by rw [he]; exact Fr.wrI rfl) ?_
  obtain ⟨M_6, he, h⟩ := ltv_ex h
  refine Fr.tr (M1 := M_6) (by rw [he]; exact Fr.wrI rfl) ?_
  obtain ⟨M_7, he, h⟩ := ltv_ex h
  refine Fr.tr (M1 := M_7) (by rw [he]; exact Fr.cpI rfl) ?_
  obtain ⟨M_8, he, h⟩ := ltv_ex h
  refine Fr.tr (M1 := M_8) (by rw [he]; exact Fr.cpJ rfl) ?_
  obtain ⟨M_9, he, h⟩ := ltv_ex h
  refine Fr.tr (M1 := M_9) (by rw [he]; exact Fr.cpJ rfl) ?_
  cases h
  exact Fr.refl
theorem z_f_X0_copyOf_50_63 {M : Mm} {M' : Mm}  (h : f_X0_copyOf_50_63 M = some M') : Fr [(50, 0), (50, 1), (50, 2), (50, 5), (50, 7), (51, 999), (52, 999), (53, 999)] M M' := by
  unfold f_X0_copyOf_50_63 at h
  exact z_bb_X0_copyOf_50_63_0 h
theorem z_bb_X0_copyOf_63_50_0 {M : Mm} {M' : Mm}  (h : bb_X0_copyOf_63_50_0 M = some M') : Fr [(63, 0), (63, 1), (63, 2), (63, 5), (63, 7), (64, 999), (65, 999), (66, 999)] M M' := by
  unfold bb_X0_copyOf_63_50_0 at h
  obtain ⟨M_1, he, h⟩ := ltv_ex h
  refine Fr.tr (M1 := M_1) (by rw [he]; exact Fr.wrI rfl) ?_
  obtain ⟨M_2, he, h⟩ := ltv_ex h
  refine Fr.tr (M1 := M_2) (by rw [he]; exact Fr.wrJ rfl) ?_
  obtain ⟨hg0, h⟩ := gd_ex h
  obtain ⟨M_4, he, h⟩ := ltv_ex h
  refine Fr.tr (M1 := M_4) (by rw [he]; exact Fr.wrI rfl) ?_
  obtain ⟨M_5, he, h⟩ := ltv_ex h
  refine Fr.tr (M1 := M_5) (by rw [he]; exact Fr.wrI rfl) ?_
  obtain ⟨M_6, he, h⟩ := ltv_ex h
  refine Fr.tr (M1 := M_6) (by rw [he]; exact Fr.wrI rfl) ?_
  obtain ⟨M_7, he, h⟩ := ltv_ex h
  refine Fr.tr (M1 := M_7) (by rw [he]; exact Fr.cpI rfl) ?_
  obtain ⟨M_8, he, h⟩ := ltv_ex h
  refine Fr.tr (M1 := M_8) (by rw [he]; exact Fr.cpJ rfl) ?_
  obtain ⟨M_9, he, h⟩ := ltv_ex h
  refine Fr.tr (M1 := M_9) (by rw [he]; exact Fr.cpJ rfl) ?_
  cases h
  exact Fr.refl
theorem z_f_X0_copyOf_63_50 {M : Mm} {M' : Mm}  (h : f_X0_copyOf_63_50 M = some M') : Fr [(63, 0), (63, 1), (63, 2), (63, 5), (63, 7), (64, 999), (65, 999), (66, 999)] M M' := by
  unfold f_X0_copyOf_63_50 at h
  exact z_bb_X0_copyOf_63_50_0 h
