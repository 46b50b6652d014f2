-- ===== the class lays the lines =====
def whB (d i s : Nat) : Bool := if d < 2 then decide (s / 8 = i) else decide (s % 8 = i)
def whL (d i : Nat) : Int64 := if d < 2 then shL 255 (nI (8 * i)) else shL 72340172838076673 (nI i)
theorem lb_whL {d i s : Nat} (hi : i < 8) (hs : s < 64) : lb (whL d i) s = whB d i s := by
  unfold whL whB
  by_cases h : d < 2
  · rw [if_pos h, if_pos h, lb_shl (by omega) _ hs]
    by_cases q : 8 * i ≤ s
    · rw [lb_FF _ (by omega), decide_eq_true q, Bool.true_and]
      congr 1
      apply propext
      omega
    · rw [decide_eq_false q, Bool.false_and]
      symm
      rw [decide_eq_false_iff_not]
      omega
  · rw [if_neg h, if_neg h, lb_shl (by omega) _ hs]
    by_cases q : i ≤ s
    · rw [lb_01 _ (by omega), decide_eq_true q, Bool.true_and]
      congr 1
      apply propext
      omega
    · rw [decide_eq_false q, Bool.false_and]
      symm
      rw [decide_eq_false_iff_not]
      omega
theorem and_z {x y : Int64} : (x &&& y) = 0 ↔ ∀ s, s < 64 → lb x s = true → lb y s = false := by
  rw [lb_zero]
  constructor
  · intro h s hs hx
    have := h s hs
    rw [lb_and, hx, Bool.true_and] at this
    exact this
  · intro h s hs
    rw [lb_and]
    cases hx : lb x s with
    | false => rfl
    | true => rw [h s hs hx]; rfl
theorem whB_sl {d s j : Nat} : whB d (if d < 2 then s / 8 else s % 8) j = true ↔ slD d s j := by
  unfold whB slD
  by_cases h : d < 2
  · rw [if_pos h, if_pos h, decide_eq_true_eq]
    constructor
    · intro e
      exact ⟨fun _ => e.symm, fun q => by omega⟩
    · intro e
      exact (e.1 h).symm
  · rw [if_neg h, if_neg h, decide_eq_true_eq]
    constructor
    · intro e
      exact ⟨fun q => absurd q h, fun _ => e.symm⟩
    · intro e
      exact (e.2 (by omega)).symm
theorem wh_at {d i s : Nat} (h : whB d i s = true) : i = if d < 2 then s / 8 else s % 8 := by
  unfold whB at h
  by_cases q : d < 2
  · rw [if_pos q] at h ⊢
    exact (of_decide_eq_true h).symm
  · rw [if_neg q] at h ⊢
    exact (of_decide_eq_true h).symm
/-- a line without ink is open all along -/
theorem wh_open {ink : Int64} {d i s : Nat} (hd : d < 4) (hi : i < 8) (hs : s < 64) (h0 : (whL d i &&& ink) = 0) (hw : whB d i s = true) : opn ink d s = true := by
  rw [opn_pos hd hs]
  intro j hj hsl _
  rw [and_z] at h0
  apply h0 j hj
  rw [lb_whL hi hj, wh_at hw]
  exact whB_sl.mpr hsl
theorem wh_both {ink : Int64} {d i s : Nat} (hd : d = 0 ∨ d = 2) (hi : i < 8) (hs : s < 64) (hw : whB d i s = true) (h1 : opn ink d s = true) (h2 : opn ink (d + 1) s = true) : (whL d i &&& ink) = 0 := by
  rw [opn_pos (by omega) hs] at h1 h2
  rw [and_z]
  intro j hj hb
  rw [lb_whL hi hj, wh_at hw] at hb
  have sl := whB_sl.mp hb
  by_cases q : tD d j ≤ tD d s
  · exact h1 j hj sl q
  · refine h2 j hj ?_ ?_
    · obtain ⟨a1, a2⟩ := sl
      rcases hd with rfl | rfl
      · exact ⟨fun _ => a1 (by decide), fun z => by omega⟩
      · exact ⟨fun z => by omega, fun _ => a2 (by decide)⟩
    · rcases hd with rfl | rfl <;> (simp only [tD] at q ⊢; omega)
theorem whL_1 (i : Nat) : whL 1 i = whL 0 i := rfl
theorem whL_3 (i : Nat) : whL 3 i = whL 2 i := rfl
theorem whB_1 (i s : Nat) : whB 1 i s = whB 0 i s := rfl
theorem whB_3 (i s : Nat) : whB 3 i s = whB 2 i s := rfl
/-- even sides: what is reached along the line -/
theorem tk_even {ink v : Int64} {d i : Nat} (hd : d = 0 ∨ d = 2) (hi : i < 8) (hv : ∀ s, s < 64 → lb v s = opn ink d s) : (v &&& whL d i) = Tk ink (8 * d + i) := by
  apply lb_ext
  intro s hs
  rw [lb_and, hv s hs, lb_whL hi hs, lb_Tk _ _ hs]
  unfold tkB rwL clL whB
  rcases hd with rfl | rfl
  · rw [if_pos (by decide)]
    cases h0 : opn ink 0 s with
    | true =>
      have e2 : ¬ (if opn ink 2 s = true then 16 + s % 8 else if opn ink 3 s = true then 24 + s % 8 else 99) = 8 * 0 + i := by
        split
        · omega
        · split <;> omega
      rw [decide_eq_false e2, if_pos rfl, Bool.or_false, Bool.true_and]
      congr 1
      apply propext
      omega
    | false =>
      have e1 : ¬ (if false = true then s / 8 else if opn ink 1 s = true then 8 + s / 8 else 99) = 8 * 0 + i := by
        rw [if_neg (by decide)]
        split <;> omega
      have e2 : ¬ (if opn ink 2 s = true then 16 + s % 8 else if opn ink 3 s = true then 24 + s % 8 else 99) = 8 * 0 + i := by
        split
        · omega
        · split <;> omega
      rw [decide_eq_false e1, decide_eq_false e2]
      rfl
  · rw [if_neg (by decide)]
    have e1 : ¬ (if opn ink 0 s = true then s / 8 else if opn ink 1 s = true then 8 + s / 8 else 99) = 8 * 2 + i := by
      split
      · omega
      · split <;> omega
    rw [decide_eq_false e1, Bool.false_or]
    cases h0 : opn ink 2 s with
    | true =>
      rw [if_pos rfl, Bool.true_and]
      congr 1
      apply propext
      omega
    | false =>
      have e2 : ¬ (if false = true then 16 + s % 8 else if opn ink 3 s = true then 24 + s % 8 else 99) = 8 * 2 + i := by
        rw [if_neg (by decide)]
        split <;> omega
      rw [decide_eq_false e2]
      rfl
/-- odd sides: none where the line has no ink -/
theorem tk_odd {ink v : Int64} {d i : Nat} (hd : d = 0 ∨ d = 2) (hi : i < 8) (hv : ∀ s, s < 64 → lb v s = opn ink (d + 1) s) : (if (whL d i &&& ink) = 0 then 0 else v &&& whL d i) = Tk ink (8 * (d + 1) + i) := by
  apply lb_ext
  intro s hs
  rw [lb_Tk _ _ hs]
  -- the line's word
  have key : tkB ink (8 * (d + 1) + i) s = ((!opn ink d s && opn ink (d + 1) s) && whB d i s) := by
    unfold tkB rwL clL whB
    rcases hd with rfl | rfl
    · have e2 : ¬ (if opn ink 2 s = true then 16 + s % 8 else if opn ink 3 s = true then 24 + s % 8 else 99) = 8 * (0 + 1) + i := by
        split
        · omega
        · split <;> omega
      rw [decide_eq_false e2, Bool.or_false, if_pos (show 0 < 2 by decide)]
      show decide ((if opn ink 0 s = true then s / 8 else if opn ink 1 s = true then 8 + s / 8 else 99) = 8 * (0 + 1) + i) = ((!opn ink 0 s && opn ink 1 s) && decide (s / 8 = i))
      cases opn ink 0 s <;> cases opn ink 1 s <;> simp <;> omega
    · have e2 : ¬ (if opn ink 0 s = true then s / 8 else if opn ink 1 s = true then 8 + s / 8 else 99) = 8 * (2 + 1) + i := by
        split
        · omega
        · split <;> omega
      rw [decide_eq_false e2, Bool.false_or, if_neg (show ¬ 2 < 2 by decide)]
      show decide ((if opn ink 2 s = true then 16 + s % 8 else if opn ink 3 s = true then 24 + s % 8 else 99) = 8 * (2 + 1) + i) = ((!opn ink 2 s && opn ink 3 s) && decide (s % 8 = i))
      cases opn ink 2 s <;> cases opn ink 3 s <;> simp <;> omega
  rw [key]
  by_cases h0 : (whL d i &&& ink) = 0
  · rw [if_pos h0, lb_0]
    cases hw : whB d i s with
    | false => rw [Bool.and_false]
    | true =>
      rw [wh_open (by omega) hi hs h0 hw]
      rfl
  · rw [if_neg h0, lb_and, hv s hs, lb_whL hi hs]
    cases hw : whB d i s with
    | false => rw [Bool.and_false, Bool.and_false]
    | true =>
      cases h1 : opn ink (d + 1) s with
      | false => rw [Bool.and_false, Bool.false_and]
      | true =>
        have : opn ink d s = false := by
          cases h2 : opn ink d s with
          | false => rfl
          | true => exact absurd (wh_both hd hi hs hw h2 h1) h0
        rw [this]
        rfl
def TkC (ink : Int64) (M : Mm) : Prop := ∀ l, l < 32 → M.2 20 l = Tk ink l
theorem lay17 {ink v : Int64} {d : Nat} {M a : Mm} (k2 : Int64 → Int32 → Mm → Option Mm) (hd : d < 4) (hv : ∀ s, s < 64 → lb v s = opn ink d s) (hf : Fr [(20, 999)] M a) (hI : ∀ l, l < 8 * d → a.2 20 l = Tk ink l) : ∃ a', b_X3_lay_19_17 k2 FU ink (nI d) v 0 a = k2 ink (nI (d + 1)) a' ∧ Fr [(20, 999)] M a' ∧ ∀ l, l < 8 * (d + 1) → a'.2 20 l = Tk ink l := by
  refine for_q (fun q i (b : Mm) => b_X3_lay_19_17 k2 q ink (nI d) v (nI i) b) 8 (fun i b => Fr [(20, 999)] M b ∧ ∀ l, l < 8 * d + i → b.2 20 l = Tk ink l) (fun o => ∃ a', o = k2 ink (nI (d + 1)) a' ∧ Fr [(20, 999)] M a' ∧ ∀ l, l < 8 * (d + 1) → a'.2 20 l = Tk ink l) ?_ ?_ 8 0 a FU rfl (by decide) ⟨hf, hI⟩
  · rintro q i b hi ⟨f1, h1⟩
    right
    refine ⟨wJ b 20 (8 * d + i) (Tk ink (8 * d + i)), ?_, Fr.tr f1 (Fr.wJa rfl), fun l hl => ?_⟩
    · show bb_X3_lay_19_17 _ _ _ _ _ _ _ = _
      unfold bb_X3_lay_19_17
      rw [if_neg (show ¬ (8 : Int32) ≤ nI i from nI_ge (b := 8) hi (by decide))]
      have e8 : (8 : Int32) * nI d + nI i = nI (8 * d + i) := by rw [← nI_add, ← pk_mul]; rfl
      have w0 : ∀ s0 : Int64, bb_X3_lay_19_69 (b_X3_lay_19_17 k2 q) ink (nI d) v (nI i) s0 b = b_X3_lay_19_17 k2 q ink (nI d) v (nI (i + 1)) (wJ b 20 (8 * d + i) (v &&& s0)) := by
        intro s0
        unfold bb_X3_lay_19_69 bb_X3_lay_19_70
        rw [if_pos rfl, e8, gd_of (inb_nI (by omega) (by decide)), ltv_eq, ltv_eq, nI_1, ix_nI (by omega)]
      have w1 : ∀ s0 : Int64, bb_X3_lay_19_70 (b_X3_lay_19_17 k2 q) ink (nI d) v (nI i) s0 1 b = b_X3_lay_19_17 k2 q ink (nI d) v (nI (i + 1)) (wJ b 20 (8 * d + i) 0) := by
        intro s0
        unfold bb_X3_lay_19_70
        rw [if_neg (by decide), e8, gd_of (inb_nI (by omega) (by decide)), ltv_eq, ltv_eq, nI_1, ix_nI (by omega)]
      have w47 : bb_X3_lay_19_47 (b_X3_lay_19_17 k2 q) ink (nI d) v (nI i) (whL d i) b = b_X3_lay_19_17 k2 q ink (nI d) v (nI (i + 1)) (wJ b 20 (8 * d + i) (Tk ink (8 * d + i))) := by
        unfold bb_X3_lay_19_47
        rcases (show d = 0 ∨ d = 1 ∨ d = 2 ∨ d = 3 by omega) with rfl | rfl | rfl | rfl
        · rw [if_neg (by decide), w0, tk_even (Or.inl rfl) hi hv]
        · have t := tk_odd (d := 0) (Or.inl rfl) hi hv
          rw [if_pos (by decide), whL_1, w1, w0]
          by_cases h0 : (whL 0 i &&& ink) = 0
          · rw [if_pos h0] at t ⊢
            rw [t]
          · rw [if_neg h0] at t ⊢
            rw [t]
        · rw [if_neg (by decide), w0, tk_even (Or.inr rfl) hi hv]
        · have t := tk_odd (d := 2) (Or.inr rfl) hi hv
          rw [if_pos (by decide), whL_3, w1, w0]
          by_cases h0 : (whL 2 i &&& ink) = 0
          · rw [if_pos h0] at t ⊢
            rw [t]
          · rw [if_neg h0] at t ⊢
            rw [t]
      by_cases h2 : d < 2
      · have e : whL d i = shL 255 (nI (8 * i)) := if_pos h2
        rw [e] at w47
        rw [if_neg (show ¬ (2 : Int32) ≤ nI d from nI_ge (b := 2) h2 (by decide)), show (8 : Int32) * nI i = nI (8 * i) from pk_mul 8 i]
        exact w47
      · have e : whL d i = shL 72340172838076673 (nI i) := if_neg h2
        rw [e] at w47
        rw [if_pos (show (2 : Int32) ≤ nI d from nI_le (a := 2) (by omega) (by omega))]
        exact w47
    · by_cases e : l = 8 * d + i
      · subst e
        exact wJ_at
      · have : ∀ w, (wJ b 20 (8 * d + i) w).2 20 l = b.2 20 l := fun w => if_neg (fun z => e z.2)
        rw [this]
        exact h1 l (by omega)
  · rintro q b ⟨f1, h1⟩
    show ∃ a', bb_X3_lay_19_17 _ _ _ _ _ _ _ = _ ∧ _
    unfold bb_X3_lay_19_17
    rw [if_pos (by decide), ltv_eq, nI_1]
    exact ⟨b, rfl, f1, fun l hl => h1 l (by omega)⟩
theorem lay_c (ink : Int64) (M : Mm) : ∃ M', f_X3_lay_19 ink M = some M' ∧ Fr [(20, 999)] M M' ∧ TkC ink M' := by
  refine for_q (fun q d (b : Mm) => b_X3_lay_19_2 q ink (nI d) b) 4 (fun d b => Fr [(20, 999)] M b ∧ ∀ l, l < 8 * d → b.2 20 l = Tk ink l) (fun o => ∃ M', o = some M' ∧ Fr [(20, 999)] M M' ∧ TkC ink M') ?_ ?_ 4 0 M FU rfl (by decide) ⟨Fr.refl, fun l hl => by omega⟩
  · rintro q d b hd ⟨f1, h1⟩
    right
    obtain ⟨v, ev, hv⟩ := reachedFrom_ok ink d hd
    obtain ⟨a', e1, e2, e3⟩ := lay17 (b_X3_lay_19_2 q) hd hv f1 h1
    refine ⟨a', ?_, e2, e3⟩
    show bb_X3_lay_19_2 _ _ _ _ = _
    unfold bb_X3_lay_19_2
    rw [if_neg (show ¬ (4 : Int32) ≤ nI d from nI_ge (b := 4) hd (by decide)), ev, bd_some, e1]
  · rintro q b ⟨f1, h1⟩
    show ∃ M', bb_X3_lay_19_2 _ _ _ _ = _ ∧ _
    unfold bb_X3_lay_19_2
    rw [if_pos (by decide)]
    exact ⟨b, rfl, f1, h1⟩
-- ===== what may be taken without W =====
theorem lbitT {W l : Nat} (hl : l < 64) : (lN W &&& shL 1 (nI l) = 0) ↔ W.testBit l = false := by
  rw [lb_zero]
  constructor
  · intro h
    have := h l hl
    rw [lb_and, lb_lN hl, lb_one hl hl, decide_eq_true rfl, Bool.and_true] at this
    exact this
  · intro h i hi
    rw [lb_and, lb_lN hi, lb_one hl hi]
    by_cases e : i = l
    · subst e
      rw [h]
      rfl
    · rw [decide_eq_false e, Bool.and_false]
theorem any_c {ink : Int64} {M : Mm} {W f : Nat} (hT : TkC ink M) (hf : f = 0 ∨ f = 16) : ∃ v, f_X3_takenByAny_19 (nI f) (lN W) M = some v ∧ ∀ i, i < 64 → lb v i = anB (fun j => !W.testBit (f + j) && tkB ink (f + j) i) 16 := by
  refine for_q (fun q k (v : Int64) => b_X3_takenByAny_19_6 q (nI f) (lN W) v (nI (f + k)) M) 16 (fun k v => ∀ i, i < 64 → lb v i = anB (fun j => !W.testBit (f + j) && tkB ink (f + j) i) k) (fun o => ∃ v, o = some v ∧ ∀ i, i < 64 → lb v i = anB (fun j => !W.testBit (f + j) && tkB ink (f + j) i) 16) ?_ ?_ 16 0 0 FU rfl (by decide) (fun i _ => lb_0 i)
  · intro q k v hk hI
    right
    show ∃ a', bb_X3_takenByAny_19_6 _ _ _ _ _ _ = _ ∧ ∀ i, i < 64 → lb a' i = (anB (fun j => !W.testBit (f + j) && tkB ink (f + j) i) k || (!W.testBit (f + k) && tkB ink (f + k) i))
    unfold bb_X3_takenByAny_19_6
    rw [if_neg (nI_pos (by omega)), show nI f + (16 : Int32) = nI (f + 16) from nI_add f 16, if_neg (nI_ge (by omega) (by omega)), if_neg (show ¬ (32 : Int32) ≤ nI (f + k) from nI_ge (b := 32) (by omega) (by decide))]
    cases hb : W.testBit (f + k) with
    | false =>
      refine ⟨v ||| Tk ink (f + k), ?_, fun i hi => ?_⟩
      · rw [if_pos ((lbitT (by omega)).mpr hb), gd_of (inb_nI (by omega) (by decide)), ltv_eq, ltv_eq, nI_1, ix_nI (by omega), hT _ (by omega)]
        rfl
      · rw [lb_or, hI i hi, lb_Tk _ _ hi]
        rfl
    | true =>
      refine ⟨v, ?_, fun i hi => ?_⟩
      · rw [if_neg (fun z => by rw [(lbitT (by omega)).mp z] at hb; cases hb), ltv_eq, nI_1]
        rfl
      · rw [hI i hi]
        simp
  · intro q v hI
    show ∃ v', bb_X3_takenByAny_19_6 _ _ _ _ _ _ = _ ∧ _
    unfold bb_X3_takenByAny_19_6
    rw [if_neg (nI_pos (by omega)), show nI f + (16 : Int32) = nI (f + 16) from nI_add f 16, if_pos (nI_le (Nat.le_refl _) (by omega))]
    exact ⟨v, rfl, hI⟩
theorem any_r {ink : Int64} {W i : Nat} (hi : i < 64) : anB (fun j => !W.testBit (0 + j) && tkB ink (0 + j) i) 16 = okL W (rwL ink i) := by
  apply bool_ext
  rw [anB_iff]
  unfold okL tkB
  constructor
  · rintro ⟨j, hj, h⟩
    simp only [Nat.zero_add, Bool.and_eq_true, Bool.or_eq_true, Bool.not_eq_true', decide_eq_true_eq] at h
    rcases h.2 with q | q
    · have n9 : ¬ rwL ink i = 99 := by omega
      rw [q, h.1, ← q, decide_eq_false n9]
      rfl
    · rcases clL_or ink hi with z | z <;> omega
  · intro h
    simp only [Bool.and_eq_true, Bool.not_eq_true', decide_eq_false_iff_not] at h
    rcases rwL_or ink hi with z | z
    · refine ⟨rwL ink i, z, ?_⟩
      rw [Nat.zero_add, h.2, decide_eq_true rfl]
      rfl
    · exact absurd z h.1
theorem any_k {ink : Int64} {W i : Nat} (hi : i < 64) : anB (fun j => !W.testBit (16 + j) && tkB ink (16 + j) i) 16 = okL W (clL ink i) := by
  apply bool_ext
  rw [anB_iff]
  unfold okL tkB
  constructor
  · rintro ⟨j, hj, h⟩
    simp only [Bool.and_eq_true, Bool.or_eq_true, Bool.not_eq_true', decide_eq_true_eq] at h
    rcases h.2 with q | q
    · rcases rwL_or ink hi with z | z <;> omega
    · have n9 : ¬ clL ink i = 99 := by omega
      rw [q, h.1, ← q, decide_eq_false n9]
      rfl
  · intro h
    simp only [Bool.and_eq_true, Bool.not_eq_true', decide_eq_false_iff_not] at h
    rcases clL_or ink hi with z | z
    · refine ⟨clL ink i - 16, by omega, ?_⟩
      rw [show 16 + (clL ink i - 16) = clL ink i by omega, h.2, decide_eq_true (show clL ink i = clL ink i from rfl), Bool.or_true]
      rfl
    · exact absurd z h.1
