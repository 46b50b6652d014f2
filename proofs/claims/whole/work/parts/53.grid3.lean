-- ===== the model's beside; the class's turns =====
def addIf (c : Bool) (v : Int64) (n : Nat) : Int64 := if c then v ||| shL 1 (nI n) else v
theorem lb_addIf {c : Bool} {v : Int64} {n i : Nat} (hn : c = true → n < 64) (hi : i < 64) : lb (addIf c v n) i = (lb v i || (c && decide (i = n))) := by
  unfold addIf
  cases c with
  | true => rw [if_pos rfl, lb_set _ (hn rfl) hi, Bool.true_and]
  | false => rw [if_neg (by decide), Bool.false_and, Bool.or_false]
def nbr (s j : Nat) : Bool := (((decide (0 < s % 8) && decide (j = s - 1)) || (decide (s % 8 < 7) && decide (j = s + 1))) || (decide (7 < s) && decide (j = s - 8))) || (decide (s < 56) && decide (j = s + 8))
theorem beside_s (n : Nat) (x : Int64) {k : Nat} (a : Int64) (hk : k < 64) (hb : lb x k = true) : b_X10_beside_5 (n + 1) x a (nI k) = b_X10_beside_5 n x (addIf (decide (k < 56)) (addIf (decide (7 < k)) (addIf (decide (k % 8 < 7)) (addIf (decide (0 < k % 8)) a (k - 1)) (k + 1)) (k - 8)) (k + 8)) (nI (k + 1)) := by
  show bb_X10_beside_5 _ _ _ _ = _
  have r8 : rmI (nI k) 8 = nI (k % 8) := rmI_nI (by omega) (by decide) (by decide)
  have c4 : ∀ v, bb_X10_beside_77 (b_X10_beside_5 n) x v (nI k) = b_X10_beside_5 n x (addIf (decide (k < 56)) v (k + 8)) (nI (k + 1)) := by
    intro v
    unfold bb_X10_beside_77 addIf
    by_cases h : k < 56
    · rw [if_neg (show ¬ (56 : Int32) ≤ nI k from nI_ge h (by decide)), ltv_eq, ltv_eq, nI_1, show nI k + 8 = nI (k + 8) from nI_add k 8]
      simp [h]
    · rw [if_pos (show (56 : Int32) ≤ nI k from nI_le (a := 56) (b := k) (by omega) (by omega)), ltv_eq, nI_1]
      simp [h]
  have c3 : ∀ v, bb_X10_beside_60 (b_X10_beside_5 n) x v (nI k) = bb_X10_beside_77 (b_X10_beside_5 n) x (addIf (decide (7 < k)) v (k - 8)) (nI k) := by
    intro v
    unfold bb_X10_beside_60 addIf
    by_cases h : 7 < k
    · rw [if_neg (show ¬ nI k ≤ (7 : Int32) from nI_ge h (by omega)), ltv_eq, show nI k - 8 = nI (k - 8) from nI_sub (a := k) (b := 8) (by omega)]
      simp [h]
    · rw [if_pos (show nI k ≤ (7 : Int32) from nI_le (a := k) (b := 7) (by omega) (by decide))]
      simp [h]
  have c2 : ∀ v, bb_X10_beside_41 (b_X10_beside_5 n) x v (nI k) = bb_X10_beside_60 (b_X10_beside_5 n) x (addIf (decide (k % 8 < 7)) v (k + 1)) (nI k) := by
    intro v
    unfold bb_X10_beside_41 addIf
    rw [r8]
    by_cases h : k % 8 < 7
    · rw [if_neg (show ¬ (7 : Int32) ≤ nI (k % 8) from nI_ge h (by decide)), ltv_eq, nI_1]
      simp [h]
    · rw [if_pos (show (7 : Int32) ≤ nI (k % 8) from nI_le (a := 7) (b := k % 8) (by omega) (by omega))]
      simp [h]
  unfold bb_X10_beside_5
  rw [if_neg (show ¬ (64 : Int32) ≤ nI k from nI_ge hk (by decide)), is_t hk hb, bd_some, if_neg (by decide), r8]
  by_cases h : 0 < k % 8
  · rw [if_neg (show ¬ nI (k % 8) ≤ 0 from nI_nle h (by omega)), ltv_eq, show nI k - 1 = nI (k - 1) from nI_sub (a := k) (b := 1) (by omega), c2, c3, c4]
    simp [addIf, h]
  · rw [if_pos (show nI (k % 8) ≤ 0 from nI_le (a := k % 8) (b := 0) (by omega) (by decide)), c2, c3, c4]
    simp [addIf, h]
theorem adj_nbr (x : Int64) {j : Nat} (hj : j < 64) : anB (fun s => lb x s && nbr s j) 64 = adjB x j := by
  apply Bool.eq_iff_iff.mpr
  rw [anB_iff]
  unfold adjB nbr
  simp only [tD, pD, Bool.and_eq_true, Bool.or_eq_true, decide_eq_true_eq]
  constructor
  · rintro ⟨s, hs, hb, (((h | h) | h) | h)⟩
    · have e : s = j + 1 := by omega
      subst e
      exact Or.inl (Or.inl (Or.inr ⟨by omega, hb⟩))
    · have e : s = j - 1 := by omega
      subst e
      exact Or.inl (Or.inl (Or.inl ⟨by omega, hb⟩))
    · have e : s = j + 8 := by omega
      subst e
      exact Or.inr ⟨by omega, hb⟩
    · have e : s = j - 8 := by omega
      subst e
      exact Or.inl (Or.inr ⟨by omega, hb⟩)
  · rintro (((h | h) | h) | h)
    · exact ⟨j - 1, by omega, h.2, Or.inl (Or.inl (Or.inr (by omega)))⟩
    · exact ⟨j + 1, by omega, h.2, Or.inl (Or.inl (Or.inl (by omega)))⟩
    · exact ⟨j - 8, by omega, h.2, Or.inr (by omega)⟩
    · exact ⟨j + 8, by omega, h.2, Or.inl (Or.inr (by omega))⟩
theorem g_beside (x : Int64) : f_X10_beside x = some (Adj x) := by
  have main : Gv (fun y => ∀ j, j < 64 → lb y j = anB (fun s => lb x s && nbr s j) 64) (f_X10_beside x) := by
    show Gv _ (b_X10_beside_5 FU x 0 (nI 0))
    refine for_q (fun n k a => b_X10_beside_5 n x a (nI k)) 64 (fun k a => ∀ j, j < 64 → lb a j = anB (fun s => lb x s && nbr s j) k) _ ?_ ?_ 64 0 _ FU rfl (by decide) ?_
    · intro n k a hk hI
      right
      cases hb : lb x k with
      | true =>
        refine ⟨_, beside_s n x a hk hb, ?_⟩
        intro j hj
        rw [lb_addIf (by simp; omega) hj, lb_addIf (by simp; omega) hj, lb_addIf (by simp; omega) hj, lb_addIf (by simp; omega) hj, hI j hj]
        show _ = (anB _ k || (lb x k && nbr k j))
        rw [hb, Bool.true_and]
        unfold nbr
        simp only [Bool.or_assoc]
      | false =>
        refine ⟨a, ?_, ?_⟩
        · show bb_X10_beside_5 _ _ _ _ = _
          unfold bb_X10_beside_5
          rw [if_neg (show ¬ (64 : Int32) ≤ nI k from nI_ge hk (by decide)), is_f hk hb, bd_some, if_pos rfl, ltv_eq, nI_1]
        · intro j hj
          rw [hI j hj]
          show _ = (anB _ k || (lb x k && nbr k j))
          rw [hb, Bool.false_and, Bool.or_false]
    · intro n a hI
      exact ⟨a, rfl, hI⟩
    · intro j hj
      rw [lb_0]
      rfl
  obtain ⟨v, e, h⟩ := main
  rw [e]
  congr 1
  apply ofB_lb
  intro j hj
  rw [h j hj, adj_nbr x hj]
-- mirrored, by halves
def swS (w i : Nat) : Nat := if i % (2 * w) < w then i + w else i - w
theorem sw_bit {w : Nat} {m : Int64} (x : Int64) (hw : 0 < w ∧ w < 64) (hm : ∀ i, i < 64 → lb m i = decide (i % (2 * w) < w)) (h2 : ∀ i, i < 64 → swS w i < 64 ∧ (i % (2 * w) < w ∨ w ≤ i) ∧ (¬ i % (2 * w) < w → (i - w) % (2 * w) < w) ∧ (i % (2 * w) < w → w ≤ i → ¬ (i - w) % (2 * w) < w)) {i : Nat} (hi : i < 64) : lb ((shL (x &&& m) (nI w)) ||| ((ushL x (nI w)) &&& m)) i = lb x (swS w i) := by
  obtain ⟨_, a1, a2, a3⟩ := h2 i hi
  rw [lb_or, lb_shl hw.2 _ hi, lb_and, lb_and, lb_ushl hw.2, hm i hi, hm (i - w) (by omega)]
  unfold swS
  by_cases h : i % (2 * w) < w
  · rw [if_pos h, Nat.add_comm w i]
    by_cases h3 : w ≤ i
    · have := a3 h h3
      simp [h, this]
    · simp [h, h3]
  · have h3 : w ≤ i := by
      rcases a1 with q | q
      · exact absurd q h
      · exact q
    have := a2 h
    rw [if_neg h]
    simp [h, h3, this]
theorem sw4 : ∀ i, i < 64 → swS 4 i < 64 ∧ (i % (2 * 4) < 4 ∨ 4 ≤ i) ∧ (¬ i % (2 * 4) < 4 → (i - 4) % (2 * 4) < 4) ∧ (i % (2 * 4) < 4 → 4 ≤ i → ¬ (i - 4) % (2 * 4) < 4) := by decide +kernel
theorem sw2 : ∀ i, i < 64 → swS 2 i < 64 ∧ (i % (2 * 2) < 2 ∨ 2 ≤ i) ∧ (¬ i % (2 * 2) < 2 → (i - 2) % (2 * 2) < 2) ∧ (i % (2 * 2) < 2 → 2 ≤ i → ¬ (i - 2) % (2 * 2) < 2) := by decide +kernel
theorem sw1 : ∀ i, i < 64 → swS 1 i < 64 ∧ (i % (2 * 1) < 1 ∨ 1 ≤ i) ∧ (¬ i % (2 * 1) < 1 → (i - 1) % (2 * 1) < 1) ∧ (i % (2 * 1) < 1 → 1 ≤ i → ¬ (i - 1) % (2 * 1) < 1) := by decide +kernel
theorem sw_all : ∀ i, i < 64 → swS 4 (swS 2 (swS 1 i)) = mrS i := by decide +kernel
theorem lb_0F : ∀ i, i < 64 → lb 1085102592571150095 i = decide (i % (2 * 4) < 4) := by decide +kernel
theorem lb_33 : ∀ i, i < 64 → lb 3689348814741910323 i = decide (i % (2 * 2) < 2) := by decide +kernel
theorem lb_55 : ∀ i, i < 64 → lb 6148914691236517205 i = decide (i % (2 * 1) < 1) := by decide +kernel
theorem f_mirrored (x : Int64) : f_X4_mirrored x = some (Mir x) := by
  unfold f_X4_mirrored bb_X4_mirrored_0
  rw [ltv_eq, ltv_eq]
  congr 1
  apply ofB_lb
  intro i hi
  refine (sw_bit (w := 1) _ (by decide) lb_55 sw1 hi).trans ?_
  refine (sw_bit (w := 2) _ (by decide) lb_33 sw2 (sw1 i hi).1).trans ?_
  refine (sw_bit (w := 4) _ (by decide) lb_0F sw4 (sw2 _ (sw1 i hi).1).1).trans ?_
  rw [sw_all i hi]
-- crossed, by blocks
def csS (m : Nat → Bool) (k i : Nat) : Nat := if m i then i - k else if m (i + k) then i + k else i
theorem cs_bit {k : Nat} {m : Int64} (x : Int64) (hk : k < 64) (h2 : ∀ i, i < 64 → (lb m i = true → k ≤ i ∧ lb m (i + k) = false)) {i : Nat} (hi : i < 64) : lb ((x ^^^ ((x ^^^ (shL x (nI k))) &&& m)) ^^^ (ushL ((x ^^^ (shL x (nI k))) &&& m) (nI k))) i = lb x (csS (lb m) k i) := by
  rw [lb_xor, lb_xor, lb_ushl hk, lb_and, lb_and, lb_xor, lb_xor, lb_shl hk _ hi, Nat.add_comm k i]
  unfold csS
  cases h : lb m i with
  | true =>
    obtain ⟨a1, a2⟩ := h2 i hi h
    rw [a2]
    simp [a1]
  | false =>
    cases h3 : lb m (i + k) with
    | false => simp
    | true =>
      have h4 : i + k < 64 := by
        rcases Nat.lt_or_ge (i + k) 64 with q | q
        · exact q
        · rw [lb_big q] at h3
          cases h3
      rw [lb_shl hk _ h4]
      simp
      cases lb x i <;> cases lb x (i + k) <;> rfl
theorem cs28 : ∀ i, i < 64 → (lb 1085102592318504960 i = true → 28 ≤ i ∧ lb 1085102592318504960 (i + 28) = false) := by decide +kernel
theorem cs14 : ∀ i, i < 64 → (lb 3689292520605548544 i = true → 14 ≤ i ∧ lb 3689292520605548544 (i + 14) = false) := by decide +kernel
theorem cs7 : ∀ i, i < 64 → (lb 6124988953138320640 i = true → 7 ≤ i ∧ lb 6124988953138320640 (i + 7) = false) := by decide +kernel
def crS (i : Nat) : Nat := 8 * (i % 8) + i / 8
theorem cs_in : ∀ i, i < 64 → csS (lb 6124988953138320640) 7 i < 64 ∧ csS (lb 3689292520605548544) 14 (csS (lb 6124988953138320640) 7 i) < 64 ∧ csS (lb 1085102592318504960) 28 (csS (lb 3689292520605548544) 14 (csS (lb 6124988953138320640) 7 i)) = crS i := by decide +kernel
theorem crossed_ok (x : Int64) : Gv (fun y => ∀ i, i < 64 → lb y i = lb x (crS i)) (f_X4_crossed x) := by
  unfold f_X4_crossed bb_X4_crossed_0
  rw [ltv_eq, ltv_eq, ltv_eq, ltv_eq, ltv_eq]
  refine Gv.ret ?_
  intro i hi
  obtain ⟨a1, a2, a3⟩ := cs_in i hi
  refine (cs_bit (k := 7) _ (by decide) cs7 hi).trans ?_
  refine (cs_bit (k := 14) _ (by decide) cs14 a1).trans ?_
  refine (cs_bit (k := 28) _ (by decide) cs28 a2).trans ?_
  rw [a3]
theorem cr_mr : ∀ j, j < 64 → mrS j < 64 ∧ crS (mrS j) = qbS j := by decide +kernel
theorem f_quarter (x : Int64) : f_X4_quarterTurned x = some (Qrt x) := by
  unfold f_X4_quarterTurned bb_X4_quarterTurned_0
  obtain ⟨y, e, h⟩ := crossed_ok x
  rw [e, bd_some, f_mirrored, bd_some]
  congr 1
  apply ofB_lb
  intro j hj
  obtain ⟨a1, a2⟩ := cr_mr j hj
  unfold Mir
  rw [lb_ofB _ hj, h _ a1, a2]
theorem lb_Mir (x : Int64) {j : Nat} (hj : j < 64) : lb (Mir x) j = lb x (mrS j) := lb_ofB _ hj
theorem lb_Qrt (x : Int64) {j : Nat} (hj : j < 64) : lb (Qrt x) j = lb x (qbS j) := lb_ofB _ hj
theorem f_half (x : Int64) : f_X4_halfTurned x = some (Qrt (Qrt x)) := by
  unfold f_X4_halfTurned bb_X4_halfTurned_0
  rw [f_quarter, bd_some, f_quarter, bd_some]
theorem qb_half : ∀ j, j < 64 → qbS j < 64 ∧ qbS (qbS j) = 63 - j := by decide +kernel
theorem lb_half (x : Int64) {j : Nat} (hj : j < 64) : lb (Qrt (Qrt x)) j = lb x (63 - j) := by
  rw [lb_Qrt _ hj, lb_Qrt _ (qb_half j hj).1, (qb_half j hj).2]
theorem mr_mr : ∀ j, j < 64 → mrS j < 64 ∧ mrS (mrS j) = j := by decide +kernel
theorem Mir_Mir (x : Int64) : Mir (Mir x) = x := by
  apply lb_ext
  intro j hj
  rw [lb_Mir _ hj, lb_Mir _ (mr_mr j hj).1, (mr_mr j hj).2]
theorem Qrt4 (x : Int64) : Qrt (Qrt (Qrt (Qrt x))) = x := by
  apply lb_ext
  intro j hj
  rw [lb_half _ hj, lb_half _ (by omega)]
  congr 1
  omega
