-- ===== calls, one by one: the simple ones =====
theorem d67 : disjW [(67, 0)] LRl = true := by decide
theorem d120 : disjW [(120, 999), (67, 0)] LRl = true := by decide
theorem ans_t {cl : Option (Int32 × Mm)} {md : Mm → Option (Int32 × Mm)} {M : Mm} {c w : Int32} (h : Rel M) (hc : c ≠ 0) (e1 : cl = some (c, M)) (e2 : md M = some (w, wI (wI M 67 0 0) 67 0 c)) : AnsI cl md :=
  ⟨c, M, w, _, e1, e2, wI_at, fun q => absurd q hc, h.fr (Fr.two (L := [(67, 0)]) rfl) d67⟩
theorem ans_tJ {cl : Option (Int32 × Mm)} {md : Mm → Option (Int64 × Mm)} {M : Mm} {c : Int32} {w : Int64} (h : Rel M) (hc : c ≠ 0) (e1 : cl = some (c, M)) (e2 : md M = some (w, wI (wI M 67 0 0) 67 0 c)) : AnsJ cl md :=
  ⟨c, M, w, _, e1, e2, wI_at, fun q => absurd q hc, h.fr (Fr.two (L := [(67, 0)]) rfl) d67⟩
theorem fr_out {M : Mm} {v : Int64} : Fr [(120, 999), (67, 0)] M (wI (wJ M 120 0 v) 67 0 0) := Fr.tr (Fr.wJa rfl) (Fr.wrI rfl)
theorem ans_ok {cl : Option (Int32 × Mm)} {md : Mm → Option (Int32 × Mm)} {M : Mm} {v : Int32} (h : Rel M) (e1 : cl = some (0, wJ M 120 0 v.toInt64)) (e2 : md (wJ M 120 0 v.toInt64) = some (v, wI (wJ M 120 0 v.toInt64) 67 0 0)) : AnsI cl md :=
  ⟨0, _, v, _, e1, e2, wI_at, fun _ => rfl, h.fr fr_out d120⟩
theorem ans_okJ {cl : Option (Int32 × Mm)} {md : Mm → Option (Int64 × Mm)} {M : Mm} {v : Int64} (h : Rel M) (e1 : cl = some (0, wJ M 120 0 v)) (e2 : md (wJ M 120 0 v) = some (v, wI (wJ M 120 0 v) 67 0 0)) : AnsJ cl md :=
  ⟨0, _, v, _, e1, e2, wI_at, fun _ => rfl, h.fr fr_out d120⟩
/-- a number is one of the first n, or it isn't -/
theorem idx (x : Int32) {n : Nat} (hn : n < 2 ^ 31) : (∃ k, k < n ∧ x = nI k) ∨ ((x < 0 ∨ nI n ≤ x) ∧ inI x 0 (nI n - 1) = false) := by
  rcases pk_ix x hn with h | h | h
  · right
    refine ⟨Or.inl h, ?_⟩
    unfold inI
    simp [lt_nle h]
  · right
    refine ⟨Or.inr h, ?_⟩
    unfold inI
    have : ¬ x ≤ nI n - 1 := by
      rcases n with _ | n
      · intro q
        have q2 : nI 0 - 1 = -1 := rfl
        rw [q2] at q
        rw [Int32.le_iff_toInt_le] at h q
        have e1 : (nI 0).toInt = 0 := rfl
        have e2 : (-1 : Int32).toInt = -1 := rfl
        omega
      · rw [show nI (n + 1) - 1 = nI n from nI_pred n]
        intro q
        rw [Int32.le_iff_toInt_le] at h q
        rw [nI_toInt hn] at h
        rw [nI_toInt (by omega)] at q
        omega
    simp [this]
  · exact Or.inl h
theorem inI_lt {k n : Nat} (h : k < n) (hn : n < 2 ^ 31) : inI (nI k) 0 (nI n - 1) = true := by
  unfold inI
  obtain ⟨m, rfl⟩ : ∃ m, n = m + 1 := ⟨n - 1, by omega⟩
  rw [show nI (m + 1) - 1 = nI m from nI_pred m]
  simp only [Bool.and_eq_true, decide_eq_true_eq]
  exact ⟨nI_pos' (by omega), nI_le (by omega) (by omega)⟩
theorem nle_lt' {x : Int32} {n : Nat} (h : x < 0 ∨ nI n ≤ x) (h0 : ¬ x < 0) : ¬ x < nI n := by
  rcases h with h | h
  · exact absurd h h0
  · intro q
    exact lt_nle q h
-- a letter's number
theorem needL_t {M : Mm} {k n : Nat} (hM : M.1 11 7 = nI n) (h : k < n) (hn : n < 2 ^ 31) : f_X9_needLetter_0 (nI k) M = some () ∧ t_X9_needLetter_0 (nI k) M = none := by
  constructor
  · show (if nI k < 0 then none else (if nI k < M.1 11 7 then some () else none)) = _
    rw [if_neg (nI_pos (by omega)), hM, if_pos (nI_lt h hn)]
  · show (if nI k < 0 then some 1 else (if nI k < M.1 11 7 then none else some 1)) = _
    rw [if_neg (nI_pos (by omega)), hM, if_pos (nI_lt h hn)]
theorem needL_f {M : Mm} {x : Int32} {n : Nat} (hM : M.1 11 7 = nI n) (h : x < 0 ∨ nI n ≤ x) : t_X9_needLetter_0 x M = some 1 := by
  show (if x < 0 then some 1 else (if x < M.1 11 7 then none else some 1)) = _
  by_cases h0 : x < 0
  · rw [if_pos h0]
  · rw [if_neg h0, hM, if_neg (nle_lt' h h0)]
theorem isL_t {M : Mm} {k n : Nat} (hM : M.1 70 0 = nI n) (h : k < n) (hn : n < 2 ^ 31) : f_X10_isLetter_67 (nI k) M = some 1 := by
  unfold f_X10_isLetter_67 bb_X10_isLetter_67_0
  rw [hM, f_inI, inI_lt h hn]
  rfl
theorem isL_f {M : Mm} {x : Int32} {n : Nat} (hM : M.1 70 0 = nI n) (h : inI x 0 (nI n - 1) = false) : f_X10_isLetter_67 x M = some 0 := by
  unfold f_X10_isLetter_67 bb_X10_isLetter_67_0
  rw [hM, f_inI, h]
  rfl
theorem needH_t {M : Mm} {k n : Nat} (hM : M.1 11 9 = nI n) (h : k < n) (hn : n < 2 ^ 31) : f_X9_needHollow_0 (nI k) M = some () ∧ t_X9_needHollow_0 (nI k) M = none := by
  constructor
  · show (if nI k < 0 then none else (if nI k < M.1 11 9 then some () else none)) = _
    rw [if_neg (nI_pos (by omega)), hM, if_pos (nI_lt h hn)]
  · show (if nI k < 0 then some 3 else (if nI k < M.1 11 9 then none else some 3)) = _
    rw [if_neg (nI_pos (by omega)), hM, if_pos (nI_lt h hn)]
theorem needH_f {M : Mm} {x : Int32} {n : Nat} (hM : M.1 11 9 = nI n) (h : x < 0 ∨ nI n ≤ x) : t_X9_needHollow_0 x M = some 3 := by
  show (if x < 0 then some 3 else (if x < M.1 11 9 then none else some 3)) = _
  by_cases h0 : x < 0
  · rw [if_pos h0]
  · rw [if_neg h0, hM, if_neg (nle_lt' h h0)]
theorem isH_t {M : Mm} {k n : Nat} (hM : M.1 67 19 = nI n) (h : k < n) (hn : n < 2 ^ 31) : f_X10_isHollow_67 (nI k) M = some 1 := by
  unfold f_X10_isHollow_67 bb_X10_isHollow_67_0
  rw [hM, f_inI, inI_lt h hn]
  rfl
theorem isH_f {M : Mm} {x : Int32} {n : Nat} (hM : M.1 67 19 = nI n) (h : inI x 0 (nI n - 1) = false) : f_X10_isHollow_67 x M = some 0 := by
  unfold f_X10_isHollow_67 bb_X10_isHollow_67_0
  rw [hM, f_inI, h]
  rfl
theorem inI_three {P : Int32 → Prop} (h0 : P 0) (h1 : P 1) (h2 : P 2) {x : Int32} (h : inI x 0 2 = true) : P x := by
  obtain ⟨k, rfl, _, hk⟩ := inI_nI (b := 0) (c := 2) (by decide) h (by decide)
  rcases k with _ | _ | _ | k
  · exact h0
  · exact h1
  · exact h2
  · omega
theorem inI_two {P : Int32 → Prop} (h0 : P 0) (h1 : P 1) {x : Int32} (h : inI x 0 1 = true) : P x := by
  obtain ⟨k, rfl, _, hk⟩ := inI_nI (b := 0) (c := 1) (by decide) h (by decide)
  rcases k with _ | _ | k
  · exact h0
  · exact h1
  · omega
theorem inI_five {P : Int32 → Prop} (h0 : P 0) (h1 : P 1) (h2 : P 2) (h3 : P 3) (h4 : P 4) {x : Int32} (h : inI x 0 4 = true) : P x := by
  obtain ⟨k, rfl, _, hk⟩ := inI_nI (b := 0) (c := 4) (by decide) h (by decide)
  rcases k with _ | _ | _ | _ | _ | k
  · exact h0
  · exact h1
  · exact h2
  · exact h3
  · exact h4
  · omega
-- fault
theorem c_fault {M : Mm} (h : Rel M) : ∃ v M2, f_X9_fault_0 M = some v ∧ f_X10_fault_67 M = some (v, M2) ∧ Rel M2 := by
  obtain ⟨σ, β, hR⟩ := h
  refine ⟨M.1 0 2, wI M 67 0 0, rfl, ?_, ⟨σ, β, hR.fr (Fr.wrI (L := [(67, 0)]) rfl) d67⟩⟩
  show some ((wI M 67 0 0).1 67 3, wI M 67 0 0) = _
  have : M.1 67 3 = M.1 0 2 := hR.2.2.2.2.2.2.1.2.2.2
  rw [← this]
  rfl
-- told
theorem c_told {M : Mm} (x : Int32) (h : Rel M) : AnsI (fw_L_told_0_120 x M) (f_X10_told_67 x) := by
  cases hx : inI x 0 2 with
  | false =>
    refine ans_t (c := 1) (w := 0) h (by decide) ?_ ?_
    · unfold fw_L_told_0_120 t_X9_told_0
      rw [t_needR_f hx]
      rfl
    · unfold f_X10_told_67 bb_X10_told_67_0
      rw [ltv_eq, f_inI, hx]
      show bb_X10_told_67_20 x 1 (wI M 67 0 0) = _
      unfold bb_X10_told_67_20
      rw [bad1 rfl (by decide)]
      rfl
  | true =>
    obtain ⟨σ, β, hR⟩ := id h
    have s1 := hR.2.2.1.1.of
    have s2 := hR.2.2.2.1.of
    have t : t_X9_told_0 x M = none := by
      unfold t_X9_told_0
      rw [t_needR_t hx]
      rfl
    have e1 : ∀ v, f_X9_told_0 x M = some v → fw_L_told_0_120 x M = some (0, wJ M 120 0 v.toInt64) := by
      intro v hv
      unfold fw_L_told_0_120
      rw [t]
      show bd (f_X9_told_0 x M) _ = _
      rw [hv]
      rfl
    have e2 : ∀ N, f_X10_told_67 x N = (if (2 : Int32) ≤ x then (some ((wI N 67 0 0).1 67 19, wI N 67 0 0)) else (gd (inb x 2) (some ((wI N 67 0 0).1 70 (ix x), wI N 67 0 0)))) := by
      intro N
      unfold f_X10_told_67 bb_X10_told_67_0
      rw [ltv_eq, f_inI, hx]
      show bb_X10_told_67_20 x 0 (wI N 67 0 0) = _
      unfold bb_X10_told_67_20
      rw [bad0 rfl]
      rfl
    have key : ∃ v, f_X9_told_0 x M = some v ∧ ∀ N, N = wJ M 120 0 v.toInt64 → f_X10_told_67 x N = some (v, wI N 67 0 0) := by
      revert e1 e2 t
      refine inI_three (P := fun x => _ → _ → _ → ∃ v, f_X9_told_0 x M = some v ∧ ∀ N, N = wJ M 120 0 v.toInt64 → f_X10_told_67 x N = some (v, wI N 67 0 0)) ?_ ?_ ?_ hx
      · intro _ _ e2
        refine ⟨M.1 11 7, rfl, ?_⟩
        rintro N rfl
        have q : M.1 70 0 = M.1 11 7 := s2.1.trans s1.1.symm
        rw [← q]
        rfl
      · intro _ _ e2
        refine ⟨M.1 11 8, rfl, ?_⟩
        rintro N rfl
        have q : M.1 70 1 = M.1 11 8 := s2.2.1.trans s1.2.1.symm
        rw [← q]
        rfl
      · intro _ _ e2
        refine ⟨M.1 11 9, rfl, ?_⟩
        rintro N rfl
        have q : M.1 67 19 = M.1 11 9 := s2.2.2.1.trans s1.2.2.1.symm
        rw [← q]
        rfl
    obtain ⟨v, k1, k2⟩ := key
    exact ans_ok h (e1 v k1) (k2 _ rfl)
