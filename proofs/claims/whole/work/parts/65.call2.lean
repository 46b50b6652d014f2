-- ===== squares, hollow, letter, shape, steel, clear, count =====
theorem c_squares {M : Mm} (x y : Int32) (h : Rel M) : AnsJ (fw_L_squares_0_120 x y M) (f_X10_squares_67 x y) := by
  obtain ⟨σ, β, hR⟩ := id h
  have s1 := hR.2.2.1.1.of
  have s2 := hR.2.2.2.1.of
  have g := hR.1
  rcases idx x (n := sL σ) (by have := g.1; omega) with ⟨k, hk, rfl⟩ | ⟨ho, hi⟩
  · have hL : sL σ < 2 ^ 31 := by have := g.1; omega
    obtain ⟨n1, n2⟩ := needL_t s1.1 hk hL
    have hk10 : k < 10 := by have := g.1; omega
    cases hy : inI y 0 2 with
    | false =>
      refine ans_tJ (c := 2) (w := 0) h (by decide) ?_ ?_
      · unfold fw_L_squares_0_120 t_X9_squares_0
        rw [n2, n1]
        show (match orx (t_X9_needRange y 0 2) none with | some 1 => some (1, M) | some 2 => some (2, M) | some _ => none | none => f_L_squares_0_120 (nI k) y M) = _
        rw [t_needR_f hy]
        rfl
      · unfold f_X10_squares_67 bb_X10_squares_67_0
        rw [ltv_eq, isL_t (M := wI M 67 0 0) s2.1 hk hL]
        show bb_X10_squares_67_19 (nI k) y 0 (wI M 67 0 0) = _
        unfold bb_X10_squares_67_19
        rw [bad0 rfl]
        show bd (f_X10_in y 0 2) _ = _
        rw [f_inI, hy]
        show bb_X10_squares_67_41 (nI k) y 1 (wI M 67 0 0) = _
        unfold bb_X10_squares_67_41
        rw [bad1 rfl (by decide)]
        rfl
    | true =>
      have t : t_X9_squares_0 (nI k) y M = none := by
        unfold t_X9_squares_0
        rw [n2, n1]
        show orx (t_X9_needRange y 0 2) none = none
        rw [t_needR_t hy]
        rfl
      have e1 : ∀ v, f_X9_squares_0 (nI k) y M = some v → fw_L_squares_0_120 (nI k) y M = some (0, wJ M 120 0 v) := by
        intro v hv
        unfold fw_L_squares_0_120
        rw [t]
        show bd (f_X9_squares_0 (nI k) y M) _ = _
        rw [hv]
        rfl
      have e0 : f_X9_squares_0 (nI k) y M = (if y = 0 then (some (sInk σ k)) else (if y = (1 : Int32) then (bd (f_X4_reached (sInk σ k)) fun v_10 => some v_10) else (bd (f_X4_hidden (sInk σ k)) fun v_8 => some v_8))) := by
        unfold f_X9_squares_0 bb_X9_squares_0_0
        rw [n1, bd_some, f_needR hy, bd_some, gd_of (inb_nI hk10 (by decide)), ltv_eq, ix_nI (by omega), s1.2.2.2.1 k hk]
      have e2 : ∀ v, f_X10_squares_67 (nI k) y (wJ M 120 0 v) = (if y = 0 then (some (sInk σ k, wI (wJ M 120 0 v) 67 0 0)) else (if y = (1 : Int32) then (bd (f_X10_reached (sInk σ k)) fun v_17 => some (v_17, wI (wJ M 120 0 v) 67 0 0)) else (bd (f_X10_hidden (sInk σ k)) fun v_14 => some (v_14, wI (wJ M 120 0 v) 67 0 0)))) := by
        intro v
        unfold f_X10_squares_67 bb_X10_squares_67_0
        rw [ltv_eq, isL_t (M := wI (wJ M 120 0 v) 67 0 0) s2.1 hk hL]
        show bb_X10_squares_67_19 (nI k) y 0 (wI (wJ M 120 0 v) 67 0 0) = _
        unfold bb_X10_squares_67_19
        rw [bad0 rfl]
        show bd (f_X10_in y 0 2) _ = _
        rw [f_inI, hy]
        show bb_X10_squares_67_41 (nI k) y 0 (wI (wJ M 120 0 v) 67 0 0) = _
        unfold bb_X10_squares_67_41
        rw [bad0 rfl, bd2_some, if_pos rfl, gd_of (inb_nI hk10 (by decide)), gd_of (inb_nI hk10 (by decide)), gd_of (inb_nI hk10 (by decide)), ix_nI (by omega)]
        have q : (wI (wJ M 120 0 v) 67 0 0).2 72 k = sInk σ k := s2.2.2.2.1 k hk
        rw [q]
      by_cases y0 : y = 0
      · refine ans_okJ h (e1 _ (by rw [e0, if_pos y0])) (by rw [e2, if_pos y0])
      · by_cases y1 : y = 1
        · refine ans_okJ h (e1 _ (by rw [e0, if_neg y0, if_pos y1, f_reached, bd_some])) (by rw [e2, if_neg y0, if_pos y1, g_reached, bd_some])
        · refine ans_okJ h (e1 _ (by rw [e0, if_neg y0, if_neg y1, f_hidden, bd_some])) (by rw [e2, if_neg y0, if_neg y1, g_hidden, bd_some])
  · refine ans_tJ (c := 1) (w := 0) h (by decide) ?_ ?_
    · unfold fw_L_squares_0_120 t_X9_squares_0
      rw [needL_f s1.1 ho]
      rfl
    · unfold f_X10_squares_67 bb_X10_squares_67_0
      rw [ltv_eq, isL_f (M := wI M 67 0 0) s2.1 hi]
      show bb_X10_squares_67_19 x y 1 (wI M 67 0 0) = _
      unfold bb_X10_squares_67_19
      rw [bad1 rfl (by decide)]
      rfl
theorem c_hollow {M : Mm} (x : Int32) (h : Rel M) : AnsJ (fw_L_hollow_0_120 x M) (f_X10_hollow_67 x) := by
  obtain ⟨σ, β, hR⟩ := id h
  have s1 := hR.2.2.1.1.of
  have s2 := hR.2.2.2.1.of
  have hH : sH σ ≤ 16 := hR.1.2.2.2.2.1
  rcases idx x (n := sH σ) (by omega) with ⟨k, hk, rfl⟩ | ⟨ho, hi⟩
  · obtain ⟨n1, n2⟩ := needH_t s1.2.2.1 hk (by omega)
    refine ans_okJ (v := sHol σ k) h ?_ ?_
    · unfold fw_L_hollow_0_120 t_X9_hollow_0
      rw [n2]
      show f_L_hollow_0_120 (nI k) M = _
      show bd (bb_X9_hollow_0_0 (nI k) M) _ = _
      unfold bb_X9_hollow_0_0
      rw [n1, bd_some, gd_of (inb_nI (show k < 16 by omega) (by decide)), ix_nI (by omega), (s1.2.2.2.2.2.2 k hk).1]
      rfl
    · unfold f_X10_hollow_67 bb_X10_hollow_67_0
      rw [ltv_eq, isH_t (M := wI (wJ M 120 0 (sHol σ k)) 67 0 0) s2.2.2.1 hk (by omega)]
      show bb_X10_hollow_67_19 (nI k) 0 (wI (wJ M 120 0 (sHol σ k)) 67 0 0) = _
      unfold bb_X10_hollow_67_19
      rw [bad0 rfl, bd2_some, if_pos rfl, gd_of (inb_nI (show k < 16 by omega) (by decide)), ix_nI (by omega)]
      have q : (wI (wJ M 120 0 (sHol σ k)) 67 0 0).2 91 k = sHol σ k := (s2.2.2.2.2.2.2 k hk).1
      rw [q]
  · refine ans_tJ (c := 1) (w := 0) h (by decide) ?_ ?_
    · unfold fw_L_hollow_0_120 t_X9_hollow_0
      rw [needH_f s1.2.2.1 ho]
      rfl
    · unfold f_X10_hollow_67 bb_X10_hollow_67_0
      rw [ltv_eq, isH_f (M := wI M 67 0 0) s2.2.2.1 hi]
      show bb_X10_hollow_67_19 x 1 (wI M 67 0 0) = _
      unfold bb_X10_hollow_67_19
      rw [bad1 rfl (by decide)]
      rfl
theorem c_shape {M : Mm} (x : Int64) (h : Rel M) : ∃ v M2, f_X9_shape_0 x = some v ∧ f_X10_shape_67 x M = some (v, M2) ∧ Rel M2 := by
  refine ⟨Cor x, wI M 67 0 0, ?_, ?_, h.fr (Fr.wrI (L := [(67, 0)]) rfl) d67⟩
  · unfold f_X9_shape_0 bb_X9_shape_0_0
    rw [f_corner, bd_some]
  · unfold f_X10_shape_67 bb_X10_shape_67_0
    rw [ltv_eq, g_shape, bd_some]
theorem m1_ne {p : Nat} (h : p < 2 ^ 31) : nI p ≠ -1 := by
  intro e
  have q := nI_pos' h
  rw [e] at q
  exact absurd q (by decide)
theorem hasP {σ : Sg} {β : Bn} {M : Mm} (hL : sL σ ≤ 10) (h7 : M.1 11 7 = nI (sL σ)) (h5 : M.1 50 0 = bP β) (hB : bP β = -1 ∨ ∃ p, p < sL σ ∧ bP β = nI p) : (bP β = -1 → f_X9_hasPunch_0 M = some 0) ∧ (bP β ≠ -1 → f_X9_hasPunch_0 M = some 1) := by
  constructor
  · intro e
    show (if M.1 50 0 < 0 then some 0 else (if M.1 11 7 ≤ M.1 50 0 then some 0 else some 1)) = _
    rw [h5, e]
    rfl
  · intro e
    rcases hB with q | ⟨p, hp, q⟩
    · exact absurd q e
    · show (if M.1 50 0 < 0 then some 0 else (if M.1 11 7 ≤ M.1 50 0 then some 0 else some 1)) = _
      rw [h5, q, h7, if_neg (nI_pos (by omega)), if_neg (nI_ge hp (by omega))]
theorem xor_xor (x : Int64) : (x ^^^ -1) ^^^ -1 = x := by
  apply lb_ext
  intro i hi
  rw [lb_not _ hi, lb_not _ hi, Bool.not_not]
theorem c_steel {M : Mm} (h : Rel M) : ∃ v M2, f_X9_steel_0 M = some v ∧ f_X10_steel_67 M = some (v, M2) ∧ Rel M2 := by
  obtain ⟨σ, β, hR⟩ := id h
  obtain ⟨g, gB, hC, hM, hb, hm, _⟩ := hR
  have b1 : BC0 β 50 M := hb
  have b2 : BM0 β M := hm
  have hp := hasP g.1 hC.1.of.1 b1.1 gB.1
  by_cases e : bP β = -1
  · refine ⟨0, wI M 67 0 0, ?_, ?_, h.fr (Fr.wrI (L := [(67, 0)]) rfl) d67⟩
    · unfold f_X9_steel_0 bb_X9_steel_0_0
      rw [hp.1 e]
      rfl
    · unfold f_X10_steel_67 bb_X10_steel_67_0
      rw [ltv_eq, if_pos]
      exact b2.1.trans e
  · refine ⟨bS β, wI M 67 0 0, ?_, ?_, h.fr (Fr.wrI (L := [(67, 0)]) rfl) d67⟩
    · unfold f_X9_steel_0 bb_X9_steel_0_0
      rw [hp.2 e, bd_some, if_neg (by decide), (b1.2.1.2 e).1, xor_xor]
    · unfold f_X10_steel_67 bb_X10_steel_67_0
      rw [ltv_eq, if_neg (show ¬ (wI M 67 0 0).1 67 23 = -1 from fun q => e (b2.1.symm.trans q))]
      have q : (wI M 67 0 0).2 67 22 = bS β := (b2.2.1 e).1
      rw [q]
theorem c_count {M : Mm} (x : Int32) (h : Rel M) : ∃ v M2, f_X9_count_0 x M = some v ∧ f_X10_count_67 x M = some (v, M2) ∧ Rel M2 := by
  obtain ⟨σ, β, hR⟩ := id h
  obtain ⟨g, gB, hC, hM, hb, hm, hT, hI⟩ := hR
  have b1 : BC0 β 50 M := hb
  have b2 : BM0 β M := hm
  obtain ⟨n, _, i1, i2, _⟩ := hI.of
  have i1' : M.1 0 10 = nI n := i1
  have i2' : M.1 67 27 = nI n := i2
  have rel : Rel (wI M 67 0 0) := h.fr (Fr.wrI (L := [(67, 0)]) rfl) d67
  unfold f_X9_count_0 bb_X9_count_0_0 f_X10_count_67 bb_X10_count_67_0
  by_cases x0 : x = 0
  · refine ⟨M.1 50 5, wI M 67 0 0, by rw [if_pos x0], ?_, rel⟩
    rw [ltv_eq, if_pos x0, b1.2.2.1]
    have q : (wI M 67 0 0).1 67 25 = nI (bA β) := b2.2.2.1
    rw [q]
  · by_cases x1 : x = 1
    · refine ⟨M.1 50 7, wI M 67 0 0, by rw [if_neg x0, if_pos x1], ?_, rel⟩
      rw [ltv_eq, if_neg x0, if_pos x1, b1.2.2.2.2.1]
      have q : (wI M 67 0 0).1 67 26 = nI (bN β) := b2.2.2.2.2.1
      rw [q]
    · by_cases x2 : x = 2
      · refine ⟨M.1 0 10, wI M 67 0 0, by rw [if_neg x0, if_neg x1, if_pos x2], ?_, rel⟩
        rw [ltv_eq, if_neg x0, if_neg x1, if_pos x2, i1']
        have q : (wI M 67 0 0).1 67 27 = nI n := i2'
        rw [q]
      · by_cases x3 : x = 3
        · refine ⟨M.1 1 2, wI M 67 0 0, by rw [if_neg x0, if_neg x1, if_neg x2, if_pos x3], ?_, rel⟩
          rw [ltv_eq, if_neg x0, if_neg x1, if_neg x2, if_pos x3]
          have q : (wI M 67 0 0).1 67 1 = M.1 1 2 := hT.of.2.1
          rw [q]
        · refine ⟨-1, wI M 67 0 0, by rw [if_neg x0, if_neg x1, if_neg x2, if_neg x3], ?_, rel⟩
          rw [ltv_eq, if_neg x0, if_neg x1, if_neg x2, if_neg x3]
/-- all but the bench -/
def LRo : List (Nat × Nat) := LRC ++ LSM ++ LTP ++ LIM
theorem Rl.bench {σ : Sg} {β β' : Bn} {L : List (Nat × Nat)} {M M' : Mm} (h : Rl σ β M) (hf : Fr L M M') (hd : disjW L LRo = true) (g : GoodB σ β') (b1 : BC0 β' 50 M') (b2 : BM0 β' M') : Rel M' := by
  obtain ⟨h1, h2, h3, h4, h5, h6, h7, h8⟩ := h
  obtain ⟨hd, d8⟩ := disj_app hd
  obtain ⟨hd, d7⟩ := disj_app hd
  obtain ⟨d3, d4⟩ := disj_app hd
  exact ⟨σ, β', h1, g, h3.fr hf d3, h4.fr hf d4, b1, b2, h7.fr hf d7, h8.fr hf d8⟩
theorem c_clear {M : Mm} (h : Rel M) : ∃ v M1 M2, f_X9_clear_0 M = some (v, M1) ∧ f_X10_clear_67 M1 = some (v, M2) ∧ Rel M2 := by
  obtain ⟨σ, β, hR⟩ := id h
  obtain ⟨g, gB, hC, hM, hb, hm, hT, hI⟩ := id hR
  have b1 : BC0 β 50 M := hb
  have b2 : BM0 β M := hm
  refine ⟨M.1 50 5, wI M 50 5 0, wI (wI (wI M 50 5 0) 67 0 0) 67 25 0, rfl, ?_, ?_⟩
  · show some ((wI (wI M 50 5 0) 67 0 0).1 67 25, _) = _
    have q : (wI (wI M 50 5 0) 67 0 0).1 67 25 = nI (bA β) := b2.2.2.1
    rw [q, b1.2.2.1]
  · refine hR.bench (β' := (bP β, bS β, bB β, 0, bAc β, bN β, bPr β)) (L := [(50, 5), (67, 0), (67, 25)]) (Fr.tr (Fr.wrI rfl) (Fr.tr (Fr.wrI rfl) (Fr.wrI rfl))) (by decide) ?_ ?_ ?_
    · exact ⟨gB.1, gB.2.1, Nat.zero_le _, fun k hk => absurd hk (Nat.not_lt_zero _), gB.2.2.2.2⟩
    · exact ⟨b1.1, b1.2.1, rfl, fun k hk => absurd hk (Nat.not_lt_zero _), b1.2.2.2.2⟩
    · exact ⟨b2.1, b2.2.1, rfl, fun k hk => absurd hk (Nat.not_lt_zero _), b2.2.2.2.2⟩
