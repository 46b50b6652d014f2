-- ===== begin, blow, file, punch, addBlow, addFile, print =====
theorem c_begin {M : Mm} (x : Int32) (h : Rel M) : ∃ v M1 M2, fw_L_begin_0 x M = some (v, M1) ∧ f_X10_begin_67 x M1 = some M2 ∧ M2.1 67 0 = v ∧ Rel M2 := by
  obtain ⟨σ, β, hR⟩ := id h
  obtain ⟨g, gB, hC, hM, hb, hm, hT, hI⟩ := id hR
  have b1 : BC0 β 50 M := hb
  have b2 : BM0 β M := hm
  have s1 := hC.1.of
  have s2 := hM.of
  have hL : sL σ < 2 ^ 31 := by have := g.1; omega
  rcases idx x (n := sL σ) hL with ⟨k, hk, rfl⟩ | ⟨ho, hi⟩
  · obtain ⟨n1, n2⟩ := needL_t s1.1 hk hL
    refine ⟨0, wI (wJ (wI M 50 0 (nI k)) 50 1 0) 50 2 0, wI (wJ (wI (wI (wI (wJ (wI M 50 0 (nI k)) 50 1 0) 50 2 0) 67 0 0) 67 23 (nI k)) 67 22 (-1)) 67 24 0, ?_, ?_, ?_, ?_⟩
    rotate_left
    · unfold f_X10_begin_67 bb_X10_begin_67_0
      rw [ltv_eq, isL_t (M := wI (wI (wJ (wI M 50 0 (nI k)) 50 1 0) 50 2 0) 67 0 0) s2.1 hk hL]
      show bb_X10_begin_67_19 (nI k) 0 (wI (wI (wJ (wI M 50 0 (nI k)) 50 1 0) 50 2 0) 67 0 0) = _
      unfold bb_X10_begin_67_19
      rw [bad0 rfl]
      rfl
    · rfl
    · refine hR.bench (β' := (nI k, -1, 0, bA β, bAc β, bN β, bPr β)) (L := [(50, 0), (50, 1), (50, 2), (67, 0), (67, 22), (67, 23), (67, 24)]) (Fr.tr (Fr.wrI rfl) (Fr.tr (Fr.wrJ rfl) (Fr.tr (Fr.wrI rfl) (Fr.tr (Fr.wrI rfl) (Fr.tr (Fr.wrI rfl) (Fr.tr (Fr.wrJ rfl) (Fr.wrI rfl))))))) (by decide) ?_ ?_ ?_
      · exact ⟨Or.inr ⟨k, hk, rfl⟩, Or.inl rfl, gB.2.2⟩
      · exact ⟨rfl, ⟨rfl, fun _ => ⟨by show (0 : Int64) = (-1 : Int64) ^^^ -1; decide, rfl⟩⟩, b1.2.2⟩
      · exact ⟨rfl, fun _ => ⟨rfl, rfl⟩, b2.2.2⟩
    · unfold fw_L_begin_0 t_X9_begin_0
      rw [n2]
      show f_L_begin_0 (nI k) M = _
      show bd (bb_X9_begin_0_0 (nI k) M) _ = _
      unfold bb_X9_begin_0_0
      rw [n1]
      rfl
  · refine ⟨1, M, wI (wI M 67 0 0) 67 0 1, ?_, ?_, ?_, h.fr (Fr.two (L := [(67, 0)]) rfl) d67⟩
    rotate_left
    · unfold f_X10_begin_67 bb_X10_begin_67_0
      rw [ltv_eq, isL_f (M := wI M 67 0 0) s2.1 hi]
      show bb_X10_begin_67_19 x 1 (wI M 67 0 0) = _
      unfold bb_X10_begin_67_19
      rw [bad1 rfl (by decide)]
      rfl
    · rfl
    · unfold fw_L_begin_0 t_X9_begin_0
      rw [needL_f s1.1 ho]
      rfl
theorem strike_ok (ho : Int64) (M : Mm) (hB : M.1 50 2 = 0 ∨ M.1 50 2 = 1) : f_X0_strike_50 ho M = some (nI (pop (M.2 50 1 ^^^ -1)) - nI (pop (Stk (M.2 50 1 ^^^ -1) ho)), wJ (wI M 50 2 (if Brs (M.2 50 1 ^^^ -1) ho then 1 else M.1 50 2)) 50 1 (Stk (M.2 50 1 ^^^ -1) ho ^^^ -1)) := by
  have e24 : ∀ s : Int32, isB s = true → bb_X0_strike_50_24 ho s M = some (nI (pop (M.2 50 1 ^^^ -1)) - nI (pop (Stk (M.2 50 1 ^^^ -1) ho)), wJ (wI M 50 2 s) 50 1 (Stk (M.2 50 1 ^^^ -1) ho ^^^ -1)) := by
    intro s hs
    unfold bb_X0_strike_50_24
    rw [gd_of hs, ltv_eq, struck_ok, bd_some, take_ok]
    rfl
  show bb_X0_strike_50_0 ho M = _
  unfold bb_X0_strike_50_0 bb_X0_strike_50_19
  rw [bursts_ok, bd_some, e24 0 rfl, e24 1 rfl]
  rcases hB with e | e
  · rw [if_pos e, e]
    cases Brs (M.2 50 1 ^^^ -1) ho <;> rfl
  · rw [if_neg (by rw [e]; decide), e]
    cases Brs (M.2 50 1 ^^^ -1) ho <;> rfl
theorem nI_inj10 {a b : Nat} (ha : a < 100) (hb : b < 100) : nI a = nI b ↔ a = b := nI_eq (by omega) (by omega)
theorem c_blow {M : Mm} (x : Int32) (h : Rel M) : AnsI (fw_L_blow_0_120 x M) (f_X10_blow_67 x) := by
  obtain ⟨σ, β, hR⟩ := id h
  obtain ⟨g, gB, hC, hM, hb, hm, hT, hI⟩ := id hR
  have b1 : BC0 β 50 M := hb
  have b2 : BM0 β M := hm
  have s1 := hC.1.of
  have s2 := hM.of
  have hH : sH σ ≤ 16 := g.2.2.2.2.1
  rcases idx x (n := sH σ) (by omega) with ⟨k, hk, rfl⟩ | ⟨ho, hi⟩
  · obtain ⟨n1, n2⟩ := needH_t s1.2.2.1 hk (by omega)
    have hk16 : k < 16 := by omega
    have hp := hasP g.1 s1.1 b1.1 gB.1
    have fw : ∀ v M', f_X9_blow_0 (nI k) M = some (v, M') → fw_L_blow_0_120 (nI k) M = some (0, wJ M' 120 0 v.toInt64) := by
      intro v M' e
      unfold fw_L_blow_0_120 t_X9_blow_0
      rw [n2]
      show f_L_blow_0_120 (nI k) M = _
      unfold f_L_blow_0_120 bb_L_blow_0_120_0
      rw [e]
      rfl
    have md : ∀ N : Mm, N.1 67 19 = nI (sH σ) → f_X10_blow_67 (nI k) N = (if ((wI N 67 0 0).1 67 23) = (-1 : Int32) then (some ((-1 : Int32), wI N 67 0 0)) else (if ((wI N 67 0 0).1 92 k) = ((wI N 67 0 0).1 67 23) then (bd (f_X10_ones ((wI N 67 0 0).2 67 22)) fun v_9 => bd2 (f_X10_blows_67 (nI k) (wI N 67 0 0)) fun v_12 M_11 => if v_12 = 0 then (bd (f_X10_ones (M_11.2 67 22)) fun v_14 => some (v_9 - v_14, M_11)) else (ltv (wI M_11 67 24 (1 : Int32)) fun M_15 => bd (f_X10_ones (M_15.2 67 22)) fun v_17 => some (v_9 - v_17, M_15))) else (some ((-2 : Int32), wI N 67 0 0)))) := by
      intro N hN
      unfold f_X10_blow_67 bb_X10_blow_67_0
      rw [ltv_eq, isH_t (M := wI N 67 0 0) hN hk (by omega)]
      show bb_X10_blow_67_19 (nI k) 0 (wI N 67 0 0) = _
      unfold bb_X10_blow_67_19
      rw [bad0 rfl, bd2_some, if_pos rfl, gd_of (inb_nI hk16 (by decide)), ix_nI (by omega)]
    have cl : f_X9_blow_0 (nI k) M = bd (f_X9_hasPunch_0 M) fun v_4 => if v_4 = 0 then (some ((-1 : Int32), M)) else (if (M.1 18 k) = (M.1 50 0) then (bd2 (f_X0_strike_50 (M.2 17 k) M) fun v_9 M_8 => some (v_9, M_8)) else (some ((-2 : Int32), M))) := by
      unfold f_X9_blow_0 bb_X9_blow_0_0
      rw [n1, bd_some, gd_of (inb_nI hk16 (by decide)), gd_of (inb_nI hk16 (by decide)), ix_nI (by omega)]
    obtain ⟨o1, o2⟩ := s1.2.2.2.2.2.2 k hk
    obtain ⟨q1, q2⟩ := s2.2.2.2.2.2.2 k hk
    by_cases e : bP β = -1
    · refine ans_ok (v := -1) h (fw _ _ (by rw [cl, hp.1 e]; rfl)) ?_
      rw [md (wJ M 120 0 (-1 : Int32).toInt64) s2.2.2.1, if_pos (show (wI (wJ M 120 0 (-1 : Int32).toInt64) 67 0 0).1 67 23 = -1 from b2.1.trans e)]
    · have m23 : M.1 67 23 = bP β := b2.1
      by_cases ow : nI (sOwn σ k) = bP β
      · obtain ⟨t1, t2⟩ := b1.2.1.2 e
        obtain ⟨t3, t4⟩ := b2.2.1 e
        have hst : M.2 50 1 ^^^ -1 = bS β := by rw [t1, xor_xor]
        have c1 : f_X9_blow_0 (nI k) M = some (nI (pop (bS β)) - nI (pop (Stk (bS β) (sHol σ k))), wJ (wI M 50 2 (if Brs (bS β) (sHol σ k) then 1 else bB β)) 50 1 (Stk (bS β) (sHol σ k) ^^^ -1)) := by
          rw [cl, hp.2 e, bd_some, if_neg (by decide), o2, b1.1, if_pos ow, o1, strike_ok _ _ (by rw [t2]; exact gB.2.1), hst, t2]
          rfl
        generalize hv : nI (pop (bS β)) - nI (pop (Stk (bS β) (sHol σ k))) = v at c1
        generalize hM1 : wJ (wI M 50 2 (if Brs (bS β) (sHol σ k) then 1 else bB β)) 50 1 (Stk (bS β) (sHol σ k) ^^^ -1) = M1 at c1
        have f1 : Fr [(50, 1), (50, 2), (120, 999), (67, 0)] M (wI (wJ M1 120 0 v.toInt64) 67 0 0) := by
          rw [← hM1]
          exact Fr.tr (Fr.wrI rfl) (Fr.tr (Fr.wrJ rfl) (Fr.tr (Fr.wJa rfl) (Fr.wrI rfl)))
        generalize hN : wI (wJ M1 120 0 v.toInt64) 67 0 0 = N at f1
        have N0 : N.1 67 0 = 0 := by rw [← hN]; rfl
        have N120 : N.2 120 0 = v.toInt64 := by rw [← hN]; rfl
        have N23 : N.1 67 23 = bP β := ((f1 67 23 rfl).1).trans m23
        have N92 : N.1 92 k = nI (sOwn σ k) := ((f1 92 k rfl).1).trans q2
        have N91 : N.2 91 k = sHol σ k := ((f1 91 k rfl).2).trans q1
        have N22 : N.2 67 22 = bS β := ((f1 67 22 rfl).2).trans t3
        have N24 : N.1 67 24 = bB β := ((f1 67 24 rfl).1).trans t4
        have N50 : N.2 50 1 = Stk (bS β) (sHol σ k) ^^^ -1 ∧ N.1 50 2 = (if Brs (bS β) (sHol σ k) then 1 else bB β) := by
          rw [← hN, ← hM1]
          exact ⟨rfl, rfl⟩
        have m1 : f_X10_blow_67 (nI k) (wJ M1 120 0 v.toInt64) = some (v, wI (wJ N 67 22 (Stk (bS β) (sHol σ k))) 67 24 (if Brs (bS β) (sHol σ k) then 1 else bB β)) := by
          rw [md _ (by rw [← hM1]; exact s2.2.2.1), hN, N23, if_neg e, N92, if_pos ow, N22, f_ones, bd_some, blows_ok hk16 N91, bd2_some, N22]
          cases hbr : Brs (bS β) (sHol σ k) with
          | true =>
            rw [if_neg (by decide), ltv_eq]
            show bd (f_X10_ones (Stk (bS β) (sHol σ k))) _ = _
            rw [f_ones, bd_some, hv]
            rfl
          | false =>
            rw [if_pos (by decide)]
            show bd (f_X10_ones (Stk (bS β) (sHol σ k))) _ = _
            rw [f_ones, bd_some, hv]
            have w : wI (wJ N 67 22 (Stk (bS β) (sHol σ k))) 67 24 (bB β) = wJ N 67 22 (Stk (bS β) (sHol σ k)) := by
              unfold wI
              refine Prod.ext ?_ rfl
              funext a b
              show (if a = 67 ∧ b = 24 then bB β else N.1 a b) = N.1 a b
              by_cases q : a = 67 ∧ b = 24
              · rw [if_pos q, q.1, q.2, N24]
              · rw [if_neg q]
            show _ = some (v, wI (wJ N 67 22 (Stk (bS β) (sHol σ k))) 67 24 (bB β))
            rw [w]
        refine ⟨0, _, v, _, fw _ _ c1, m1, N0, fun _ => N120, ?_⟩
        have fN : Fr [(50, 1), (50, 2), (120, 999), (67, 0), (67, 22), (67, 24)] M (wI (wJ N 67 22 (Stk (bS β) (sHol σ k))) 67 24 (if Brs (bS β) (sHol σ k) then 1 else bB β)) := Fr.tr (Fr.sub f1 rfl) (Fr.tr (Fr.wrJ rfl) (Fr.wrI rfl))
        refine hR.bench (β' := (bP β, Stk (bS β) (sHol σ k), if Brs (bS β) (sHol σ k) then 1 else bB β, bA β, bAc β, bN β, bPr β)) fN (by decide) ?_ ?_ ?_
        · refine ⟨gB.1, ?_, gB.2.2⟩
          show (if Brs (bS β) (sHol σ k) then 1 else bB β) = 0 ∨ (if Brs (bS β) (sHol σ k) then 1 else bB β) = 1
          cases Brs (bS β) (sHol σ k) with
          | true => exact Or.inr rfl
          | false => exact gB.2.1
        · refine ⟨((fN 50 0 rfl).1).trans b1.1, ⟨?_, fun _ => N50⟩, ((fN 50 5 rfl).1).trans b1.2.2.1, ?_, ((fN 50 7 rfl).1).trans b1.2.2.2.2.1, ?_⟩
          · show isB (N.1 50 2) = true
            rw [N50.2]
            cases Brs (bS β) (sHol σ k) with
            | true => rfl
            | false =>
              rcases gB.2.1 with q | q
              · rw [q]
                rfl
              · rw [q]
                rfl
          · intro j hj
            rw [(fN 51 j rfl).1, (fN 52 j rfl).2]
            exact b1.2.2.2.1 j hj
          · intro j hj
            exact ((fN 53 j rfl).2).trans (b1.2.2.2.2.2 j hj)
        · refine ⟨((fN 67 23 rfl).1).trans b2.1, fun _ => ⟨rfl, rfl⟩, ((fN 67 25 rfl).1).trans b2.2.2.1, ?_, ((fN 67 26 rfl).1).trans b2.2.2.2.2.1, ?_⟩
          · intro j hj
            rw [(fN 93 j rfl).1]
            exact b2.2.2.2.1 j hj
          · intro j hj
            exact ((fN 94 j rfl).2).trans (b2.2.2.2.2.2 j hj)
      · refine ans_ok (v := -2) h (fw _ _ (by rw [cl, hp.2 e, bd_some, if_neg (by decide), o2, b1.1, if_neg ow])) ?_
        rw [md (wJ M 120 0 (-2 : Int32).toInt64) s2.2.2.1, if_neg (show ¬ (wI (wJ M 120 0 (-2 : Int32).toInt64) 67 0 0).1 67 23 = -1 from fun q => e (b2.1.symm.trans q)), if_neg (show ¬ (wI (wJ M 120 0 (-2 : Int32).toInt64) 67 0 0).1 92 k = (wI (wJ M 120 0 (-2 : Int32).toInt64) 67 0 0).1 67 23 from fun q => ow (q2.symm.trans (q.trans b2.1)))]
  · refine ans_t (c := 1) (w := 0) h (by decide) ?_ ?_
    · unfold fw_L_blow_0_120 t_X9_blow_0
      rw [needH_f s1.2.2.1 ho]
      rfl
    · unfold f_X10_blow_67 bb_X10_blow_67_0
      rw [ltv_eq, isH_f (M := wI M 67 0 0) s2.2.2.1 hi]
      show bb_X10_blow_67_19 x 1 (wI M 67 0 0) = _
      unfold bb_X10_blow_67_19
      rw [bad1 rfl (by decide)]
      rfl
