-- ===== addBlow, addFile, print, punch =====
theorem c_addBlow {M : Mm} (x : Int32) (h : Rel M) : AnsI (fw_L_addBlow_0_120 x M) (f_X10_addBlow_67 x) := by
  obtain ⟨σ, β, hR⟩ := id h
  obtain ⟨g, gB, hC, hM, hb, hm, hT, hI⟩ := id hR
  have b1 : BC0 β 50 M := hb
  have b2 : BM0 β M := hm
  have s1 := hC.1.of
  have s2 := hM.of
  have hH : sH σ ≤ 16 := g.2.2.2.2.1
  rcases idx x (n := sH σ) (by omega) with ⟨k, hk, rfl⟩ | ⟨ho, hi⟩
  · obtain ⟨n1, n2⟩ := needH_t s1.2.2.1 hk (by omega)
    have fw : ∀ v M', f_X0_addAct_50 (nI k) 0 M = some (v, M') → fw_L_addBlow_0_120 (nI k) M = some (0, wJ M' 120 0 v.toInt64) := by
      intro v M' e
      unfold fw_L_addBlow_0_120 t_X9_addBlow_0
      rw [n2]
      show f_L_addBlow_0_120 (nI k) M = _
      unfold f_L_addBlow_0_120 bb_L_addBlow_0_120_0 f_X9_addBlow_0 bb_X9_addBlow_0_0
      rw [n1, e]
      rfl
    have md : ∀ N : Mm, N.1 67 19 = nI (sH σ) → f_X10_addBlow_67 (nI k) N = bd2 (f_X10_adds_67 (nI k) (wI N 67 0 0)) fun v_9 M_8 => some (v_9, M_8) := by
      intro N hN
      unfold f_X10_addBlow_67 bb_X10_addBlow_67_0
      rw [ltv_eq, isH_t (M := wI N 67 0 0) hN hk (by omega)]
      show bb_X10_addBlow_67_19 (nI k) 0 (wI N 67 0 0) = _
      unfold bb_X10_addBlow_67_19
      rw [bad0 rfl]
      rfl
    have ca := addAct_ok (nI k) 0 M gB.2.2.1 b1.2.2.1
    by_cases e : bA β = 40
    · rw [if_pos e] at ca
      refine ans_ok (v := -1) h (fw _ _ ca) ?_
      rw [md (wJ M 120 0 (-1 : Int32).toInt64) s2.2.2.1, adds_ok (nI k) _ gB.2.2.1 (show (wI (wJ M 120 0 (-1 : Int32).toInt64) 67 0 0).1 67 25 = nI (bA β) from b2.2.2.1), if_pos e]
      rfl
    · rw [if_neg e] at ca
      refine ⟨0, _, nI (bA β + 1), wI (wI (wI (wJ (wI (wJ (wI M 51 (bA β) (nI k)) 52 (bA β) 0) 50 5 (nI (bA β + 1))) 120 0 (nI (bA β + 1)).toInt64) 67 0 0) 93 (bA β) (nI k)) 67 25 (nI (bA β + 1)), fw _ _ ca, ?_, rfl, fun _ => rfl, act_add hR (a := .inl k) hk rfl rfl e⟩
      rw [md (wJ (wI (wJ (wI M 51 (bA β) (nI k)) 52 (bA β) 0) 50 5 (nI (bA β + 1))) 120 0 (nI (bA β + 1)).toInt64) s2.2.2.1, adds_ok (nI k) _ gB.2.2.1 (show (wI (wJ (wI (wJ (wI M 51 (bA β) (nI k)) 52 (bA β) 0) 50 5 (nI (bA β + 1))) 120 0 (nI (bA β + 1)).toInt64) 67 0 0).1 67 25 = nI (bA β) from b2.2.2.1), if_neg e]
      rfl
  · refine ans_t (c := 1) (w := 0) h (by decide) ?_ ?_
    · unfold fw_L_addBlow_0_120 t_X9_addBlow_0
      rw [needH_f s1.2.2.1 ho]
      rfl
    · unfold f_X10_addBlow_67 bb_X10_addBlow_67_0
      rw [ltv_eq, isH_f (M := wI M 67 0 0) s2.2.2.1 hi]
      show bb_X10_addBlow_67_19 x 1 (wI M 67 0 0) = _
      unfold bb_X10_addBlow_67_19
      rw [bad1 rfl (by decide)]
      rfl
theorem c_addFile {M : Mm} (x y z : Int32) (h : Rel M) : AnsI (fw_L_addFile_0_120 x y z M) (f_X10_addFile_67 x y z) := by
  obtain ⟨σ, β, hR⟩ := id h
  obtain ⟨g, gB, hC, hM, hb, hm, hT, hI⟩ := id hR
  have b1 : BC0 β 50 M := hb
  have b2 : BM0 β M := hm
  rcases fileq x y z with ⟨s, l, n, hs, hl, hn1, hn, rfl, rfl, rfl, n1, n2, n3⟩ | ⟨n2, n3⟩
  · have fw : ∀ v M', f_X0_addAct_50 (-1) (Fil s l n) M = some (v, M') → fw_L_addFile_0_120 (nI s) (nI l) (nI n) M = some (0, wJ M' 120 0 v.toInt64) := by
      intro v M' e
      unfold fw_L_addFile_0_120 t_X9_addFile_0
      rw [n2]
      show f_L_addFile_0_120 (nI s) (nI l) (nI n) M = _
      unfold f_L_addFile_0_120 bb_L_addFile_0_120_0 f_X9_addFile_0 bb_X9_addFile_0_0
      rw [n1, filed_ok hs hl hn1 hn, bd_some, bd_some, e]
      rfl
    have ew : ((((100 : Int32) + ((64 : Int32) * nI s)) + ((8 : Int32) * nI l)) + nI n) - (1 : Int32) = nI (100 + 64 * s + 8 * l + n - 1) := by
      rw [show (64 : Int32) * nI s = nI (64 * s) from pk_mul 64 s, show (8 : Int32) * nI l = nI (8 * l) from pk_mul 8 l, show (100 : Int32) + nI (64 * s) = nI (100 + 64 * s) from nI_add 100 _, nI_add, nI_add]
      exact nI_sub (b := 1) (by omega)
    have md : ∀ N : Mm, f_X10_addFile_67 (nI s) (nI l) (nI n) N = bd2 (f_X10_adds_67 (nI (100 + 64 * s + 8 * l + n - 1)) (wI N 67 0 0)) fun v_9 M_8 => some (v_9, M_8) := by
      intro N
      unfold f_X10_addFile_67 bb_X10_addFile_67_0
      rw [ltv_eq, n3]
      show bb_X10_addFile_67_20 (nI s) (nI l) (nI n) 0 (wI N 67 0 0) = _
      unfold bb_X10_addFile_67_20
      rw [bad0 rfl, ew]
      rfl
    generalize hw : nI (100 + 64 * s + 8 * l + n - 1) = w at md
    have ca := addAct_ok (-1) (Fil s l n) M gB.2.2.1 b1.2.2.1
    by_cases e : bA β = 40
    · rw [if_pos e] at ca
      refine ans_ok (v := -1) h (fw _ _ ca) ?_
      rw [md (wJ M 120 0 (-1 : Int32).toInt64), adds_ok w _ gB.2.2.1 (show (wI (wJ M 120 0 (-1 : Int32).toInt64) 67 0 0).1 67 25 = nI (bA β) from b2.2.2.1), if_pos e]
      rfl
    · rw [if_neg e] at ca
      refine ⟨0, _, nI (bA β + 1), wI (wI (wI (wJ (wI (wJ (wI M 51 (bA β) (-1)) 52 (bA β) (Fil s l n)) 50 5 (nI (bA β + 1))) 120 0 (nI (bA β + 1)).toInt64) 67 0 0) 93 (bA β) w) 67 25 (nI (bA β + 1)), fw _ _ ca, ?_, rfl, fun _ => rfl, act_add hR (a := .inr (s, l, n)) ⟨hs, hl, hn1, hn⟩ ⟨rfl, rfl⟩ hw.symm e⟩
      rw [md (wJ (wI (wJ (wI M 51 (bA β) (-1)) 52 (bA β) (Fil s l n)) 50 5 (nI (bA β + 1))) 120 0 (nI (bA β + 1)).toInt64), adds_ok w _ gB.2.2.1 (show (wI (wJ (wI (wJ (wI M 51 (bA β) (-1)) 52 (bA β) (Fil s l n)) 50 5 (nI (bA β + 1))) 120 0 (nI (bA β + 1)).toInt64) 67 0 0).1 67 25 = nI (bA β) from b2.2.2.1), if_neg e]
      rfl
  · refine ans_t (c := 1) (w := 0) h (by decide) ?_ ?_
    · unfold fw_L_addFile_0_120 t_X9_addFile_0
      rw [n2]
      rfl
    · unfold f_X10_addFile_67 bb_X10_addFile_67_0
      rw [ltv_eq, n3]
      show bb_X10_addFile_67_20 x y z 1 (wI M 67 0 0) = _
      unfold bb_X10_addFile_67_20
      rw [bad1 rfl (by decide)]
      rfl
def upJ (f : Nat → Int64) (A : Nat) (a : Int64) : Nat → Int64 := fun k => if k = A then a else f k
theorem c_print {M : Mm} (x : Int64) (h : Rel M) : AnsI (fw_L_print_0_120 x M) (f_X10_print_67 x) := by
  obtain ⟨σ, β, hR⟩ := id h
  obtain ⟨g, gB, hC, hM, hb, hm, hT, hI⟩ := id hR
  have b1 : BC0 β 50 M := hb
  have b2 : BM0 β M := hm
  have hP := gB.2.2.2.2.1
  by_cases hx : x = 0
  · refine ans_t (c := 1) (w := 0) h (by decide) ?_ ?_
    · unfold fw_L_print_0_120 t_X9_print_0
      rw [if_pos hx]
      rfl
    · unfold f_X10_print_67 bb_X10_print_67_0
      rw [ltv_eq, if_pos hx]
      unfold bb_X10_print_67_17
      rw [bad1 rfl (by decide)]
      rfl
  · have fw : ∀ v M', f_X0_addPrint_50 x M = some (v, M') → fw_L_print_0_120 x M = some (0, wJ M' 120 0 v.toInt64) := by
      intro v M' e
      unfold fw_L_print_0_120 t_X9_print_0
      rw [if_neg hx]
      show f_L_print_0_120 x M = _
      unfold f_L_print_0_120 bb_L_print_0_120_0 f_X9_print_0 bb_X9_print_0_0
      rw [if_neg hx, e]
      rfl
    have md : ∀ N : Mm, f_X10_print_67 x N = if ((wI N 67 0 0).1 67 26) = (8 : Int32) then (some ((-1 : Int32), wI N 67 0 0)) else (gd (inb ((wI N 67 0 0).1 67 26) 8) (ltv (wJ (wI N 67 0 0) 94 (ix ((wI N 67 0 0).1 67 26)) x) fun M_6 => ltv (wI M_6 67 26 ((M_6.1 67 26) + (1 : Int32))) fun M_7 => some (M_7.1 67 26, M_7))) := by
      intro N
      unfold f_X10_print_67 bb_X10_print_67_0
      rw [ltv_eq, if_neg hx]
      unfold bb_X10_print_67_17
      rw [bad0 rfl]
      rfl
    by_cases e : bN β = 8
    · refine ans_ok (v := -1) h (fw _ _ ?_) ?_
      · unfold f_X0_addPrint_50 bb_X0_addPrint_50_0
        rw [b1.2.2.2.2.1, e]
        rfl
      · rw [md, if_pos]
        exact b2.2.2.2.2.1.trans (by rw [e]; rfl)
    · have c1 : f_X0_addPrint_50 x M = some (nI (bN β + 1), wI (wJ M 53 (bN β) x) 50 7 (nI (bN β + 1))) := by
        unfold f_X0_addPrint_50 bb_X0_addPrint_50_0
        rw [b1.2.2.2.2.1, if_neg (nI_pos (by omega)), if_pos (show nI (bN β) < (8 : Int32) from nI_lt (b := 8) (by omega) (by decide)), gd_of (inb_nI (by omega) (by decide)), ltv_eq, ltv_eq, ix_nI (by omega)]
        have e2 : (wJ M 53 (bN β) x).1 50 7 + 1 = nI (bN β + 1) := by
          rw [show (wJ M 53 (bN β) x).1 50 7 = nI (bN β) from b1.2.2.2.2.1, nI_1]
        rw [e2]
        rfl
      refine ⟨0, _, nI (bN β + 1), wI (wJ (wI (wJ (wI (wJ M 53 (bN β) x) 50 7 (nI (bN β + 1))) 120 0 (nI (bN β + 1)).toInt64) 67 0 0) 94 (bN β) x) 67 26 (nI (bN β + 1)), fw _ _ c1, ?_, rfl, fun _ => rfl, ?_⟩
      · rw [md, show (wI (wJ (wI (wJ M 53 (bN β) x) 50 7 (nI (bN β + 1))) 120 0 (nI (bN β + 1)).toInt64) 67 0 0).1 67 26 = nI (bN β) from b2.2.2.2.2.1, if_neg (show ¬ nI (bN β) = (8 : Int32) from fun q => e ((nI_eq (b := 8) (by omega) (by decide)).mp q)), gd_of (inb_nI (by omega) (by decide)), ltv_eq, ltv_eq, ix_nI (by omega)]
        have e2 : (wJ (wI (wJ (wI (wJ M 53 (bN β) x) 50 7 (nI (bN β + 1))) 120 0 (nI (bN β + 1)).toInt64) 67 0 0) 94 (bN β) x).1 67 26 + 1 = nI (bN β + 1) := by
          rw [show (wJ (wI (wJ (wI (wJ M 53 (bN β) x) 50 7 (nI (bN β + 1))) 120 0 (nI (bN β + 1)).toInt64) 67 0 0) 94 (bN β) x).1 67 26 = nI (bN β) from b2.2.2.2.2.1, nI_1]
        rw [e2]
        rfl
      · refine hR.bench (β' := (bP β, bS β, bB β, bA β, bAc β, bN β + 1, upJ (bPr β) (bN β) x)) (L := [(53, 999), (50, 7), (120, 999), (67, 0), (94, 999), (67, 26)]) (Fr.tr (Fr.wJa rfl) (Fr.tr (Fr.wrI rfl) (Fr.tr (Fr.wJa rfl) (Fr.tr (Fr.wrI rfl) (Fr.tr (Fr.wJa rfl) (Fr.wrI rfl)))))) (by decide) ?_ ?_ ?_
        · refine ⟨gB.1, gB.2.1, gB.2.2.1, gB.2.2.2.1, by show bN β + 1 ≤ 8; omega, ?_⟩
          intro k hk
          have hk' : k < bN β + 1 := hk
          show upJ (bPr β) (bN β) x k ≠ 0
          unfold upJ
          by_cases e : k = bN β
          · rw [if_pos e]
            exact hx
          · rw [if_neg e]
            exact gB.2.2.2.2.2 k (by omega)
        · refine ⟨b1.1, b1.2.1, b1.2.2.1, b1.2.2.2.1, rfl, ?_⟩
          intro k hk
          have hk' : k < bN β + 1 := hk
          show (if 53 = 53 ∧ k = bN β then x else M.2 53 k) = upJ (bPr β) (bN β) x k
          unfold upJ
          by_cases e : k = bN β
          · rw [if_pos ⟨rfl, e⟩, if_pos e]
          · rw [if_neg (fun q => e q.2), if_neg e]
            exact b1.2.2.2.2.2 k (by omega)
        · refine ⟨b2.1, b2.2.1, b2.2.2.1, b2.2.2.2.1, rfl, ?_⟩
          intro k hk
          have hk' : k < bN β + 1 := hk
          show (if 94 = 94 ∧ k = bN β then x else M.2 94 k) = upJ (bPr β) (bN β) x k
          unfold upJ
          by_cases e : k = bN β
          · rw [if_pos ⟨rfl, e⟩, if_pos e]
          · rw [if_neg (fun q => e q.2), if_neg e]
            exact b2.2.2.2.2.2 k (by omega)
-- punch
theorem and_not0 (a s : Int64) : ((s ^^^ -1) &&& a) = 0 ↔ (a &&& (s ^^^ -1)) = 0 := by rw [and_comm']
theorem eq_not (a b : Int64) : a ^^^ -1 = b ^^^ -1 ↔ a = b := by
  constructor
  · intro h
    rw [← xor_xor a, h, xor_xor]
  · rintro rfl
    rfl
theorem c_punch {M : Mm} (x : Int32) (h : Rel M) : AnsI (fw_L_punch_0_120 x M) (f_X10_punch_67 x) := by
  obtain ⟨σ, β, hR⟩ := id h
  obtain ⟨g, gB, hC, hM, hb, hm, hT, hI⟩ := id hR
  have b1 : BC0 β 50 M := hb
  have b2 : BM0 β M := hm
  have s1 := hC.1.of
  have s2 := hM.of
  cases hx : inI x 0 2 with
  | false =>
    refine ans_t (c := 1) (w := 0) h (by decide) ?_ ?_
    · unfold fw_L_punch_0_120 t_X9_punch_0
      rw [t_needR_f hx]
      rfl
    · unfold f_X10_punch_67 bb_X10_punch_67_0
      rw [ltv_eq, f_inI, hx]
      show bb_X10_punch_67_20 x 1 (wI M 67 0 0) = _
      unfold bb_X10_punch_67_20
      rw [bad1 rfl (by decide)]
      rfl
  | true =>
    have hp := hasP g.1 s1.1 b1.1 gB.1
    have fw : ∀ v, f_X9_punch_0 x M = some v → fw_L_punch_0_120 x M = some (0, wJ M 120 0 v.toInt64) := by
      intro v e
      unfold fw_L_punch_0_120 t_X9_punch_0
      rw [t_needR_t hx]
      show f_L_punch_0_120 x M = _
      unfold f_L_punch_0_120 bb_L_punch_0_120_0
      rw [e]
      rfl
    have md0 : ∀ N : Mm, f_X10_punch_67 x N = bb_X10_punch_67_20 x 0 (wI N 67 0 0) := by
      intro N
      unfold f_X10_punch_67 bb_X10_punch_67_0
      rw [ltv_eq, f_inI, hx]
      rfl
    by_cases e : bP β = -1
    · refine ans_ok (v := -1) h (fw _ ?_) ?_
      · unfold f_X9_punch_0 bb_X9_punch_0_0
        rw [f_needR hx, hp.1 e]
        rfl
      · rw [md0]
        unfold bb_X10_punch_67_20
        rw [bad0 rfl, bd2_some, if_pos rfl, if_pos (show (wI (wJ M 120 0 (-1 : Int32).toInt64) 67 0 0).1 67 23 = -1 from b2.1.trans e)]
    · rcases gB.1 with q | ⟨p, hpL, hpe⟩
      · exact absurd q e
      · obtain ⟨t1, t2⟩ := b1.2.1.2 e
        obtain ⟨t3, t4⟩ := b2.2.1 e
        have hp10 : p < 10 := by have := g.1; omega
        have cl : f_X9_punch_0 x M = some (if x = 0 then (if (sInk σ p &&& (bS β ^^^ -1)) = 0 then 1 else 0) else (if x = 1 then (if bS β = sInk σ p then 1 else 0) else bB β)) := by
          unfold f_X9_punch_0 bb_X9_punch_0_0
          rw [f_needR hx, bd_some, hp.2 e, bd_some, if_neg (by decide), b1.1, hpe, gd_of (inb_nI hp10 (by decide)), ltv_eq, ix_nI (by omega), s1.2.2.2.1 p hpL, t1, t2]
          by_cases x0 : x = 0
          · rw [if_pos x0, if_pos x0]
            by_cases q : (sInk σ p &&& (bS β ^^^ -1)) = 0
            · rw [if_pos ((and_not0 _ _).mpr q), if_pos q]
              rfl
            · rw [if_neg (fun z => q ((and_not0 _ _).mp z)), if_neg q]
              rfl
          · rw [if_neg x0, if_neg x0]
            by_cases x1 : x = 1
            · rw [if_pos x1, if_pos x1]
              by_cases q : bS β = sInk σ p
              · rw [if_pos ((eq_not _ _).mpr q), if_pos q]
                rfl
              · rw [if_neg (fun z => q ((eq_not _ _).mp z)), if_neg q]
                rfl
            · rw [if_neg x1, if_neg x1]
              rcases gB.2.1 with q | q
              · rw [q]
                rfl
              · rw [q]
                rfl
        refine ans_ok h (fw _ cl) ?_
        generalize (if x = 0 then (if (sInk σ p &&& (bS β ^^^ -1)) = 0 then 1 else 0) else (if x = 1 then (if bS β = sInk σ p then 1 else 0) else bB β) : Int32).toInt64 = o
        rw [md0]
        unfold bb_X10_punch_67_20
        have m23 : (wI (wJ M 120 0 o) 67 0 0).1 67 23 = nI p := b2.1.trans hpe
        have m22 : (wI (wJ M 120 0 o) 67 0 0).2 67 22 = bS β := t3
        have m24 : (wI (wJ M 120 0 o) 67 0 0).1 67 24 = bB β := t4
        have m72 : (wI (wJ M 120 0 o) 67 0 0).2 72 p = sInk σ p := s2.2.2.2.1 p hpL
        rw [bad0 rfl, bd2_some, if_pos rfl, m23, if_neg (m1_ne (by omega)), m24, m22, ix_nI (by omega), m72]
        unfold f_X10_isGood_67 bb_X10_isGood_67_0
        rw [gd_of (inb_nI hp10 (by decide)), gd_of (inb_nI hp10 (by decide)), ix_nI (by omega), m72, m22]
        by_cases x0 : x = 0
        · rw [if_neg (by rw [x0]; decide), if_pos x0, if_pos x0]
          by_cases q : (sInk σ p &&& (bS β ^^^ -1)) = 0
          · rw [if_pos q, if_pos q]
            rfl
          · rw [if_neg q, if_neg q]
            rfl
        · by_cases x1 : x = 1
          · rw [if_neg (by rw [x1]; decide), if_neg x0, if_neg x0, if_pos x1]
            by_cases q : bS β = sInk σ p
            · rw [if_pos q, if_pos q]
            · rw [if_neg q, if_neg q]
          · have x2 : x = 2 := by
              revert x0 x1
              exact inI_three (P := fun x => ¬ x = 0 → ¬ x = 1 → x = 2) (fun a _ => absurd rfl a) (fun _ a => absurd rfl a) (fun _ _ => rfl) hx
            rw [if_pos x2, if_neg x0, if_neg x1]
