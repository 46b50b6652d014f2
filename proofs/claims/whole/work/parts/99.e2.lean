-- ===== sheet =====
def LZ1 : List (Nat × Nat) := LRF ++ [(0, 2), (120, 0)]
def LZ2 : List (Nat × Nat) := LRS ++ [(67, 3)]
theorem c_sheet {M : Mm} (x : Int32) (hR0 : Rel M) : AnsI (fw_L_sheet_0_120 x M) (f_X10_sheet_67 x) := by
  obtain ⟨σ, β, hR⟩ := id hR0
  obtain ⟨g, gB, hC, hM, hb, hm, hT, hI⟩ := id hR
  have tp : TP0 M := hT
  obtain ⟨⟨b, hb5, e12⟩, e67, e68, e3⟩ := tp
  cases hx : inI x 0 (nI b) with
  | false =>
    refine ans_t (c := 1) (w := 0) hR0 (by decide) ?_ ?_
    · simp only [fw_L_sheet_0_120, t_X9_sheet_0, e12, t_needR_f hx, orx]
    · have e1 : (wI M 67 0 0).1 67 1 = nI b := e67.trans e12
      unfold f_X10_sheet_67 bb_X10_sheet_67_0
      rw [ltv_eq, e1, f_inI, hx, bd_some, if_pos (by decide)]
      unfold bb_X10_sheet_67_23
      rw [bad1 (M := wI M 67 0 0) (k := 1) rfl (by decide), bd2_some, if_neg (by decide)]
  | true =>
    obtain ⟨n, rfl, _, hn⟩ := inI_nI (b := 0) (c := b) (by omega) hx (Nat.zero_le _)
    obtain ⟨h, hh⟩ : ∃ h : Nat → Int32, h = fun i => if i < n then M.1 2 i else -1 := ⟨_, rfl⟩
    have hlo : ∀ i, i < n → M.1 2 i = h i := fun i hi => by rw [hh]; show _ = if i < n then _ else _; rw [if_pos hi]
    have t : Tx h n := ⟨by omega, fun i hi => by rw [hh]; show (if i < n then _ else _) = _; rw [if_neg (by omega)]⟩
    clear hh
    obtain ⟨M1, v, c1, f1, z12, r1⟩ := rfirst_c t hlo
    have cl : fw_L_sheet_0_120 (nI n) M = bd2 (ltv (wI M1 0 2 (M1.1 1 6)) fun M_6 => if v = 0 then (bd (f_X7_copyOf_11_3 M_6) fun M_8 => bd (f_X7_findHollows_11 M_8) fun M_10 => bd (f_X1_lay_24_11 M_10) fun M_12 => bd (f_X6_lay_34_11 M_12) fun M_14 => bd (f_X0_wipe_50 M_14) fun M_16 => ltv (wI M_16 0 10 (0 : Int32)) fun M_17 => some (M_17.1 11 7, M_17)) else (some (v - (10 : Int32), M_6))) fun v_3 M_2 => ltv (wJ M_2 120 0 (v_3.toInt64)) fun M_4 => some ((0 : Int32), M_4) := by
      simp only [fw_L_sheet_0_120, t_X9_sheet_0, e12, t_needR_t hx, orx, f_L_sheet_0_120, bb_L_sheet_0_120_0, f_X9_sheet_0, bb_X9_sheet_0_0, f_needR hx, bd_some, c1, bd2_some]
    -- what the model does after it
    have md : ∀ N : Mm, N.1 67 1 = nI b → (∀ i, i < 500 → N.1 68 i = M.1 2 i) → ∃ N1, f_X10_sheet_67 (nI n) N = bb_X10_sheet_67_130 N1 ∧ Fr LRS N N1 ∧ N1.1 67 0 = 0 ∧ N1.1 67 1 = 0 ∧ ((∃ k p, ldP h n 62 0 δ0 (sk h 0) = .inl (k, p) ∧ FSm n k p N1) ∨ ∃ δ', ldP h n 62 0 δ0 (sk h 0) = .inr δ' ∧ DM δ' N1 ∧ GD δ' ∧ N1.1 67 5 = 0 ∧ N1.1 67 6 = -1) := fun N q1 q2 => sheet_m t hb5 hn q1 (fun i hi => (q2 i (by omega)).trans (hlo i hi))
    rcases r1 with ⟨k, p, ho, rfl, fs⟩ | ⟨δ, ho, rfl, hD, gD, z6⟩
    · -- a fault
      have k0 : ¬ nI k = (0 : Int32) := by rw [← fs.1]; exact fs.ne
      have fA : Fr LZ1 M (wJ (wI M1 0 2 (M1.1 1 6)) 120 0 (nI k - 10).toInt64) := Fr.tr (Fr.sub f1 (by decide)) (Fr.tr (Fr.wrI rfl) (Fr.wrJ rfl))
      have cl' : fw_L_sheet_0_120 (nI n) M = some (0, wJ (wI M1 0 2 (M1.1 1 6)) 120 0 (nI k - 10).toInt64) := by
        rw [cl, ltv_eq, if_neg k0, bd2_some, ltv_eq]
      have a2 : (wJ (wI M1 0 2 (M1.1 1 6)) 120 0 (nI k - 10).toInt64).1 0 2 = nI p := fs.2.1
      have a12 : (wJ (wI M1 0 2 (M1.1 1 6)) 120 0 (nI k - 10).toInt64).1 1 2 = 0 := z12
      have a120 : (wJ (wI M1 0 2 (M1.1 1 6)) 120 0 (nI k - 10).toInt64).2 120 0 = (nI k - 10).toInt64 := wJ_at
      generalize wJ (wI M1 0 2 (M1.1 1 6)) 120 0 (nI k - 10).toInt64 = A at *
      obtain ⟨N1, m1, m2, m3, m4, m5⟩ := md A (((fA 67 1 rfl).1).trans (e67.trans e12)) (fun i hi => ((fA 68 i rfl).1).trans (e68 i hi))
      rcases m5 with ⟨k', p', ho', fm⟩ | ⟨δ', ho', _⟩
      · rw [ho] at ho'
        cases ho'
        have fB : Fr LZ2 A (wI N1 67 3 (nI p)) := Fr.tr (Fr.sub m2 (by decide)) (Fr.wrI rfl)
        refine ⟨0, A, nI k - 10, wI N1 67 3 (nI p), cl', ?_, m3, fun _ => ?_, σ, β, g, gB, (hC.fr fA (by decide)).fr fB (by decide), (hM.fr fA (by decide)).fr fB (by decide), (hb.fr fA (by decide)).fr fB (by decide), (hm.fr fA (by decide)).fr fB (by decide), ?_, (hI.fr fA (by decide)).fr fB (by decide)⟩
        · rw [m1]
          unfold bb_X10_sheet_67_130
          rw [ltv_eq, fm.2.1, if_neg (show ¬ (wI N1 67 3 (nI p)).1 67 5 = 0 from fm.ne), show (wI N1 67 3 (nI p)).1 67 5 = nI k from fm.1]
        · exact ((fB 120 0 rfl).2).trans a120
        · show TP0 (wI N1 67 3 (nI p))
          refine ⟨⟨0, Nat.zero_le _, ((fB 1 2 rfl).1).trans a12⟩, m4.trans (((fB 1 2 rfl).1).trans a12).symm, fun i hi => ?_, ?_⟩
          · rw [(fB 68 i rfl).1, (fB 2 i rfl).1, (fA 68 i rfl).1, (fA 2 i rfl).1]
            exact e68 i hi
          · rw [wI_at, (fB 0 2 rfl).1, a2]
      · rw [ho] at ho'
        cases ho'
    · -- a sheet
      have f2 : Fr LZ1 M (wI M1 0 2 (M1.1 1 6)) := Fr.tr (Fr.sub f1 (by decide)) (Fr.wrI rfl)
      have D2 : DC δ (wI M1 0 2 (M1.1 1 6)) := hD.fr (Fr.wrI (L := [(0, 2)]) rfl) (by decide)
      obtain ⟨M3, e3', f3, rc, bc, z10⟩ := set_c D2 gD
      have cl' : fw_L_sheet_0_120 (nI n) M = some (0, wJ M3 120 0 (nI (dL δ)).toInt64) := by
        rw [cl, ltv_eq, if_pos rfl, e3', bd2_some, ltv_eq]
      have f4 : Fr [(120, 0)] M3 (wJ M3 120 0 (nI (dL δ)).toInt64) := Fr.wrJ rfl
      have a2 : (wI M1 0 2 (M1.1 1 6)).1 0 2 = -1 := z6
      have a12 : (wI M1 0 2 (M1.1 1 6)).1 1 2 = 0 := z12
      have a120 : (wJ M3 120 0 (nI (dL δ)).toInt64).2 120 0 = (nI (dL δ)).toInt64 := wJ_at
      generalize wI M1 0 2 (M1.1 1 6) = B at *
      generalize wJ M3 120 0 (nI (dL δ)).toInt64 = A at *
      obtain ⟨N1, m1, m2, m3, m4, m5⟩ := md A (((f4 67 1 rfl).1).trans (((f3 67 1 rfl).1).trans (((f2 67 1 rfl).1).trans (e67.trans e12)))) (fun i hi => ((f4 68 i rfl).1).trans (((f3 68 i rfl).1).trans (((f2 68 i rfl).1).trans (e68 i hi))))
      rcases m5 with ⟨k', p', ho', fm⟩ | ⟨δ', ho', dm, gd', q5, q6⟩
      · rw [ho] at ho'
        cases ho'
      · rw [ho] at ho'
        cases ho'
        obtain ⟨N2, s1, s2, s3, s4, s5, s6⟩ := set_m dm gD q5
        refine ⟨0, A, nI (dL δ), N2, cl', m1.trans s1, ((s2 67 0 rfl).1).trans m3, fun _ => ((s2 120 0 rfl).2).trans (((m2 120 0 rfl).2).trans a120), sgD δ, β0, Good_sg gD, GB0 _, ((rc.fr f4 (by decide)).fr m2 (by decide)).fr s2 (by decide), s3, ((bc.fr f4 (by decide)).fr m2 (by decide)).fr s2 (by decide), s4, ?_, ?_⟩
        · have b12 : N2.1 1 2 = 0 := ((s2 1 2 rfl).1).trans (((m2 1 2 rfl).1).trans (((f4 1 2 rfl).1).trans (((f3 1 2 rfl).1).trans a12)))
          show TP0 N2
          refine ⟨⟨0, Nat.zero_le _, b12⟩, (((s2 67 1 rfl).1).trans m4).trans b12.symm, fun i hi => ?_, ?_⟩
          · rw [(s2 68 i rfl).1, (s2 2 i rfl).1, (m2 68 i rfl).1, (m2 2 i rfl).1, (f4 68 i rfl).1, (f4 2 i rfl).1, (f3 68 i rfl).1, (f3 2 i rfl).1, (f2 68 i rfl).1, (f2 2 i rfl).1]
            exact e68 i hi
          · rw [s6, q6, (s2 0 2 rfl).1, (m2 0 2 rfl).1, (f4 0 2 rfl).1, (f3 0 2 rfl).1, a2]
        · show IM0 (sgD δ) N2
          refine ⟨0, by decide, ((s2 0 10 rfl).1).trans (((m2 0 10 rfl).1).trans (((f4 0 10 rfl).1).trans z10)), s5, fun z => absurd z (by decide), fun z => absurd z (by decide), fun z => absurd z (by decide)⟩
