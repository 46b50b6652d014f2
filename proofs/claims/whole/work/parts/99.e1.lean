-- ===== the model: sheet =====
theorem m78 (N : Mm) : ∃ N', b_X10_sheet_67_78 FU 0 N = (bd (f_X10_blanks_67 N') fun M_16 => b_X10_sheet_67_101 FU M_16) ∧ Fr [(89, 999)] N N' ∧ ∀ z, z < 10 → N'.1 89 z = 4 := by
  refine for_q (fun q k (x : Mm) => b_X10_sheet_67_78 q (nI k) x) 10 (fun k x => Fr [(89, 999)] N x ∧ ∀ z, z < k → x.1 89 z = 4) (fun o => ∃ N', o = (bd (f_X10_blanks_67 N') fun M_16 => b_X10_sheet_67_101 FU M_16) ∧ Fr [(89, 999)] N N' ∧ ∀ z, z < 10 → N'.1 89 z = 4) ?_ ?_ 10 0 N FU rfl (by decide) ⟨Fr.refl, fun z hz => absurd hz (by omega)⟩
  · rintro q k x hk ⟨f1, h1⟩
    right
    refine ⟨wI x 89 k 4, ?_, Fr.tr f1 (Fr.wIa rfl), fun z hz => ?_⟩
    · show bb_X10_sheet_67_78 _ _ _ = _
      unfold bb_X10_sheet_67_78
      rw [if_neg (show ¬ (10 : Int32) ≤ nI k from nI_ge (b := 10) hk (by decide)), gd_of (inb_nI hk (by decide)), ltv_eq, ltv_eq, nI_1, ix_nI (by omega)]
    · by_cases e : z = k
      · rw [e, wI_at]
      · rw [wI_i e]
        exact h1 z (by omega)
  · rintro q x ⟨f1, h1⟩
    refine ⟨x, ?_, f1, h1⟩
    show bb_X10_sheet_67_78 _ _ _ = _
    unfold bb_X10_sheet_67_78
    rw [if_pos (by decide)]
theorem m155 (N : Mm) : ∃ N', b_X10_sheet_67_155 FU 0 N = b_X10_sheet_67_180 FU 0 N' ∧ Fr [(70, 999)] N N' ∧ ∀ z, z < 2 → N'.1 70 z = N.1 69 z := by
  refine for_q (fun q k (x : Mm) => b_X10_sheet_67_155 q (nI k) x) 2 (fun k x => Fr [(70, 999)] N x ∧ ∀ z, z < k → x.1 70 z = N.1 69 z) (fun o => ∃ N', o = b_X10_sheet_67_180 FU 0 N' ∧ Fr [(70, 999)] N N' ∧ ∀ z, z < 2 → N'.1 70 z = N.1 69 z) ?_ ?_ 2 0 N FU rfl (by decide) ⟨Fr.refl, fun z hz => absurd hz (by omega)⟩
  · rintro q k x hk ⟨f1, h1⟩
    right
    refine ⟨wI x 70 k (N.1 69 k), ?_, Fr.tr f1 (Fr.wIa rfl), fun z hz => ?_⟩
    · show bb_X10_sheet_67_155 _ _ _ = _
      unfold bb_X10_sheet_67_155
      rw [if_neg (show ¬ (2 : Int32) ≤ nI k from nI_ge (b := 2) hk (by decide)), gd_of (inb_nI hk (by decide)), gd_of (inb_nI hk (by decide)), ltv_eq, ltv_eq, nI_1, ix_nI (by omega), (f1 69 k rfl).1]
    · by_cases e : z = k
      · rw [e, wI_at]
      · rw [wI_i e]
        exact h1 z (by omega)
  · rintro q x ⟨f1, h1⟩
    refine ⟨x, ?_, f1, h1⟩
    show bb_X10_sheet_67_155 _ _ _ = _
    unfold bb_X10_sheet_67_155
    rw [if_pos (by decide)]
theorem m180 (N : Mm) : ∃ N', b_X10_sheet_67_180 FU 0 N = b_X10_sheet_67_206 FU 0 N' ∧ Fr [(72, 999)] N N' ∧ ∀ z, z < 10 → N'.2 72 z = N.2 71 z := by
  refine for_q (fun q k (x : Mm) => b_X10_sheet_67_180 q (nI k) x) 10 (fun k x => Fr [(72, 999)] N x ∧ ∀ z, z < k → x.2 72 z = N.2 71 z) (fun o => ∃ N', o = b_X10_sheet_67_206 FU 0 N' ∧ Fr [(72, 999)] N N' ∧ ∀ z, z < 10 → N'.2 72 z = N.2 71 z) ?_ ?_ 10 0 N FU rfl (by decide) ⟨Fr.refl, fun z hz => absurd hz (by omega)⟩
  · rintro q k x hk ⟨f1, h1⟩
    right
    refine ⟨wJ x 72 k (N.2 71 k), ?_, Fr.tr f1 (Fr.wJa rfl), fun z hz => ?_⟩
    · show bb_X10_sheet_67_180 _ _ _ = _
      unfold bb_X10_sheet_67_180
      rw [if_neg (show ¬ (10 : Int32) ≤ nI k from nI_ge (b := 10) hk (by decide)), gd_of (inb_nI hk (by decide)), gd_of (inb_nI hk (by decide)), ltv_eq, ltv_eq, nI_1, ix_nI (by omega), (f1 71 k rfl).2]
    · by_cases e : z = k
      · rw [e, wJ_at]
      · rw [wJ_i e]
        exact h1 z (by omega)
  · rintro q x ⟨f1, h1⟩
    refine ⟨x, ?_, f1, h1⟩
    show bb_X10_sheet_67_180 _ _ _ = _
    unfold bb_X10_sheet_67_180
    rw [if_pos (by decide)]
def L81 : List (Nat × Nat) := [(81, 999), (82, 999), (83, 999), (84, 999), (85, 999), (86, 999), (88, 999)]
theorem l81 : ∀ w, w < 6 → (L81.any fun q => q.1 == 81 + w && q.2 == 999) = true := by decide
theorem m226 {w : Nat} (hw : w < 6) (k206 : Int32 → Mm → Option (Int32 × Mm)) (x : Mm) : ∃ x', b_X10_sheet_67_226 k206 FU (nI w) 0 x = k206 (nI (w + 1)) x' ∧ Fr L81 x x' ∧ (∀ c, c ≠ 81 + w → ∀ j, x'.1 c j = x.1 c j) ∧ ∀ j, j < 8 → x'.1 (81 + w) j = x.1 (74 + w) j := by
  refine for_q (fun q k (y : Mm) => b_X10_sheet_67_226 k206 q (nI w) (nI k) y) 8 (fun k y => Fr L81 x y ∧ (∀ c, c ≠ 81 + w → ∀ j, y.1 c j = x.1 c j) ∧ ∀ j, j < k → y.1 (81 + w) j = x.1 (74 + w) j) (fun o => ∃ x', o = k206 (nI (w + 1)) x' ∧ Fr L81 x x' ∧ (∀ c, c ≠ 81 + w → ∀ j, x'.1 c j = x.1 c j) ∧ ∀ j, j < 8 → x'.1 (81 + w) j = x.1 (74 + w) j) ?_ ?_ 8 0 x FU rfl (by decide) ⟨Fr.refl, fun _ _ _ => rfl, fun j hj => absurd hj (by omega)⟩
  · rintro q k y hk ⟨f1, h1, h2⟩
    right
    refine ⟨wI y (81 + w) k (x.1 (74 + w) k), ?_, Fr.tr f1 (Fr.wIa (l81 w hw)), fun c hc j => (wI_c hc).trans (h1 c hc j), fun j hj => ?_⟩
    · show bb_X10_sheet_67_226 _ _ _ _ _ = _
      unfold bb_X10_sheet_67_226
      rw [if_neg (show ¬ (8 : Int32) ≤ nI k from nI_ge (b := 8) hk (by decide)), gd_of (inb_nI hw (by decide)), gd_of (inb_nI hw (by decide)), gd_of (inb_nI hk (by decide)), gd_of (inb_nI hk (by decide)), ltv_eq, ltv_eq, nI_1, ix_nI (by omega), ix_nI (by omega), h1 (74 + w) (by omega)]
    · by_cases e : j = k
      · rw [e, wI_at]
      · rw [wI_i e]
        exact h2 j (by omega)
  · rintro q y ⟨f1, h1, h2⟩
    refine ⟨y, ?_, f1, h1, h2⟩
    show bb_X10_sheet_67_226 _ _ _ _ _ = _
    unfold bb_X10_sheet_67_226
    rw [if_pos (by decide), ltv_eq, nI_1]
theorem m206 (N : Mm) : ∃ N', b_X10_sheet_67_206 FU 0 N = b_X10_sheet_67_262 FU 0 N' ∧ Fr L81 N N' ∧ ∀ w, w < 6 → N'.1 88 w = N.1 87 w ∧ ∀ j, j < 8 → N'.1 (81 + w) j = N.1 (74 + w) j := by
  refine for_q (fun q w (x : Mm) => b_X10_sheet_67_206 q (nI w) x) 6 (fun w x => Fr L81 N x ∧ (∀ v, v < 6 → ∀ j, x.1 (74 + v) j = N.1 (74 + v) j) ∧ ∀ v, v < w → x.1 88 v = N.1 87 v ∧ ∀ j, j < 8 → x.1 (81 + v) j = N.1 (74 + v) j) (fun o => ∃ N', o = b_X10_sheet_67_262 FU 0 N' ∧ Fr L81 N N' ∧ ∀ w, w < 6 → N'.1 88 w = N.1 87 w ∧ ∀ j, j < 8 → N'.1 (81 + w) j = N.1 (74 + w) j) ?_ ?_ 6 0 N FU rfl (by decide) ⟨Fr.refl, fun _ _ _ => rfl, fun v hv => absurd hv (by omega)⟩
  · rintro q w x hw ⟨f1, h1, h2⟩
    right
    obtain ⟨x', e, f, g1, g2⟩ := m226 hw (b_X10_sheet_67_206 q) (wI x 88 w (N.1 87 w))
    refine ⟨x', ?_, Fr.tr f1 (Fr.tr (Fr.wIa rfl) f), fun v hv j => ?_, fun v hv => ?_⟩
    · show bb_X10_sheet_67_206 _ _ _ = _
      unfold bb_X10_sheet_67_206
      rw [if_neg (show ¬ (6 : Int32) ≤ nI w from nI_ge (b := 6) hw (by decide)), gd_of (inb_nI hw (by decide)), gd_of (inb_nI hw (by decide)), ltv_eq, ix_nI (by omega), (f1 87 w rfl).1]
      exact e
    · rw [g1 (74 + v) (by omega), wI_c (by omega)]
      exact h1 v hv j
    · by_cases ev : v = w
      · subst ev
        refine ⟨(g1 88 (by omega) v).trans wI_at, fun j hj => ?_⟩
        rw [g2 j hj, wI_c (by omega)]
        exact h1 v hw j
      · have q := h2 v (by omega)
        refine ⟨(g1 88 (by omega) v).trans ((wI_i ev).trans q.1), fun j hj => ?_⟩
        rw [g1 (81 + v) (by omega), wI_c (by omega)]
        exact q.2 j hj
  · rintro q x ⟨f1, h1, h2⟩
    refine ⟨x, ?_, f1, h2⟩
    show bb_X10_sheet_67_206 _ _ _ = _
    unfold bb_X10_sheet_67_206
    rw [if_pos (by decide)]
theorem m262 (N : Mm) : ∃ N', b_X10_sheet_67_262 FU 0 N = (bd (f_X10_findHollows_67 N') fun M_37 => ltv (wI M_37 67 23 (-1 : Int32)) fun M_38 => ltv (wJ M_38 67 22 (0 : Int64)) fun M_39 => ltv (wI M_39 67 24 (0 : Int32)) fun M_40 => ltv (wI M_40 67 25 (0 : Int32)) fun M_41 => ltv (wI M_41 67 26 (0 : Int32)) fun M_42 => ltv (wI M_42 67 27 (0 : Int32)) fun M_43 => some (M_43.1 70 0, M_43)) ∧ Fr [(90, 999)] N N' ∧ ∀ z, z < 10 → N'.1 90 z = N.1 89 z := by
  refine for_q (fun q k (x : Mm) => b_X10_sheet_67_262 q (nI k) x) 10 (fun k x => Fr [(90, 999)] N x ∧ ∀ z, z < k → x.1 90 z = N.1 89 z) (fun o => ∃ N', o = (bd (f_X10_findHollows_67 N') fun M_37 => ltv (wI M_37 67 23 (-1 : Int32)) fun M_38 => ltv (wJ M_38 67 22 (0 : Int64)) fun M_39 => ltv (wI M_39 67 24 (0 : Int32)) fun M_40 => ltv (wI M_40 67 25 (0 : Int32)) fun M_41 => ltv (wI M_41 67 26 (0 : Int32)) fun M_42 => ltv (wI M_42 67 27 (0 : Int32)) fun M_43 => some (M_43.1 70 0, M_43)) ∧ Fr [(90, 999)] N N' ∧ ∀ z, z < 10 → N'.1 90 z = N.1 89 z) ?_ ?_ 10 0 N FU rfl (by decide) ⟨Fr.refl, fun z hz => absurd hz (by omega)⟩
  · rintro q k x hk ⟨f1, h1⟩
    right
    refine ⟨wI x 90 k (N.1 89 k), ?_, Fr.tr f1 (Fr.wIa rfl), fun z hz => ?_⟩
    · show bb_X10_sheet_67_262 _ _ _ = _
      unfold bb_X10_sheet_67_262
      rw [if_neg (show ¬ (10 : Int32) ≤ nI k from nI_ge (b := 10) hk (by decide)), gd_of (inb_nI hk (by decide)), gd_of (inb_nI hk (by decide)), ltv_eq, ltv_eq, nI_1, ix_nI (by omega), (f1 89 k rfl).1]
    · by_cases e : z = k
      · rw [e, wI_at]
      · rw [wI_i e]
        exact h1 z (by omega)
  · rintro q x ⟨f1, h1⟩
    refine ⟨x, ?_, f1, h1⟩
    show bb_X10_sheet_67_262 _ _ _ = _
    unfold bb_X10_sheet_67_262
    rw [if_pos (by decide)]
def LSF : List (Nat × Nat) := [(67, 3), (67, 19), (67, 22), (67, 23), (67, 24), (67, 25), (67, 26), (67, 27), (70, 999), (72, 999), (81, 999), (82, 999), (83, 999), (84, 999), (85, 999), (86, 999), (88, 999), (90, 999), (91, 999), (92, 999)]
theorem set_m {δ : Dr} {N : Mm} (hD : DM δ N) (g : GD δ) (h0 : N.1 67 5 = 0) : ∃ N', bb_X10_sheet_67_130 N = some (nI (dL δ), N') ∧ Fr LSF N N' ∧ SM (sgD δ) N' ∧ BM β0 N' ∧ N'.1 67 27 = 0 ∧ N'.1 67 3 = N.1 67 6 := by
  have gL := g.1
  have gW := g.2.1
  unfold bb_X10_sheet_67_130
  rw [ltv_eq, if_pos (show (wI N 67 3 (N.1 67 6)).1 67 5 = 0 from h0)]
  have f0 : Fr LSF N (wI N 67 3 (N.1 67 6)) := Fr.wrI rfl
  have a0 : (wI N 67 3 (N.1 67 6)).1 67 3 = N.1 67 6 := rfl
  have D0 : DM δ (wI N 67 3 (N.1 67 6)) := hD.fr (Fr.wrI (L := [(67, 3)]) rfl) (by decide)
  generalize wI N 67 3 (N.1 67 6) = N0 at *
  obtain ⟨d1, d2, d3, d4, d5⟩ := D0.of g
  obtain ⟨N1, e1, f1, t1⟩ := m155 N0
  obtain ⟨N2, e2, f2, t2⟩ := m180 N1
  obtain ⟨N3, e3, f3, t3⟩ := m206 N2
  obtain ⟨N4, e4, f4, t4⟩ := m262 N3
  have i0 : N4.1 70 0 = nI (dL δ) := ((f4 70 0 rfl).1).trans (((f3 70 0 rfl).1).trans (((f2 70 0 rfl).1).trans ((t1 0 (by decide)).trans d1)))
  have i1 : N4.1 70 1 = nI (dW δ) := ((f4 70 1 rfl).1).trans (((f3 70 1 rfl).1).trans (((f2 70 1 rfl).1).trans ((t1 1 (by decide)).trans d3)))
  have i2 : ∀ i, i < dL δ → N4.2 72 i = dI δ i := fun i hi => ((f4 72 i rfl).2).trans (((f3 72 i rfl).2).trans ((t2 i (by omega)).trans (((f1 71 i rfl).2).trans (d2 i hi))))
  obtain ⟨N5, e5, f5, H5⟩ := hollows_m (ink := dI δ) gL i0 i2
  have w5 : ∀ {v : Nat}, v < 6 → ∀ {L : List (Nat × Nat)} {A B : Mm}, Fr L A B → (∀ v, v < 6 → ∀ j, inW L (81 + v) j = false) → ∀ j, B.1 (81 + v) j = A.1 (81 + v) j := fun hv _ _ _ f hl j => (f _ j (hl _ hv j)).1
  have n74 : ∀ v, v < 6 → ∀ j, inW [(70, 999)] (74 + v) j = false ∧ inW [(72, 999)] (74 + v) j = false ∧ inW [(90, 999)] (81 + v) j = false ∧ inW LHM (81 + v) j = false := by
    intro v hv j
    rcases v with _ | _ | _ | _ | _ | _ | v
    · exact ⟨rfl, rfl, rfl, rfl⟩
    · exact ⟨rfl, rfl, rfl, rfl⟩
    · exact ⟨rfl, rfl, rfl, rfl⟩
    · exact ⟨rfl, rfl, rfl, rfl⟩
    · exact ⟨rfl, rfl, rfl, rfl⟩
    · exact ⟨rfl, rfl, rfl, rfl⟩
    · omega
  have wl : ∀ w, w < dW δ → ∀ k, k < dN δ w → N5.1 (81 + w) k = nI (dXw δ w k) := by
    intro w hw k hk
    have h8 := (g.2.2.1 w hw).2.1
    have q := n74 w (by omega) k
    rw [(f5 (81 + w) k q.2.2.2).1, (f4 (81 + w) k q.2.2.1).1, (t3 w (by omega)).2 k (by omega), (f2 (74 + w) k q.2.1).1, (f1 (74 + w) k q.1).1]
    exact (d4 w hw).2 k hk
  have le : ∀ w, w < dW δ → N5.1 88 w = nI (dN δ w) := fun w hw => ((f5 88 w rfl).1).trans (((f4 88 w rfl).1).trans ((t3 w (by omega)).1.trans (((f2 87 w rfl).1).trans (((f1 87 w rfl).1).trans (d4 w hw).1))))
  have sp : ∀ z, z < 10 → N5.1 90 z = nI (dS δ z) := fun z hz => ((f5 90 z rfl).1).trans ((t4 z hz).trans (((f3 89 z rfl).1).trans (((f2 89 z rfl).1).trans (((f1 89 z rfl).1).trans (d5 z hz)))))
  let N6 : Mm := wI (wI (wI (wI (wJ (wI N5 67 23 (-1)) 67 22 0) 67 24 0) 67 25 0) 67 26 0) 67 27 0
  have f6 : Fr [(67, 22), (67, 23), (67, 24), (67, 25), (67, 26), (67, 27)] N5 N6 := Fr.tr (Fr.wrI rfl) (Fr.tr (Fr.wrJ rfl) (Fr.tr (Fr.wrI rfl) (Fr.tr (Fr.wrI rfl) (Fr.tr (Fr.wrI rfl) (Fr.wrI rfl)))))
  have S5 : SM (sgD δ) N5 := SM.mk ⟨((f5 70 0 rfl).1).trans i0, ((f5 70 1 rfl).1).trans i1, H5.1, fun i hi => ((f5 72 i rfl).2).trans (i2 i hi), ⟨le, fun k h1 h2 => wl 0 h1 k h2, fun k h1 h2 => wl 1 h1 k h2, fun k h1 h2 => wl 2 h1 k h2, fun k h1 h2 => wl 3 h1 k h2, fun k h1 h2 => wl 4 h1 k h2, fun k h1 h2 => wl 5 h1 k h2⟩, sp, H5.2⟩
  refine ⟨N6, ?_, Fr.tr f0 (Fr.tr (Fr.sub f1 (by decide)) (Fr.tr (Fr.sub f2 (by decide)) (Fr.tr (Fr.sub f3 (by decide)) (Fr.tr (Fr.sub f4 (by decide)) (Fr.tr (Fr.sub f5 (by decide)) (Fr.sub f6 (by decide))))))), S5.fr f6 (by decide), ?_, wI_at, ?_⟩
  · rw [e1, e2, e3, e4, e5, bd_some, ltv_eq, ltv_eq, ltv_eq, ltv_eq, ltv_eq, ltv_eq]
    show some (N5.1 70 0, N6) = _
    rw [(f5 70 0 rfl).1, i0]
  · show BM0 β0 N6
    exact ⟨rfl, fun z => absurd rfl z, rfl, fun k hk => absurd (show k < 0 from hk) (by omega), rfl, fun k hk => absurd (show k < 0 from hk) (by omega)⟩
  · exact ((f6 67 3 rfl).1).trans (((f5 67 3 rfl).1).trans (((f4 67 3 rfl).1).trans (((f3 67 3 rfl).1).trans (((f2 67 3 rfl).1).trans (((f1 67 3 rfl).1).trans a0)))))
def LRS : List (Nat × Nat) := [(67, 0), (67, 1), (67, 2)] ++ LRM
theorem sheet_m {h : Nat → Int32} {n b : Nat} {N : Mm} (t : Tx h n) (hb : b ≤ 500) (hn : n ≤ b) (h1 : N.1 67 1 = nI b) (hx : ∀ i, i < n → N.1 68 i = h i) : ∃ N1, f_X10_sheet_67 (nI n) N = bb_X10_sheet_67_130 N1 ∧ Fr LRS N N1 ∧ N1.1 67 0 = 0 ∧ N1.1 67 1 = 0 ∧ ((∃ k p, ldP h n 62 0 δ0 (sk h 0) = .inl (k, p) ∧ FSm n k p N1) ∨ ∃ δ', ldP h n 62 0 δ0 (sk h 0) = .inr δ' ∧ DM δ' N1 ∧ GD δ' ∧ N1.1 67 5 = 0 ∧ N1.1 67 6 = -1) := by
  have h5 := t.1
  have hr : inI (nI n) 0 (nI b) = true := by
    unfold inI
    rw [decide_eq_true (show (0 : Int32) ≤ nI n from nI_le (a := 0) (by omega) (by omega)), decide_eq_true (nI_le hn (by omega))]
    rfl
  unfold f_X10_sheet_67 bb_X10_sheet_67_0
  rw [ltv_eq, show (wI N 67 0 0).1 67 1 = nI b from h1, f_inI, hr, bd_some, if_neg (by decide)]
  unfold bb_X10_sheet_67_23
  rw [bad0 (M := wI N 67 0 0) rfl, bd2_some, if_pos rfl, ltv_eq, ltv_eq, ltv_eq, ltv_eq, ltv_eq, ltv_eq, ltv_eq, ltv_eq]
  have f0 : Fr LRS N (wI (wI (wI (wI (wI (wI (wI (wI (wI N 67 0 0) 67 1 0) 67 2 (nI n)) 67 4 0) 67 5 0) 67 6 (-1)) 67 7 0) 69 0 0) 69 1 0) := Fr.tr (Fr.wrI rfl) (Fr.tr (Fr.wrI rfl) (Fr.tr (Fr.wrI rfl) (Fr.tr (Fr.wrI rfl) (Fr.tr (Fr.wrI rfl) (Fr.tr (Fr.wrI rfl) (Fr.tr (Fr.wrI rfl) (Fr.tr (Fr.wIa rfl) (Fr.wIa rfl))))))))
  have a : (wI (wI (wI (wI (wI (wI (wI (wI (wI N 67 0 0) 67 1 0) 67 2 (nI n)) 67 4 0) 67 5 0) 67 6 (-1)) 67 7 0) 69 0 0) 69 1 0).1 67 0 = 0 ∧ (wI (wI (wI (wI (wI (wI (wI (wI (wI N 67 0 0) 67 1 0) 67 2 (nI n)) 67 4 0) 67 5 0) 67 6 (-1)) 67 7 0) 69 0 0) 69 1 0).1 67 1 = 0 ∧ (wI (wI (wI (wI (wI (wI (wI (wI (wI N 67 0 0) 67 1 0) 67 2 (nI n)) 67 4 0) 67 5 0) 67 6 (-1)) 67 7 0) 69 0 0) 69 1 0).1 67 2 = nI n ∧ (wI (wI (wI (wI (wI (wI (wI (wI (wI N 67 0 0) 67 1 0) 67 2 (nI n)) 67 4 0) 67 5 0) 67 6 (-1)) 67 7 0) 69 0 0) 69 1 0).1 67 4 = 0 ∧ (wI (wI (wI (wI (wI (wI (wI (wI (wI N 67 0 0) 67 1 0) 67 2 (nI n)) 67 4 0) 67 5 0) 67 6 (-1)) 67 7 0) 69 0 0) 69 1 0).1 67 5 = 0 ∧ (wI (wI (wI (wI (wI (wI (wI (wI (wI N 67 0 0) 67 1 0) 67 2 (nI n)) 67 4 0) 67 5 0) 67 6 (-1)) 67 7 0) 69 0 0) 69 1 0).1 67 6 = -1 ∧ (wI (wI (wI (wI (wI (wI (wI (wI (wI N 67 0 0) 67 1 0) 67 2 (nI n)) 67 4 0) 67 5 0) 67 6 (-1)) 67 7 0) 69 0 0) 69 1 0).1 67 7 = 0 ∧ (wI (wI (wI (wI (wI (wI (wI (wI (wI N 67 0 0) 67 1 0) 67 2 (nI n)) 67 4 0) 67 5 0) 67 6 (-1)) 67 7 0) 69 0 0) 69 1 0).1 69 0 = 0 ∧ (wI (wI (wI (wI (wI (wI (wI (wI (wI N 67 0 0) 67 1 0) 67 2 (nI n)) 67 4 0) 67 5 0) 67 6 (-1)) 67 7 0) 69 0 0) 69 1 0).1 69 1 = 0 := ⟨rfl, rfl, rfl, rfl, rfl, rfl, rfl, rfl, rfl⟩
  generalize wI (wI (wI (wI (wI (wI (wI (wI (wI N 67 0 0) 67 1 0) 67 2 (nI n)) 67 4 0) 67 5 0) 67 6 (-1)) 67 7 0) 69 0 0) 69 1 0 = N0 at *
  obtain ⟨a0, a1, a2, a4, a5, a6, a7, b0, b1⟩ := a
  obtain ⟨N2, e2, f2, t2⟩ := m78 N0
  have T2 : TM h n N2 := ⟨((f2 67 2 rfl).1).trans a2, fun i hi => ((f2 68 i rfl).1).trans (((f0 68 i rfl).1).trans (hx i hi))⟩
  obtain ⟨N3, e3, f3, p3⟩ := blanks_m (a := 0) t T2 (((f2 67 4 rfl).1).trans a4) (Nat.zero_le _)
  have D2 : DM δ0 N2 := DM.mk ⟨((f2 69 0 rfl).1).trans b0, fun i hi => absurd (show i < 0 from hi) (by omega), ((f2 69 1 rfl).1).trans b1, fun w hw => absurd (show w < 0 from hw) (by omega), t2⟩ GD0
  have ms : MS h n δ0 (sk h 0) 0 N3 := ⟨T2.fr f3 rfl (fun _ => rfl), D2.fr f3 (by decide), p3, ((f3 67 5 rfl).1).trans (((f2 67 5 rfl).1).trans a5), sk_le t (Nat.zero_le _), GD0, ((f3 67 6 rfl).1).trans (((f2 67 6 rfl).1).trans a6), ((f3 67 7 rfl).1).trans (((f2 67 7 rfl).1).trans a7)⟩
  obtain ⟨N4, e4, f4, r4⟩ := load_m t 62 0 FU δ0 (sk h 0) N3 rfl (by decide) (by decide) (sk_ok t 0).2 ms
  refine ⟨N4, ?_, Fr.tr f0 (Fr.tr (Fr.sub f2 (by decide)) (Fr.tr (Fr.sub f3 (by decide)) (Fr.sub f4 (by decide)))), ?_, ?_, r4⟩
  · rw [e2, e3, bd_some]
    exact e4
  · exact ((f4 67 0 rfl).1).trans (((f3 67 0 rfl).1).trans (((f2 67 0 rfl).1).trans a0))
  · exact ((f4 67 1 rfl).1).trans (((f3 67 1 rfl).1).trans (((f2 67 1 rfl).1).trans a1))
