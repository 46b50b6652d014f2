-- ===== images =====
theorem wI_self {M : Mm} {c i : Nat} {v : Int32} (h : M.1 c i = v) : wI M c i v = M := by
  unfold wI
  refine Prod.ext ?_ rfl
  funext a b
  show (if a = c ∧ b = i then v else M.1 a b) = M.1 a b
  by_cases q : a = c ∧ b = i
  · rw [if_pos q, q.1, q.2, h]
  · rw [if_neg q]
theorem wJ_same {M : Mm} {c i : Nat} {v : Int64} (h : M.2 c i = v) : wJ M c i v = M := by
  rw [← h]
  exact wJ_self
theorem inW2 {r c i : Nat} (h : c ≠ r) (h' : ¬ (c = 67 ∧ i = 31)) : inW [(r, 999), (67, 31)] c i = false := by
  unfold inW
  simp only [List.any_cons, List.any_nil, Bool.or_false]
  apply Bool.eq_false_iff.mpr
  intro q
  simp only [Bool.or_eq_true, Bool.and_eq_true, beq_iff_eq] at q
  rcases q with ⟨q, _⟩ | ⟨q, q2⟩
  · exact h q.symm
  · rcases q2 with q2 | q2
    · cases q2
    · exact h' ⟨q.symm, q2.symm⟩
theorem mv_save {r s : Nat} {v : Int64} {N : Mm} (hs : s < 60) (hr : r ≠ 67) (h : N.1 67 31 = nI s) : f_X10_moves_67_r r v 0 N = some (v, wI (wJ N r s v) 67 31 (nI (s + 1))) := by
  unfold f_X10_moves_67_r bb_X10_moves_67_r_0 bb_X10_moves_67_r_12
  rw [if_pos rfl, h, gd_of (inb_nI hs (by decide)), ltv_eq, ltv_eq, ix_nI (by omega)]
  have e1 : (wJ N r s v).1 67 31 + 1 = nI (s + 1) := by
    rw [show (wJ N r s v).1 67 31 = nI s from h, nI_1]
  rw [e1]
  have e2 : (wI (wJ N r s v) 67 31 (nI (s + 1))).1 67 31 - 1 = nI s := by
    show nI (s + 1) - 1 = nI s
    exact nI_pred s
  rw [e2, gd_of (inb_nI hs (by decide)), ix_nI (by omega)]
  congr 2
  exact wJ_at
theorem mv_back {r s : Nat} {v : Int64} {N : Mm} (hs : s < 60) (h : N.1 67 31 = nI s) : f_X10_moves_67_r r v 1 N = some (N.2 r s, wI N 67 31 (nI (s + 1))) := by
  unfold f_X10_moves_67_r bb_X10_moves_67_r_0 bb_X10_moves_67_r_12
  rw [if_neg (by decide), ltv_eq, h, nI_1]
  have e2 : (wI N 67 31 (nI (s + 1))).1 67 31 - 1 = nI s := by
    show nI (s + 1) - 1 = nI s
    exact nI_pred s
  rw [e2, gd_of (inb_nI hs (by decide)), ix_nI (by omega)]
  rfl
/-- what an image holds at place j -/
def img (M : Mm) (j : Nat) : Int64 := if j = 0 then M.2 67 22 else if j = 1 then (M.1 67 23).toInt64 else if j = 2 then (M.1 67 24).toInt64 else if j = 3 then (M.1 67 25).toInt64 else if j = 4 then (M.1 67 26).toInt64 else if j < 45 then (M.1 93 (j - 5)).toInt64 else M.2 94 (j - 45)
def SV (M : Mm) (r k : Nat) (N : Mm) : Prop := N.1 67 31 = nI k ∧ Fr [(r, 999), (67, 31)] M N ∧ ∀ j, j < k → N.2 r j = img M j
theorem SV.step {M N : Mm} {r k : Nat} (h : SV M r k N) (hk : k < 60) (hr : 95 < r) : f_X10_moves_67_r r (img M k) 0 N = some (img M k, wI (wJ N r k (img M k)) 67 31 (nI (k + 1))) ∧ SV M r (k + 1) (wI (wJ N r k (img M k)) 67 31 (nI (k + 1))) := by
  obtain ⟨h1, h2, h3⟩ := h
  refine ⟨mv_save hk (by omega) h1, wI_at, Fr.tr h2 (Fr.tr (Fr.wrJ ?_) (Fr.wrI ?_)), ?_⟩
  · unfold inW
    simp
  · unfold inW
    simp
  · intro j hj
    show (if r = r ∧ j = k then img M k else N.2 r j) = img M j
    by_cases e : j = k
    · rw [if_pos ⟨rfl, e⟩, e]
    · rw [if_neg (fun q => e q.2)]
      exact h3 j (by omega)
theorem SV.c1 {M N : Mm} {r k : Nat} (h : SV M r k N) {c i : Nat} (hc : c ≠ r) (h' : ¬ (c = 67 ∧ i = 31)) : N.1 c i = M.1 c i := (h.2.1 c i (inW2 hc h')).1
theorem SV.c2 {M N : Mm} {r k : Nat} (h : SV M r k N) {c i : Nat} (hc : c ≠ r) (h' : ¬ (c = 67 ∧ i = 31)) : N.2 c i = M.2 c i := (h.2.1 c i (inW2 hc h')).2
theorem i32_64 (x : Int32) : x.toInt64.toInt32 = x := by simp
theorem img_a (M : Mm) {k : Nat} (hk : k < 40) : img M (5 + k) = (M.1 93 k).toInt64 := by
  unfold img
  rw [if_neg (by omega), if_neg (by omega), if_neg (by omega), if_neg (by omega), if_neg (by omega), if_pos (by omega), Nat.add_sub_cancel_left]
theorem img_p (M : Mm) (k : Nat) : img M (45 + k) = M.2 94 k := by
  unfold img
  rw [if_neg (by omega), if_neg (by omega), if_neg (by omega), if_neg (by omega), if_neg (by omega), if_neg (by omega), Nat.add_sub_cancel_left]
theorem SV.st {M N : Mm} {r k : Nat} (h : SV M r k N) (hk : k < 60) (hr : 95 < r) : ∃ N', f_X10_moves_67_r r (img M k) 0 N = some (img M k, N') ∧ SV M r (k + 1) N' := ⟨_, (h.step hk hr).1, (h.step hk hr).2⟩
theorem save_p {M : Mm} {r : Nat} (hr : 95 < r) {N : Mm} (h : SV M r 45 N) : Gv (SV M r 53) (b_X10_movesAll_67_r_119 FU r 0 0 N) := by
  refine for_q (fun n k N => b_X10_movesAll_67_r_119 n r 0 (nI k) N) 8 (fun k N => SV M r (45 + k) N) (Gv (SV M r 53)) ?_ ?_ 8 0 N FU rfl (by decide) h
  · intro n k N hk hI
    right
    obtain ⟨N', m, z⟩ := hI.st (by omega) hr
    refine ⟨N', ?_, z⟩
    show bb_X10_movesAll_67_r_119 _ _ _ _ _ = _
    unfold bb_X10_movesAll_67_r_119
    rw [if_neg (show ¬ (8 : Int32) ≤ nI k from nI_ge hk (by decide)), gd_of (inb_nI hk (by decide)), ix_nI (by omega), hI.c2 (by omega) (by omega), ← img_p M k, m, bd2_some, gd_of (inb_nI hk (by decide)), ltv_eq, ltv_eq, nI_1, wJ_same (by rw [z.c2 (by omega) (by omega), img_p])]
  · intro n N hI
    show Gv _ (bb_X10_movesAll_67_r_119 _ _ _ _ _)
    unfold bb_X10_movesAll_67_r_119
    rw [if_pos (by decide)]
    exact Gv.ret hI
theorem save_a {M : Mm} {r : Nat} (hr : 95 < r) {N : Mm} (h : SV M r 5 N) : Gv (SV M r 53) (b_X10_movesAll_67_r_85 FU r 0 0 N) := by
  refine for_q (fun n k N => b_X10_movesAll_67_r_85 n r 0 (nI k) N) 40 (fun k N => SV M r (5 + k) N) (Gv (SV M r 53)) ?_ ?_ 40 0 N FU rfl (by decide) h
  · intro n k N hk hI
    right
    obtain ⟨N', m, z⟩ := hI.st (by omega) hr
    refine ⟨N', ?_, z⟩
    show bb_X10_movesAll_67_r_85 _ _ _ _ _ = _
    unfold bb_X10_movesAll_67_r_85
    rw [if_neg (show ¬ (40 : Int32) ≤ nI k from nI_ge hk (by decide)), gd_of (inb_nI hk (by decide)), ix_nI (by omega), hI.c1 (by omega) (by omega), ← img_a M hk, m, bd2_some, gd_of (inb_nI hk (by decide)), ltv_eq, ltv_eq, nI_1, wI_self (by rw [z.c1 (by omega) (by omega), img_a M hk, i32_64])]
  · intro n N hI
    show Gv _ (bb_X10_movesAll_67_r_85 _ _ _ _ _)
    unfold bb_X10_movesAll_67_r_85
    rw [if_pos (by decide)]
    exact save_p hr hI
theorem save_ok {M : Mm} {r : Nat} (hr : 95 < r) : Gv (SV M r 53) (f_X10_movesAll_67_r r 0 M) := by
  have z : SV M r 0 (wI M 67 31 0) := ⟨rfl, Fr.wrI (by unfold inW; simp), fun j hj => absurd hj (Nat.not_lt_zero j)⟩
  unfold f_X10_movesAll_67_r bb_X10_movesAll_67_r_0
  rw [ltv_eq]
  generalize wI M 67 31 0 = N0 at z
  obtain ⟨N1, m1, z1⟩ := z.st (by decide) hr
  rw [show N0.2 67 22 = img M 0 from z.c2 (by omega) (by omega), m1, bd2_some, ltv_eq, wJ_same (v := img M 0) (z1.c2 (by omega) (by omega))]
  obtain ⟨N2, m2, z2⟩ := z1.st (by decide) hr
  rw [show (N1.1 67 23).toInt64 = img M (0 + 1) from congrArg Int32.toInt64 (z1.c1 (by omega) (by omega)), m2, bd2_some, ltv_eq, wI_self (v := (img M (0 + 1)).toInt32) (by rw [z2.c1 (by omega) (by omega)]; exact (i32_64 _).symm)]
  obtain ⟨N3, m3, z3⟩ := z2.st (by decide) hr
  rw [show (N2.1 67 24).toInt64 = img M (0 + 1 + 1) from congrArg Int32.toInt64 (z2.c1 (by omega) (by omega)), m3, bd2_some, ltv_eq, wI_self (v := (img M (0 + 1 + 1)).toInt32) (by rw [z3.c1 (by omega) (by omega)]; exact (i32_64 _).symm)]
  obtain ⟨N4, m4, z4⟩ := z3.st (by decide) hr
  rw [show (N3.1 67 25).toInt64 = img M (0 + 1 + 1 + 1) from congrArg Int32.toInt64 (z3.c1 (by omega) (by omega)), m4, bd2_some, ltv_eq, wI_self (v := (img M (0 + 1 + 1 + 1)).toInt32) (by rw [z4.c1 (by omega) (by omega)]; exact (i32_64 _).symm)]
  obtain ⟨N5, m5, z5⟩ := z4.st (by decide) hr
  rw [show (N4.1 67 26).toInt64 = img M (0 + 1 + 1 + 1 + 1) from congrArg Int32.toInt64 (z4.c1 (by omega) (by omega)), m5, bd2_some, ltv_eq, wI_self (v := (img M (0 + 1 + 1 + 1 + 1)).toInt32) (by rw [z5.c1 (by omega) (by omega)]; exact (i32_64 _).symm)]
  exact save_a hr z5
/-- back from an image -/
def LBK : List (Nat × Nat) := [(67, 22), (67, 23), (67, 24), (67, 25), (67, 26), (67, 31), (93, 999), (94, 999)]
def BK (M : Mm) (r k : Nat) (N : Mm) : Prop := N.1 67 31 = nI k ∧ Fr LBK M N ∧ (0 < k → N.2 67 22 = M.2 r 0) ∧ (1 < k → N.1 67 23 = (M.2 r 1).toInt32) ∧ (2 < k → N.1 67 24 = (M.2 r 2).toInt32) ∧ (3 < k → N.1 67 25 = (M.2 r 3).toInt32) ∧ (4 < k → N.1 67 26 = (M.2 r 4).toInt32) ∧ (∀ j, 5 + j < k → j < 40 → N.1 93 j = (M.2 r (5 + j)).toInt32) ∧ (∀ j, 45 + j < k → N.2 94 j = M.2 r (45 + j))
theorem inW_hi {r j : Nat} (h : 95 < r) : inW LBK r j = false := by
  unfold inW LBK
  simp only [List.any_cons, List.any_nil, Bool.or_false]
  apply Bool.eq_false_iff.mpr
  intro q
  simp only [Bool.or_eq_true, Bool.and_eq_true, beq_iff_eq] at q
  omega
theorem BK.r {M N : Mm} {r k j : Nat} (h : BK M r k N) (hr : 95 < r) : N.2 r j = M.2 r j := (h.2.1 r j (inW_hi hr)).2
theorem BK.mv {M N : Mm} {r k : Nat} (h : BK M r k N) (hk : k < 60) (hr : 95 < r) (v : Int64) : f_X10_moves_67_r r v 1 N = some (M.2 r k, wI N 67 31 (nI (k + 1))) := by
  rw [mv_back hk h.1, h.r hr]
theorem back_p {M : Mm} {r : Nat} (hr : 95 < r) {N : Mm} (h : BK M r 45 N) : Gv (BK M r 53) (b_X10_movesAll_67_r_119 FU r 1 0 N) := by
  refine for_q (fun n k N => b_X10_movesAll_67_r_119 n r 1 (nI k) N) 8 (fun k N => BK M r (45 + k) N) (Gv (BK M r 53)) ?_ ?_ 8 0 N FU rfl (by decide) h
  · intro n k N hk hI
    right
    refine ⟨wJ (wI N 67 31 (nI (45 + k + 1))) 94 k (M.2 r (45 + k)), ?_, ?_⟩
    · show bb_X10_movesAll_67_r_119 _ _ _ _ _ = _
      unfold bb_X10_movesAll_67_r_119
      rw [if_neg (show ¬ (8 : Int32) ≤ nI k from nI_ge hk (by decide)), gd_of (inb_nI hk (by decide)), hI.mv (by omega) hr, bd2_some, gd_of (inb_nI hk (by decide)), ltv_eq, ltv_eq, nI_1, ix_nI (by omega)]
    · obtain ⟨h1, h2, h3, h4, h5, h6, h7, h8, h9⟩ := hI
      refine ⟨rfl, Fr.tr h2 (Fr.tr (Fr.wrI rfl) (Fr.wJa rfl)), fun _ => h3 (by omega), fun _ => h4 (by omega), fun _ => h5 (by omega), fun _ => h6 (by omega), fun _ => h7 (by omega), fun j hj h40 => h8 j (by omega) h40, ?_⟩
      intro j hj
      show (if 94 = 94 ∧ j = k then M.2 r (45 + k) else N.2 94 j) = _
      by_cases e : j = k
      · rw [if_pos ⟨rfl, e⟩, e]
      · rw [if_neg (fun q => e q.2)]
        exact h9 j (by omega)
  · intro n N hI
    show Gv _ (bb_X10_movesAll_67_r_119 _ _ _ _ _)
    unfold bb_X10_movesAll_67_r_119
    rw [if_pos (by decide)]
    exact Gv.ret hI
theorem back_a {M : Mm} {r : Nat} (hr : 95 < r) {N : Mm} (h : BK M r 5 N) : Gv (BK M r 53) (b_X10_movesAll_67_r_85 FU r 1 0 N) := by
  refine for_q (fun n k N => b_X10_movesAll_67_r_85 n r 1 (nI k) N) 40 (fun k N => BK M r (5 + k) N) (Gv (BK M r 53)) ?_ ?_ 40 0 N FU rfl (by decide) h
  · intro n k N hk hI
    right
    refine ⟨wI (wI N 67 31 (nI (5 + k + 1))) 93 k (M.2 r (5 + k)).toInt32, ?_, ?_⟩
    · show bb_X10_movesAll_67_r_85 _ _ _ _ _ = _
      unfold bb_X10_movesAll_67_r_85
      rw [if_neg (show ¬ (40 : Int32) ≤ nI k from nI_ge hk (by decide)), gd_of (inb_nI hk (by decide)), hI.mv (by omega) hr, bd2_some, gd_of (inb_nI hk (by decide)), ltv_eq, ltv_eq, nI_1, ix_nI (by omega)]
    · obtain ⟨h1, h2, h3, h4, h5, h6, h7, h8, h9⟩ := hI
      refine ⟨rfl, Fr.tr h2 (Fr.tr (Fr.wrI rfl) (Fr.wIa rfl)), fun _ => h3 (by omega), fun _ => h4 (by omega), fun _ => h5 (by omega), fun _ => h6 (by omega), fun _ => h7 (by omega), ?_, fun j hj => absurd hj (by omega)⟩
      intro j hj h40
      show (if 93 = 93 ∧ j = k then (M.2 r (5 + k)).toInt32 else N.1 93 j) = _
      by_cases e : j = k
      · rw [if_pos ⟨rfl, e⟩, e]
      · rw [if_neg (fun q => e q.2)]
        exact h8 j (by omega) h40
  · intro n N hI
    show Gv _ (bb_X10_movesAll_67_r_85 _ _ _ _ _)
    unfold bb_X10_movesAll_67_r_85
    rw [if_pos (by decide)]
    exact back_p hr hI
theorem BK.s22 {M N : Mm} {r : Nat} (h : BK M r 0 N) : BK M r 1 (wJ (wI N 67 31 (nI 1)) 67 22 (M.2 r 0)) := ⟨rfl, Fr.tr h.2.1 (Fr.tr (Fr.wrI rfl) (Fr.wrJ rfl)), fun _ => rfl, fun h => absurd h (by decide), fun h => absurd h (by decide), fun h => absurd h (by decide), fun h => absurd h (by decide), fun j h => absurd h (by omega), fun j h => absurd h (by omega)⟩
theorem BK.s23 {M N : Mm} {r : Nat} (h : BK M r 1 N) : BK M r 2 (wI (wI N 67 31 (nI 2)) 67 23 (M.2 r 1).toInt32) := ⟨rfl, Fr.tr h.2.1 (Fr.tr (Fr.wrI rfl) (Fr.wrI rfl)), fun _ => h.2.2.1 (by decide), fun _ => rfl, fun h => absurd h (by decide), fun h => absurd h (by decide), fun h => absurd h (by decide), fun j h => absurd h (by omega), fun j h => absurd h (by omega)⟩
theorem BK.s24 {M N : Mm} {r : Nat} (h : BK M r 2 N) : BK M r 3 (wI (wI N 67 31 (nI 3)) 67 24 (M.2 r 2).toInt32) := ⟨rfl, Fr.tr h.2.1 (Fr.tr (Fr.wrI rfl) (Fr.wrI rfl)), fun _ => h.2.2.1 (by decide), fun _ => h.2.2.2.1 (by decide), fun _ => rfl, fun h => absurd h (by decide), fun h => absurd h (by decide), fun j h => absurd h (by omega), fun j h => absurd h (by omega)⟩
theorem BK.s25 {M N : Mm} {r : Nat} (h : BK M r 3 N) : BK M r 4 (wI (wI N 67 31 (nI 4)) 67 25 (M.2 r 3).toInt32) := ⟨rfl, Fr.tr h.2.1 (Fr.tr (Fr.wrI rfl) (Fr.wrI rfl)), fun _ => h.2.2.1 (by decide), fun _ => h.2.2.2.1 (by decide), fun _ => h.2.2.2.2.1 (by decide), fun _ => rfl, fun h => absurd h (by decide), fun j h => absurd h (by omega), fun j h => absurd h (by omega)⟩
theorem BK.s26 {M N : Mm} {r : Nat} (h : BK M r 4 N) : BK M r 5 (wI (wI N 67 31 (nI 5)) 67 26 (M.2 r 4).toInt32) := ⟨rfl, Fr.tr h.2.1 (Fr.tr (Fr.wrI rfl) (Fr.wrI rfl)), fun _ => h.2.2.1 (by decide), fun _ => h.2.2.2.1 (by decide), fun _ => h.2.2.2.2.1 (by decide), fun _ => h.2.2.2.2.2.1 (by decide), fun _ => rfl, fun j h => absurd h (by omega), fun j h => absurd h (by omega)⟩
theorem BK.mv' {M N : Mm} {r k m : Nat} (h : BK M r k N) (hk : k < 60) (hr : 95 < r) (v : Int64) (hm : m = k + 1) : f_X10_moves_67_r r v 1 N = some (M.2 r k, wI N 67 31 (nI m)) := by
  subst hm
  exact h.mv hk hr v
theorem back_ok {M : Mm} {r : Nat} (hr : 95 < r) : Gv (BK M r 53) (f_X10_movesAll_67_r r 1 M) := by
  have z : BK M r 0 (wI M 67 31 0) := ⟨rfl, Fr.wrI rfl, fun h => absurd h (by omega), fun h => absurd h (by omega), fun h => absurd h (by omega), fun h => absurd h (by omega), fun h => absurd h (by omega), fun j h => absurd h (by omega), fun j h => absurd h (by omega)⟩
  have z1 := z.s22
  have z2 := z1.s23
  have z3 := z2.s24
  have z4 := z3.s25
  have z5 := z4.s26
  unfold f_X10_movesAll_67_r bb_X10_movesAll_67_r_0
  rw [ltv_eq, z.mv' (m := 1) (by decide) hr _ rfl, bd2_some, ltv_eq, z1.mv' (m := 2) (by decide) hr _ rfl, bd2_some, ltv_eq, z2.mv' (m := 3) (by decide) hr _ rfl, bd2_some, ltv_eq, z3.mv' (m := 4) (by decide) hr _ rfl, bd2_some, ltv_eq, z4.mv' (m := 5) (by decide) hr _ rfl, bd2_some, ltv_eq]
  exact back_a hr z5
theorem copy_55_50 {M : Mm} (hB : isB (M.1 50 2) = true) : ∃ M1, f_X0_copyOf_55_50 M = some M1 ∧ Fr (LBC 55) M M1 ∧ M1.1 55 0 = M.1 50 0 ∧ M1.2 55 1 = M.2 50 1 ∧ M1.1 55 2 = M.1 50 2 ∧ M1.1 55 5 = M.1 50 5 ∧ M1.1 55 7 = M.1 50 7 ∧ (∀ k, k < 40 → M1.1 56 k = M.1 51 k ∧ M1.2 57 k = M.2 52 k) ∧ ∀ k, k < 8 → M1.2 58 k = M.2 53 k := by
  refine ⟨cpJ (cpJ (cpI (wI (wI (wI (wJ (wI M 55 0 (M.1 50 0)) 55 1 (M.2 50 1)) 55 2 (M.1 50 2)) 55 5 (M.1 50 5)) 55 7 (M.1 50 7)) 51 56 40) 52 57 40) 53 58 8, ?_, Fr.tr (Fr.wrI rfl) (Fr.tr (Fr.wrJ rfl) (Fr.tr (Fr.wrI rfl) (Fr.tr (Fr.wrI rfl) (Fr.tr (Fr.wrI rfl) (Fr.tr (Fr.cpI rfl) (Fr.tr (Fr.cpJ rfl) (Fr.cpJ rfl))))))), rfl, rfl, rfl, rfl, rfl, ?_, ?_⟩
  · unfold f_X0_copyOf_55_50 bb_X0_copyOf_55_50_0
    simp only [ltv_eq]
    show gd (isB (M.1 50 2)) _ = _
    rw [gd_of hB]
    rfl
  · intro k hk
    constructor
    · show (if 56 = 56 ∧ k < 40 then M.1 51 k else _) = _
      exact if_pos ⟨rfl, hk⟩
    · show (if 57 = 57 ∧ k < 40 then M.2 52 k else _) = _
      exact if_pos ⟨rfl, hk⟩
  · intro k hk
    show (if 58 = 58 ∧ k < 8 then M.2 53 k else _) = _
    exact if_pos ⟨rfl, hk⟩
theorem copyB_55_50 {σ : Sg} {β : Bn} {M : Mm} (g : GoodB σ β) (h : BC0 β 50 M) : ∃ M1, f_X0_copyOf_55_50 M = some M1 ∧ Fr (LBC 55) M M1 ∧ BC0 β 55 M1 := by
  obtain ⟨M1, e, hf, a0, a1, a2, a5, a7, ak, ap⟩ := copy_55_50 (M := M) h.2.1.1
  refine ⟨M1, e, hf, a0.trans h.1, ⟨by rw [a2]; exact h.2.1.1, fun q => ⟨a1.trans (h.2.1.2 q).1, a2.trans (h.2.1.2 q).2⟩⟩, a5.trans h.2.2.1, ?_, a7.trans h.2.2.2.2.1, ?_⟩
  · intro k hk
    have := g.2.2.1
    show AcC (M1.1 56 k) (M1.2 57 k) (bAc β k)
    rw [(ak k (by omega)).1, (ak k (by omega)).2]
    exact h.2.2.2.1 k hk
  · intro k hk
    have := g.2.2.2.2.1
    exact (ap k (by omega)).trans (h.2.2.2.2.2 k hk)
theorem copy_50_55 {M : Mm} (hB : isB (M.1 55 2) = true) : ∃ M1, f_X0_copyOf_50_55 M = some M1 ∧ Fr (LBC 50) M M1 ∧ M1.1 50 0 = M.1 55 0 ∧ M1.2 50 1 = M.2 55 1 ∧ M1.1 50 2 = M.1 55 2 ∧ M1.1 50 5 = M.1 55 5 ∧ M1.1 50 7 = M.1 55 7 ∧ (∀ k, k < 40 → M1.1 51 k = M.1 56 k ∧ M1.2 52 k = M.2 57 k) ∧ ∀ k, k < 8 → M1.2 53 k = M.2 58 k := by
  refine ⟨cpJ (cpJ (cpI (wI (wI (wI (wJ (wI M 50 0 (M.1 55 0)) 50 1 (M.2 55 1)) 50 2 (M.1 55 2)) 50 5 (M.1 55 5)) 50 7 (M.1 55 7)) 56 51 40) 57 52 40) 58 53 8, ?_, Fr.tr (Fr.wrI rfl) (Fr.tr (Fr.wrJ rfl) (Fr.tr (Fr.wrI rfl) (Fr.tr (Fr.wrI rfl) (Fr.tr (Fr.wrI rfl) (Fr.tr (Fr.cpI rfl) (Fr.tr (Fr.cpJ rfl) (Fr.cpJ rfl))))))), rfl, rfl, rfl, rfl, rfl, ?_, ?_⟩
  · unfold f_X0_copyOf_50_55 bb_X0_copyOf_50_55_0
    simp only [ltv_eq]
    show gd (isB (M.1 55 2)) _ = _
    rw [gd_of hB]
    rfl
  · intro k hk
    constructor
    · show (if 51 = 51 ∧ k < 40 then M.1 56 k else _) = _
      exact if_pos ⟨rfl, hk⟩
    · show (if 52 = 52 ∧ k < 40 then M.2 57 k else _) = _
      exact if_pos ⟨rfl, hk⟩
  · intro k hk
    show (if 53 = 53 ∧ k < 8 then M.2 58 k else _) = _
    exact if_pos ⟨rfl, hk⟩
theorem copyB_50_55 {σ : Sg} {β : Bn} {M : Mm} (g : GoodB σ β) (h : BC0 β 55 M) : ∃ M1, f_X0_copyOf_50_55 M = some M1 ∧ Fr (LBC 50) M M1 ∧ BC0 β 50 M1 := by
  obtain ⟨M1, e, hf, a0, a1, a2, a5, a7, ak, ap⟩ := copy_50_55 (M := M) h.2.1.1
  refine ⟨M1, e, hf, a0.trans h.1, ⟨by rw [a2]; exact h.2.1.1, fun q => ⟨a1.trans (h.2.1.2 q).1, a2.trans (h.2.1.2 q).2⟩⟩, a5.trans h.2.2.1, ?_, a7.trans h.2.2.2.2.1, ?_⟩
  · intro k hk
    have := g.2.2.1
    show AcC (M1.1 51 k) (M1.2 52 k) (bAc β k)
    rw [(ak k (by omega)).1, (ak k (by omega)).2]
    exact h.2.2.2.1 k hk
  · intro k hk
    have := g.2.2.2.2.1
    exact (ap k (by omega)).trans (h.2.2.2.2.2 k hk)
theorem copy_59_50 {M : Mm} (hB : isB (M.1 50 2) = true) : ∃ M1, f_X0_copyOf_59_50 M = some M1 ∧ Fr (LBC 59) M M1 ∧ M1.1 59 0 = M.1 50 0 ∧ M1.2 59 1 = M.2 50 1 ∧ M1.1 59 2 = M.1 50 2 ∧ M1.1 59 5 = M.1 50 5 ∧ M1.1 59 7 = M.1 50 7 ∧ (∀ k, k < 40 → M1.1 60 k = M.1 51 k ∧ M1.2 61 k = M.2 52 k) ∧ ∀ k, k < 8 → M1.2 62 k = M.2 53 k := by
  refine ⟨cpJ (cpJ (cpI (wI (wI (wI (wJ (wI M 59 0 (M.1 50 0)) 59 1 (M.2 50 1)) 59 2 (M.1 50 2)) 59 5 (M.1 50 5)) 59 7 (M.1 50 7)) 51 60 40) 52 61 40) 53 62 8, ?_, Fr.tr (Fr.wrI rfl) (Fr.tr (Fr.wrJ rfl) (Fr.tr (Fr.wrI rfl) (Fr.tr (Fr.wrI rfl) (Fr.tr (Fr.wrI rfl) (Fr.tr (Fr.cpI rfl) (Fr.tr (Fr.cpJ rfl) (Fr.cpJ rfl))))))), rfl, rfl, rfl, rfl, rfl, ?_, ?_⟩
  · unfold f_X0_copyOf_59_50 bb_X0_copyOf_59_50_0
    simp only [ltv_eq]
    show gd (isB (M.1 50 2)) _ = _
    rw [gd_of hB]
    rfl
  · intro k hk
    constructor
    · show (if 60 = 60 ∧ k < 40 then M.1 51 k else _) = _
      exact if_pos ⟨rfl, hk⟩
    · show (if 61 = 61 ∧ k < 40 then M.2 52 k else _) = _
      exact if_pos ⟨rfl, hk⟩
  · intro k hk
    show (if 62 = 62 ∧ k < 8 then M.2 53 k else _) = _
    exact if_pos ⟨rfl, hk⟩
theorem copyB_59_50 {σ : Sg} {β : Bn} {M : Mm} (g : GoodB σ β) (h : BC0 β 50 M) : ∃ M1, f_X0_copyOf_59_50 M = some M1 ∧ Fr (LBC 59) M M1 ∧ BC0 β 59 M1 := by
  obtain ⟨M1, e, hf, a0, a1, a2, a5, a7, ak, ap⟩ := copy_59_50 (M := M) h.2.1.1
  refine ⟨M1, e, hf, a0.trans h.1, ⟨by rw [a2]; exact h.2.1.1, fun q => ⟨a1.trans (h.2.1.2 q).1, a2.trans (h.2.1.2 q).2⟩⟩, a5.trans h.2.2.1, ?_, a7.trans h.2.2.2.2.1, ?_⟩
  · intro k hk
    have := g.2.2.1
    show AcC (M1.1 60 k) (M1.2 61 k) (bAc β k)
    rw [(ak k (by omega)).1, (ak k (by omega)).2]
    exact h.2.2.2.1 k hk
  · intro k hk
    have := g.2.2.2.2.1
    exact (ap k (by omega)).trans (h.2.2.2.2.2 k hk)
theorem copy_50_59 {M : Mm} (hB : isB (M.1 59 2) = true) : ∃ M1, f_X0_copyOf_50_59 M = some M1 ∧ Fr (LBC 50) M M1 ∧ M1.1 50 0 = M.1 59 0 ∧ M1.2 50 1 = M.2 59 1 ∧ M1.1 50 2 = M.1 59 2 ∧ M1.1 50 5 = M.1 59 5 ∧ M1.1 50 7 = M.1 59 7 ∧ (∀ k, k < 40 → M1.1 51 k = M.1 60 k ∧ M1.2 52 k = M.2 61 k) ∧ ∀ k, k < 8 → M1.2 53 k = M.2 62 k := by
  refine ⟨cpJ (cpJ (cpI (wI (wI (wI (wJ (wI M 50 0 (M.1 59 0)) 50 1 (M.2 59 1)) 50 2 (M.1 59 2)) 50 5 (M.1 59 5)) 50 7 (M.1 59 7)) 60 51 40) 61 52 40) 62 53 8, ?_, Fr.tr (Fr.wrI rfl) (Fr.tr (Fr.wrJ rfl) (Fr.tr (Fr.wrI rfl) (Fr.tr (Fr.wrI rfl) (Fr.tr (Fr.wrI rfl) (Fr.tr (Fr.cpI rfl) (Fr.tr (Fr.cpJ rfl) (Fr.cpJ rfl))))))), rfl, rfl, rfl, rfl, rfl, ?_, ?_⟩
  · unfold f_X0_copyOf_50_59 bb_X0_copyOf_50_59_0
    simp only [ltv_eq]
    show gd (isB (M.1 59 2)) _ = _
    rw [gd_of hB]
    rfl
  · intro k hk
    constructor
    · show (if 51 = 51 ∧ k < 40 then M.1 60 k else _) = _
      exact if_pos ⟨rfl, hk⟩
    · show (if 52 = 52 ∧ k < 40 then M.2 61 k else _) = _
      exact if_pos ⟨rfl, hk⟩
  · intro k hk
    show (if 53 = 53 ∧ k < 8 then M.2 62 k else _) = _
    exact if_pos ⟨rfl, hk⟩
theorem copyB_50_59 {σ : Sg} {β : Bn} {M : Mm} (g : GoodB σ β) (h : BC0 β 59 M) : ∃ M1, f_X0_copyOf_50_59 M = some M1 ∧ Fr (LBC 50) M M1 ∧ BC0 β 50 M1 := by
  obtain ⟨M1, e, hf, a0, a1, a2, a5, a7, ak, ap⟩ := copy_50_59 (M := M) h.2.1.1
  refine ⟨M1, e, hf, a0.trans h.1, ⟨by rw [a2]; exact h.2.1.1, fun q => ⟨a1.trans (h.2.1.2 q).1, a2.trans (h.2.1.2 q).2⟩⟩, a5.trans h.2.2.1, ?_, a7.trans h.2.2.2.2.1, ?_⟩
  · intro k hk
    have := g.2.2.1
    show AcC (M1.1 51 k) (M1.2 52 k) (bAc β k)
    rw [(ak k (by omega)).1, (ak k (by omega)).2]
    exact h.2.2.2.1 k hk
  · intro k hk
    have := g.2.2.2.2.1
    exact (ap k (by omega)).trans (h.2.2.2.2.2 k hk)
theorem copy_63_50 {M : Mm} (hB : isB (M.1 50 2) = true) : ∃ M1, f_X0_copyOf_63_50 M = some M1 ∧ Fr (LBC 63) M M1 ∧ M1.1 63 0 = M.1 50 0 ∧ M1.2 63 1 = M.2 50 1 ∧ M1.1 63 2 = M.1 50 2 ∧ M1.1 63 5 = M.1 50 5 ∧ M1.1 63 7 = M.1 50 7 ∧ (∀ k, k < 40 → M1.1 64 k = M.1 51 k ∧ M1.2 65 k = M.2 52 k) ∧ ∀ k, k < 8 → M1.2 66 k = M.2 53 k := by
  refine ⟨cpJ (cpJ (cpI (wI (wI (wI (wJ (wI M 63 0 (M.1 50 0)) 63 1 (M.2 50 1)) 63 2 (M.1 50 2)) 63 5 (M.1 50 5)) 63 7 (M.1 50 7)) 51 64 40) 52 65 40) 53 66 8, ?_, Fr.tr (Fr.wrI rfl) (Fr.tr (Fr.wrJ rfl) (Fr.tr (Fr.wrI rfl) (Fr.tr (Fr.wrI rfl) (Fr.tr (Fr.wrI rfl) (Fr.tr (Fr.cpI rfl) (Fr.tr (Fr.cpJ rfl) (Fr.cpJ rfl))))))), rfl, rfl, rfl, rfl, rfl, ?_, ?_⟩
  · unfold f_X0_copyOf_63_50 bb_X0_copyOf_63_50_0
    simp only [ltv_eq]
    show gd (isB (M.1 50 2)) _ = _
    rw [gd_of hB]
    rfl
  · intro k hk
    constructor
    · show (if 64 = 64 ∧ k < 40 then M.1 51 k else _) = _
      exact if_pos ⟨rfl, hk⟩
    · show (if 65 = 65 ∧ k < 40 then M.2 52 k else _) = _
      exact if_pos ⟨rfl, hk⟩
  · intro k hk
    show (if 66 = 66 ∧ k < 8 then M.2 53 k else _) = _
    exact if_pos ⟨rfl, hk⟩
theorem copyB_63_50 {σ : Sg} {β : Bn} {M : Mm} (g : GoodB σ β) (h : BC0 β 50 M) : ∃ M1, f_X0_copyOf_63_50 M = some M1 ∧ Fr (LBC 63) M M1 ∧ BC0 β 63 M1 := by
  obtain ⟨M1, e, hf, a0, a1, a2, a5, a7, ak, ap⟩ := copy_63_50 (M := M) h.2.1.1
  refine ⟨M1, e, hf, a0.trans h.1, ⟨by rw [a2]; exact h.2.1.1, fun q => ⟨a1.trans (h.2.1.2 q).1, a2.trans (h.2.1.2 q).2⟩⟩, a5.trans h.2.2.1, ?_, a7.trans h.2.2.2.2.1, ?_⟩
  · intro k hk
    have := g.2.2.1
    show AcC (M1.1 64 k) (M1.2 65 k) (bAc β k)
    rw [(ak k (by omega)).1, (ak k (by omega)).2]
    exact h.2.2.2.1 k hk
  · intro k hk
    have := g.2.2.2.2.1
    exact (ap k (by omega)).trans (h.2.2.2.2.2 k hk)
theorem copy_50_63 {M : Mm} (hB : isB (M.1 63 2) = true) : ∃ M1, f_X0_copyOf_50_63 M = some M1 ∧ Fr (LBC 50) M M1 ∧ M1.1 50 0 = M.1 63 0 ∧ M1.2 50 1 = M.2 63 1 ∧ M1.1 50 2 = M.1 63 2 ∧ M1.1 50 5 = M.1 63 5 ∧ M1.1 50 7 = M.1 63 7 ∧ (∀ k, k < 40 → M1.1 51 k = M.1 64 k ∧ M1.2 52 k = M.2 65 k) ∧ ∀ k, k < 8 → M1.2 53 k = M.2 66 k := by
  refine ⟨cpJ (cpJ (cpI (wI (wI (wI (wJ (wI M 50 0 (M.1 63 0)) 50 1 (M.2 63 1)) 50 2 (M.1 63 2)) 50 5 (M.1 63 5)) 50 7 (M.1 63 7)) 64 51 40) 65 52 40) 66 53 8, ?_, Fr.tr (Fr.wrI rfl) (Fr.tr (Fr.wrJ rfl) (Fr.tr (Fr.wrI rfl) (Fr.tr (Fr.wrI rfl) (Fr.tr (Fr.wrI rfl) (Fr.tr (Fr.cpI rfl) (Fr.tr (Fr.cpJ rfl) (Fr.cpJ rfl))))))), rfl, rfl, rfl, rfl, rfl, ?_, ?_⟩
  · unfold f_X0_copyOf_50_63 bb_X0_copyOf_50_63_0
    simp only [ltv_eq]
    show gd (isB (M.1 63 2)) _ = _
    rw [gd_of hB]
    rfl
  · intro k hk
    constructor
    · show (if 51 = 51 ∧ k < 40 then M.1 64 k else _) = _
      exact if_pos ⟨rfl, hk⟩
    · show (if 52 = 52 ∧ k < 40 then M.2 65 k else _) = _
      exact if_pos ⟨rfl, hk⟩
  · intro k hk
    show (if 53 = 53 ∧ k < 8 then M.2 66 k else _) = _
    exact if_pos ⟨rfl, hk⟩
theorem copyB_50_63 {σ : Sg} {β : Bn} {M : Mm} (g : GoodB σ β) (h : BC0 β 63 M) : ∃ M1, f_X0_copyOf_50_63 M = some M1 ∧ Fr (LBC 50) M M1 ∧ BC0 β 50 M1 := by
  obtain ⟨M1, e, hf, a0, a1, a2, a5, a7, ak, ap⟩ := copy_50_63 (M := M) h.2.1.1
  refine ⟨M1, e, hf, a0.trans h.1, ⟨by rw [a2]; exact h.2.1.1, fun q => ⟨a1.trans (h.2.1.2 q).1, a2.trans (h.2.1.2 q).2⟩⟩, a5.trans h.2.2.1, ?_, a7.trans h.2.2.2.2.1, ?_⟩
  · intro k hk
    have := g.2.2.1
    show AcC (M1.1 51 k) (M1.2 52 k) (bAc β k)
    rw [(ak k (by omega)).1, (ak k (by omega)).2]
    exact h.2.2.2.1 k hk
  · intro k hk
    have := g.2.2.2.2.1
    exact (ap k (by omega)).trans (h.2.2.2.2.2 k hk)
theorem KM_of {σ : Sg} {β : Bn} {M N : Mm} {r : Nat} (g : GoodB σ β) (h : BM0 β M) (h3 : ∀ j, j < 53 → N.2 r j = img M j) : KM0 β r N := by
  have e1 : N.2 r 1 = (M.1 67 23).toInt64 := h3 1 (by decide)
  have e0 : N.2 r 0 = M.2 67 22 := h3 0 (by decide)
  have e2 : N.2 r 2 = (M.1 67 24).toInt64 := h3 2 (by decide)
  have e3 : N.2 r 3 = (M.1 67 25).toInt64 := h3 3 (by decide)
  have e4 : N.2 r 4 = (M.1 67 26).toInt64 := h3 4 (by decide)
  refine ⟨by rw [e1, i32_64]; exact h.1, fun q => ⟨by rw [e0]; exact (h.2.1 q).1, by rw [e2, i32_64]; exact (h.2.1 q).2⟩, by rw [e3, i32_64]; exact h.2.2.1, ?_, by rw [e4, i32_64]; exact h.2.2.2.2.1, ?_⟩
  · intro k hk
    have := g.2.2.1
    rw [h3 (5 + k) (by omega), img_a M (by omega), i32_64]
    exact h.2.2.2.1 k hk
  · intro k hk
    have := g.2.2.2.2.1
    rw [h3 (45 + k) (by omega), img_p M k]
    exact h.2.2.2.2.2 k hk
theorem BM_of {σ : Sg} {β : Bn} {M N : Mm} {r : Nat} (g : GoodB σ β) (h : KM0 β r M) (hs : BK M r 53 N) : BM0 β N := by
  obtain ⟨_, _, e0, e1, e2, e3, e4, ea, ep⟩ := hs
  refine ⟨(e1 (by decide)).trans h.1, fun q => ⟨(e0 (by decide)).trans (h.2.1 q).1, (e2 (by decide)).trans (h.2.1 q).2⟩, (e3 (by decide)).trans h.2.2.1, ?_, (e4 (by decide)).trans h.2.2.2.2.1, ?_⟩
  · intro k hk
    have := g.2.2.1
    rw [ea k (by omega) (by omega)]
    exact h.2.2.2.1 k hk
  · intro k hk
    have := g.2.2.2.2.1
    exact (ep k (by omega)).trans (h.2.2.2.2.2 k hk)
/-- all but the images -/
def LRi : List (Nat × Nat) := LRC ++ LSM ++ LBC 50 ++ LBM ++ LTP
theorem Rl.imgs {σ : Sg} {β : Bn} {L : List (Nat × Nat)} {M M' : Mm} (h : Rl σ β M) (hf : Fr L M M') (hd : disjW L LRi = true) (hi : IM0 σ M') : Rel M' := by
  obtain ⟨h1, h2, h3, h4, h5, h6, h7, h8⟩ := h
  obtain ⟨hd, d7⟩ := disj_app hd
  obtain ⟨hd, d6⟩ := disj_app hd
  obtain ⟨hd, d5⟩ := disj_app hd
  obtain ⟨d3, d4⟩ := disj_app hd
  exact ⟨σ, β, h1, h2, h3.fr hf d3, h4.fr hf d4, h5.fr hf d5, h6.fr hf d6, h7.fr hf d7, hi⟩
def LRs : List (Nat × Nat) := LRC ++ LSM ++ LTP
theorem Rl.back {σ : Sg} {β β' : Bn} {L : List (Nat × Nat)} {M M' : Mm} (h : Rl σ β M) (hf : Fr L M M') (hd : disjW L LRs = true) (g : GoodB σ β') (b1 : BC0 β' 50 M') (b2 : BM0 β' M') (hi : IM0 σ M') : Rel M' := by
  obtain ⟨h1, h2, h3, h4, h5, h6, h7, h8⟩ := h
  obtain ⟨hd, d7⟩ := disj_app hd
  obtain ⟨d3, d4⟩ := disj_app hd
  exact ⟨σ, β', h1, g, h3.fr hf d3, h4.fr hf d4, b1, b2, h7.fr hf d7, hi⟩
theorem c_image_0 {σ : Sg} {β : Bn} {M : Mm} (hR : Rl σ β M) (i1 : M.1 0 10 = nI 0) (i2 : M.1 67 27 = nI 0) (i3 : 0 < 0 → ∃ β, GoodB σ β ∧ BC0 β 55 M ∧ KM0 β 96 M) (i4 : 1 < 0 → ∃ β, GoodB σ β ∧ BC0 β 59 M ∧ KM0 β 97 M) (i5 : 2 < 0 → ∃ β, GoodB σ β ∧ BC0 β 63 M ∧ KM0 β 98 M) : ∃ v M1 M2, f_X9_image_0 M = some (v, M1) ∧ f_X10_image_67 M1 = some (v, M2) ∧ Rel M2 := by
  obtain ⟨g, gB, hC, hM, hb, hm, hT, hI⟩ := id hR
  have b1 : BC0 β 50 M := hb
  obtain ⟨N, k1, k2, k3⟩ := copyB_55_50 gB b1
  have kc : N.1 0 10 = nI 0 := ((k2 0 10 rfl).1).trans i1
  have k27 : N.1 67 27 = nI 0 := ((k2 67 27 rfl).1).trans i2
  have fM : Fr [(55, 0), (55, 1), (55, 2), (55, 5), (55, 7), (56, 999), (57, 999), (58, 999), (0, 10), (67, 0), (96, 999), (67, 31), (67, 27)] M (wI (wI N 0 10 (nI 1)) 67 0 0) := Fr.tr (Fr.sub k2 (by decide)) (Fr.tr (Fr.wrI rfl) (Fr.wrI rfl))
  obtain ⟨N2, m1, hs⟩ := save_ok (M := wI (wI N 0 10 (nI 1)) 67 0 0) (r := 96) (by decide)
  have s27 : N2.1 67 27 = nI 0 := (hs.c1 (by decide) (by decide)).trans k27
  have f2 : Fr [(0, 10), (67, 0), (96, 999), (67, 31), (67, 27)] N (wI N2 67 27 (nI 1)) := Fr.tr (Fr.tr (Fr.wrI rfl) (Fr.wrI rfl)) (Fr.tr (Fr.sub hs.2.1 (by decide)) (Fr.wrI rfl))
  have fN : Fr [(55, 0), (55, 1), (55, 2), (55, 5), (55, 7), (56, 999), (57, 999), (58, 999), (0, 10), (67, 0), (96, 999), (67, 31), (67, 27)] M (wI N2 67 27 (nI 1)) := Fr.tr (Fr.sub k2 (by decide)) (Fr.sub f2 (by decide))
  refine ⟨nI 1, wI N 0 10 (nI 1), wI N2 67 27 (nI 1), ?_, ?_, ?_⟩
  · unfold f_X9_image_0 bb_X9_image_0_0
    rw [i1, k1, bd_some, ltv_eq, kc]
    rfl
  · unfold f_X10_image_67 bb_X10_image_67_0
    rw [ltv_eq, show (wI (wI N 0 10 (nI 1)) 67 0 0).1 67 27 = nI 0 from k27, show f_X10_movesAll_67_r (96 + ix (nI 0)) 0 (wI (wI N 0 10 (nI 1)) 67 0 0) = some N2 from m1, bd_some, ltv_eq, s27]
    rfl
  · refine hR.imgs fN (by decide) ⟨1, by decide, ?_, rfl, ?_, ?_, ?_⟩
    · show N2.1 0 10 = nI 1
      rw [hs.c1 (by decide) (by decide)]
      rfl
    · intro _
      refine ⟨β, gB, ?_, ?_⟩
      · exact BC.fr (β := β) (b := 55) (M := N) (M' := wI N2 67 27 (nI 1)) k3 f2 (by decide)
      · exact KM_of (N := wI N2 67 27 (nI 1)) gB (BM.fr (β := β) (M := M) (M' := wI (wI N 0 10 (nI 1)) 67 0 0) hm fM (by decide)) hs.2.2
    · intro q
      exact absurd q (by decide)
    · intro q
      exact absurd q (by decide)
theorem c_image_1 {σ : Sg} {β : Bn} {M : Mm} (hR : Rl σ β M) (i1 : M.1 0 10 = nI 1) (i2 : M.1 67 27 = nI 1) (i3 : 0 < 1 → ∃ β, GoodB σ β ∧ BC0 β 55 M ∧ KM0 β 96 M) (i4 : 1 < 1 → ∃ β, GoodB σ β ∧ BC0 β 59 M ∧ KM0 β 97 M) (i5 : 2 < 1 → ∃ β, GoodB σ β ∧ BC0 β 63 M ∧ KM0 β 98 M) : ∃ v M1 M2, f_X9_image_0 M = some (v, M1) ∧ f_X10_image_67 M1 = some (v, M2) ∧ Rel M2 := by
  obtain ⟨g, gB, hC, hM, hb, hm, hT, hI⟩ := id hR
  have b1 : BC0 β 50 M := hb
  obtain ⟨N, k1, k2, k3⟩ := copyB_59_50 gB b1
  have kc : N.1 0 10 = nI 1 := ((k2 0 10 rfl).1).trans i1
  have k27 : N.1 67 27 = nI 1 := ((k2 67 27 rfl).1).trans i2
  have fM : Fr [(59, 0), (59, 1), (59, 2), (59, 5), (59, 7), (60, 999), (61, 999), (62, 999), (0, 10), (67, 0), (97, 999), (67, 31), (67, 27)] M (wI (wI N 0 10 (nI 2)) 67 0 0) := Fr.tr (Fr.sub k2 (by decide)) (Fr.tr (Fr.wrI rfl) (Fr.wrI rfl))
  obtain ⟨N2, m1, hs⟩ := save_ok (M := wI (wI N 0 10 (nI 2)) 67 0 0) (r := 97) (by decide)
  have s27 : N2.1 67 27 = nI 1 := (hs.c1 (by decide) (by decide)).trans k27
  have f2 : Fr [(0, 10), (67, 0), (97, 999), (67, 31), (67, 27)] N (wI N2 67 27 (nI 2)) := Fr.tr (Fr.tr (Fr.wrI rfl) (Fr.wrI rfl)) (Fr.tr (Fr.sub hs.2.1 (by decide)) (Fr.wrI rfl))
  have fN : Fr [(59, 0), (59, 1), (59, 2), (59, 5), (59, 7), (60, 999), (61, 999), (62, 999), (0, 10), (67, 0), (97, 999), (67, 31), (67, 27)] M (wI N2 67 27 (nI 2)) := Fr.tr (Fr.sub k2 (by decide)) (Fr.sub f2 (by decide))
  refine ⟨nI 2, wI N 0 10 (nI 2), wI N2 67 27 (nI 2), ?_, ?_, ?_⟩
  · unfold f_X9_image_0 bb_X9_image_0_0
    rw [i1, k1, bd_some, ltv_eq, kc]
    rfl
  · unfold f_X10_image_67 bb_X10_image_67_0
    rw [ltv_eq, show (wI (wI N 0 10 (nI 2)) 67 0 0).1 67 27 = nI 1 from k27, show f_X10_movesAll_67_r (96 + ix (nI 1)) 0 (wI (wI N 0 10 (nI 2)) 67 0 0) = some N2 from m1, bd_some, ltv_eq, s27]
    rfl
  · refine hR.imgs fN (by decide) ⟨2, by decide, ?_, rfl, ?_, ?_, ?_⟩
    · show N2.1 0 10 = nI 2
      rw [hs.c1 (by decide) (by decide)]
      rfl
    · intro _
      obtain ⟨β', g', c1, c2⟩ := i3 (by decide)
      exact ⟨β', g', BC.fr (β := β') (b := 55) (M := M) (M' := wI N2 67 27 (nI 2)) c1 fN (by decide), KM.fr (β := β') (c := 96) (M := M) (M' := wI N2 67 27 (nI 2)) c2 fN (by decide)⟩
    · intro _
      refine ⟨β, gB, ?_, ?_⟩
      · exact BC.fr (β := β) (b := 59) (M := N) (M' := wI N2 67 27 (nI 2)) k3 f2 (by decide)
      · exact KM_of (N := wI N2 67 27 (nI 2)) gB (BM.fr (β := β) (M := M) (M' := wI (wI N 0 10 (nI 2)) 67 0 0) hm fM (by decide)) hs.2.2
    · intro q
      exact absurd q (by decide)
theorem c_image_2 {σ : Sg} {β : Bn} {M : Mm} (hR : Rl σ β M) (i1 : M.1 0 10 = nI 2) (i2 : M.1 67 27 = nI 2) (i3 : 0 < 2 → ∃ β, GoodB σ β ∧ BC0 β 55 M ∧ KM0 β 96 M) (i4 : 1 < 2 → ∃ β, GoodB σ β ∧ BC0 β 59 M ∧ KM0 β 97 M) (i5 : 2 < 2 → ∃ β, GoodB σ β ∧ BC0 β 63 M ∧ KM0 β 98 M) : ∃ v M1 M2, f_X9_image_0 M = some (v, M1) ∧ f_X10_image_67 M1 = some (v, M2) ∧ Rel M2 := by
  obtain ⟨g, gB, hC, hM, hb, hm, hT, hI⟩ := id hR
  have b1 : BC0 β 50 M := hb
  obtain ⟨N, k1, k2, k3⟩ := copyB_63_50 gB b1
  have kc : N.1 0 10 = nI 2 := ((k2 0 10 rfl).1).trans i1
  have k27 : N.1 67 27 = nI 2 := ((k2 67 27 rfl).1).trans i2
  have fM : Fr [(63, 0), (63, 1), (63, 2), (63, 5), (63, 7), (64, 999), (65, 999), (66, 999), (0, 10), (67, 0), (98, 999), (67, 31), (67, 27)] M (wI (wI N 0 10 (nI 3)) 67 0 0) := Fr.tr (Fr.sub k2 (by decide)) (Fr.tr (Fr.wrI rfl) (Fr.wrI rfl))
  obtain ⟨N2, m1, hs⟩ := save_ok (M := wI (wI N 0 10 (nI 3)) 67 0 0) (r := 98) (by decide)
  have s27 : N2.1 67 27 = nI 2 := (hs.c1 (by decide) (by decide)).trans k27
  have f2 : Fr [(0, 10), (67, 0), (98, 999), (67, 31), (67, 27)] N (wI N2 67 27 (nI 3)) := Fr.tr (Fr.tr (Fr.wrI rfl) (Fr.wrI rfl)) (Fr.tr (Fr.sub hs.2.1 (by decide)) (Fr.wrI rfl))
  have fN : Fr [(63, 0), (63, 1), (63, 2), (63, 5), (63, 7), (64, 999), (65, 999), (66, 999), (0, 10), (67, 0), (98, 999), (67, 31), (67, 27)] M (wI N2 67 27 (nI 3)) := Fr.tr (Fr.sub k2 (by decide)) (Fr.sub f2 (by decide))
  refine ⟨nI 3, wI N 0 10 (nI 3), wI N2 67 27 (nI 3), ?_, ?_, ?_⟩
  · unfold f_X9_image_0 bb_X9_image_0_0
    rw [i1, k1, bd_some, ltv_eq, kc]
    rfl
  · unfold f_X10_image_67 bb_X10_image_67_0
    rw [ltv_eq, show (wI (wI N 0 10 (nI 3)) 67 0 0).1 67 27 = nI 2 from k27, show f_X10_movesAll_67_r (96 + ix (nI 2)) 0 (wI (wI N 0 10 (nI 3)) 67 0 0) = some N2 from m1, bd_some, ltv_eq, s27]
    rfl
  · refine hR.imgs fN (by decide) ⟨3, by decide, ?_, rfl, ?_, ?_, ?_⟩
    · show N2.1 0 10 = nI 3
      rw [hs.c1 (by decide) (by decide)]
      rfl
    · intro _
      obtain ⟨β', g', c1, c2⟩ := i3 (by decide)
      exact ⟨β', g', BC.fr (β := β') (b := 55) (M := M) (M' := wI N2 67 27 (nI 3)) c1 fN (by decide), KM.fr (β := β') (c := 96) (M := M) (M' := wI N2 67 27 (nI 3)) c2 fN (by decide)⟩
    · intro _
      obtain ⟨β', g', c1, c2⟩ := i4 (by decide)
      exact ⟨β', g', BC.fr (β := β') (b := 59) (M := M) (M' := wI N2 67 27 (nI 3)) c1 fN (by decide), KM.fr (β := β') (c := 97) (M := M) (M' := wI N2 67 27 (nI 3)) c2 fN (by decide)⟩
    · intro _
      refine ⟨β, gB, ?_, ?_⟩
      · exact BC.fr (β := β) (b := 63) (M := N) (M' := wI N2 67 27 (nI 3)) k3 f2 (by decide)
      · exact KM_of (N := wI N2 67 27 (nI 3)) gB (BM.fr (β := β) (M := M) (M' := wI (wI N 0 10 (nI 3)) 67 0 0) hm fM (by decide)) hs.2.2
theorem c_image {M : Mm} (h : Rel M) : ∃ v M1 M2, f_X9_image_0 M = some (v, M1) ∧ f_X10_image_67 M1 = some (v, M2) ∧ Rel M2 := by
  obtain ⟨σ, β, hR⟩ := id h
  obtain ⟨n, hn, i1, i2, i3, i4, i5⟩ := (show IM0 σ M from hR.2.2.2.2.2.2.2)
  rcases n with _ | _ | _ | _ | n
  · exact c_image_0 hR i1 i2 i3 i4 i5
  · exact c_image_1 hR i1 i2 i3 i4 i5
  · exact c_image_2 hR i1 i2 i3 i4 i5
  · refine ⟨-1, M, wI M 67 0 0, ?_, ?_, h.fr (Fr.wrI (L := [(67, 0)]) rfl) d67⟩
    · unfold f_X9_image_0 bb_X9_image_0_0
      rw [i1]
      rfl
    · unfold f_X10_image_67 bb_X10_image_67_0
      rw [ltv_eq, show (wI M 67 0 0).1 67 27 = nI 3 from i2]
      rfl
  · omega
theorem c_restore_0 {σ : Sg} {β : Bn} {M : Mm} (hR : Rl σ β M) (i1 : M.1 0 10 = nI 1) (i2 : M.1 67 27 = nI 1) (i3 : 0 < 1 → ∃ β, GoodB σ β ∧ BC0 β 55 M ∧ KM0 β 96 M) (i4 : 1 < 1 → ∃ β, GoodB σ β ∧ BC0 β 59 M ∧ KM0 β 97 M) (i5 : 2 < 1 → ∃ β, GoodB σ β ∧ BC0 β 63 M ∧ KM0 β 98 M) : ∃ v M1 M2, f_X9_restore_0 M = some (v, M1) ∧ f_X10_restore_67 M1 = some (v, M2) ∧ Rel M2 := by
  obtain ⟨γ, gG, c1, c2⟩ := i3 (by decide)
  have f0 : Fr [(0, 10), (50, 0), (50, 1), (50, 2), (50, 5), (50, 7), (51, 999), (52, 999), (53, 999), (67, 0), (67, 27), (67, 22), (67, 23), (67, 24), (67, 25), (67, 26), (67, 31), (93, 999), (94, 999)] M (wI M 0 10 (nI 0)) := Fr.wrI rfl
  have c1' : BC0 γ 55 (wI M 0 10 (nI 0)) := BC.fr (β := γ) (b := 55) (M := M) (M' := wI M 0 10 (nI 0)) c1 f0 (by decide)
  obtain ⟨N, k1, k2, k3⟩ := copyB_50_55 gG c1'
  have fN0 : Fr [(0, 10), (50, 0), (50, 1), (50, 2), (50, 5), (50, 7), (51, 999), (52, 999), (53, 999), (67, 0), (67, 27), (67, 22), (67, 23), (67, 24), (67, 25), (67, 26), (67, 31), (93, 999), (94, 999)] M N := Fr.tr f0 (Fr.sub k2 (by decide))
  have kc : N.1 0 10 = nI 0 := (k2 0 10 rfl).1
  have k27 : N.1 67 27 = nI 1 := ((k2 67 27 rfl).1).trans i2
  have f1 : Fr [(0, 10), (50, 0), (50, 1), (50, 2), (50, 5), (50, 7), (51, 999), (52, 999), (53, 999), (67, 0), (67, 27), (67, 22), (67, 23), (67, 24), (67, 25), (67, 26), (67, 31), (93, 999), (94, 999)] N (wI (wI N 67 0 0) 67 27 (nI 0)) := Fr.tr (Fr.wrI rfl) (Fr.wrI rfl)
  obtain ⟨N2, m1, hs⟩ := back_ok (M := wI (wI N 67 0 0) 67 27 (nI 0)) (r := 96) (by decide)
  have s27 : N2.1 67 27 = nI 0 := (hs.2.1 67 27 rfl).1
  have f2 : Fr [(0, 10), (50, 0), (50, 1), (50, 2), (50, 5), (50, 7), (51, 999), (52, 999), (53, 999), (67, 0), (67, 27), (67, 22), (67, 23), (67, 24), (67, 25), (67, 26), (67, 31), (93, 999), (94, 999)] N N2 := Fr.tr f1 (Fr.sub hs.2.1 (by decide))
  have fN : Fr [(0, 10), (50, 0), (50, 1), (50, 2), (50, 5), (50, 7), (51, 999), (52, 999), (53, 999), (67, 0), (67, 27), (67, 22), (67, 23), (67, 24), (67, 25), (67, 26), (67, 31), (93, 999), (94, 999)] M N2 := Fr.tr fN0 f2
  have c2' : KM0 γ 96 (wI (wI N 67 0 0) 67 27 (nI 0)) := KM.fr (β := γ) (c := 96) (M := M) (M' := wI (wI N 67 0 0) 67 27 (nI 0)) c2 (Fr.tr fN0 f1) (by decide)
  refine ⟨nI 0, N, N2, ?_, ?_, ?_⟩
  · unfold f_X9_restore_0 bb_X9_restore_0_0
    rw [i1, ltv_eq, show wI M 0 10 (nI 1 - 1) = wI M 0 10 (nI 0) from rfl, k1, bd_some, kc]
    rfl
  · unfold f_X10_restore_67 bb_X10_restore_67_0
    rw [ltv_eq, ltv_eq, show (wI N 67 0 0).1 67 27 = nI 1 from k27, show f_X10_movesAll_67_r (96 + ix ((wI (wI N 67 0 0) 67 27 (nI 1 - 1)).1 67 27)) 1 (wI (wI N 67 0 0) 67 27 (nI 1 - 1)) = some N2 from m1, bd_some, s27]
    rfl
  · refine hR.back fN (by decide) gG ?_ (BM_of gG c2' hs) ⟨0, by decide, ?_, s27, ?_, ?_, ?_⟩
    · exact BC.fr (β := γ) (b := 50) (M := N) (M' := N2) (L := [(67, 0), (67, 27), (67, 22), (67, 23), (67, 24), (67, 25), (67, 26), (67, 31), (93, 999), (94, 999)]) k3 (Fr.tr (Fr.tr (Fr.wrI rfl) (Fr.wrI rfl)) (Fr.sub hs.2.1 (by decide))) (by decide)
    · exact ((hs.2.1 0 10 rfl).1).trans kc
    · intro q
      exact absurd q (by decide)
    · intro q
      exact absurd q (by decide)
    · intro q
      exact absurd q (by decide)
theorem c_restore_1 {σ : Sg} {β : Bn} {M : Mm} (hR : Rl σ β M) (i1 : M.1 0 10 = nI 2) (i2 : M.1 67 27 = nI 2) (i3 : 0 < 2 → ∃ β, GoodB σ β ∧ BC0 β 55 M ∧ KM0 β 96 M) (i4 : 1 < 2 → ∃ β, GoodB σ β ∧ BC0 β 59 M ∧ KM0 β 97 M) (i5 : 2 < 2 → ∃ β, GoodB σ β ∧ BC0 β 63 M ∧ KM0 β 98 M) : ∃ v M1 M2, f_X9_restore_0 M = some (v, M1) ∧ f_X10_restore_67 M1 = some (v, M2) ∧ Rel M2 := by
  obtain ⟨γ, gG, c1, c2⟩ := i4 (by decide)
  have f0 : Fr [(0, 10), (50, 0), (50, 1), (50, 2), (50, 5), (50, 7), (51, 999), (52, 999), (53, 999), (67, 0), (67, 27), (67, 22), (67, 23), (67, 24), (67, 25), (67, 26), (67, 31), (93, 999), (94, 999)] M (wI M 0 10 (nI 1)) := Fr.wrI rfl
  have c1' : BC0 γ 59 (wI M 0 10 (nI 1)) := BC.fr (β := γ) (b := 59) (M := M) (M' := wI M 0 10 (nI 1)) c1 f0 (by decide)
  obtain ⟨N, k1, k2, k3⟩ := copyB_50_59 gG c1'
  have fN0 : Fr [(0, 10), (50, 0), (50, 1), (50, 2), (50, 5), (50, 7), (51, 999), (52, 999), (53, 999), (67, 0), (67, 27), (67, 22), (67, 23), (67, 24), (67, 25), (67, 26), (67, 31), (93, 999), (94, 999)] M N := Fr.tr f0 (Fr.sub k2 (by decide))
  have kc : N.1 0 10 = nI 1 := (k2 0 10 rfl).1
  have k27 : N.1 67 27 = nI 2 := ((k2 67 27 rfl).1).trans i2
  have f1 : Fr [(0, 10), (50, 0), (50, 1), (50, 2), (50, 5), (50, 7), (51, 999), (52, 999), (53, 999), (67, 0), (67, 27), (67, 22), (67, 23), (67, 24), (67, 25), (67, 26), (67, 31), (93, 999), (94, 999)] N (wI (wI N 67 0 0) 67 27 (nI 1)) := Fr.tr (Fr.wrI rfl) (Fr.wrI rfl)
  obtain ⟨N2, m1, hs⟩ := back_ok (M := wI (wI N 67 0 0) 67 27 (nI 1)) (r := 97) (by decide)
  have s27 : N2.1 67 27 = nI 1 := (hs.2.1 67 27 rfl).1
  have f2 : Fr [(0, 10), (50, 0), (50, 1), (50, 2), (50, 5), (50, 7), (51, 999), (52, 999), (53, 999), (67, 0), (67, 27), (67, 22), (67, 23), (67, 24), (67, 25), (67, 26), (67, 31), (93, 999), (94, 999)] N N2 := Fr.tr f1 (Fr.sub hs.2.1 (by decide))
  have fN : Fr [(0, 10), (50, 0), (50, 1), (50, 2), (50, 5), (50, 7), (51, 999), (52, 999), (53, 999), (67, 0), (67, 27), (67, 22), (67, 23), (67, 24), (67, 25), (67, 26), (67, 31), (93, 999), (94, 999)] M N2 := Fr.tr fN0 f2
  have c2' : KM0 γ 97 (wI (wI N 67 0 0) 67 27 (nI 1)) := KM.fr (β := γ) (c := 97) (M := M) (M' := wI (wI N 67 0 0) 67 27 (nI 1)) c2 (Fr.tr fN0 f1) (by decide)
  refine ⟨nI 1, N, N2, ?_, ?_, ?_⟩
  · unfold f_X9_restore_0 bb_X9_restore_0_0
    rw [i1, ltv_eq, show wI M 0 10 (nI 2 - 1) = wI M 0 10 (nI 1) from rfl, k1, bd_some, kc]
    rfl
  · unfold f_X10_restore_67 bb_X10_restore_67_0
    rw [ltv_eq, ltv_eq, show (wI N 67 0 0).1 67 27 = nI 2 from k27, show f_X10_movesAll_67_r (96 + ix ((wI (wI N 67 0 0) 67 27 (nI 2 - 1)).1 67 27)) 1 (wI (wI N 67 0 0) 67 27 (nI 2 - 1)) = some N2 from m1, bd_some, s27]
    rfl
  · refine hR.back fN (by decide) gG ?_ (BM_of gG c2' hs) ⟨1, by decide, ?_, s27, ?_, ?_, ?_⟩
    · exact BC.fr (β := γ) (b := 50) (M := N) (M' := N2) (L := [(67, 0), (67, 27), (67, 22), (67, 23), (67, 24), (67, 25), (67, 26), (67, 31), (93, 999), (94, 999)]) k3 (Fr.tr (Fr.tr (Fr.wrI rfl) (Fr.wrI rfl)) (Fr.sub hs.2.1 (by decide))) (by decide)
    · exact ((hs.2.1 0 10 rfl).1).trans kc
    · intro _
      obtain ⟨β', g', c1, c2⟩ := i3 (by decide)
      exact ⟨β', g', BC.fr (β := β') (b := 55) (M := M) (M' := N2) c1 fN (by decide), KM.fr (β := β') (c := 96) (M := M) (M' := N2) c2 fN (by decide)⟩
    · intro q
      exact absurd q (by decide)
    · intro q
      exact absurd q (by decide)
theorem c_restore_2 {σ : Sg} {β : Bn} {M : Mm} (hR : Rl σ β M) (i1 : M.1 0 10 = nI 3) (i2 : M.1 67 27 = nI 3) (i3 : 0 < 3 → ∃ β, GoodB σ β ∧ BC0 β 55 M ∧ KM0 β 96 M) (i4 : 1 < 3 → ∃ β, GoodB σ β ∧ BC0 β 59 M ∧ KM0 β 97 M) (i5 : 2 < 3 → ∃ β, GoodB σ β ∧ BC0 β 63 M ∧ KM0 β 98 M) : ∃ v M1 M2, f_X9_restore_0 M = some (v, M1) ∧ f_X10_restore_67 M1 = some (v, M2) ∧ Rel M2 := by
  obtain ⟨γ, gG, c1, c2⟩ := i5 (by decide)
  have f0 : Fr [(0, 10), (50, 0), (50, 1), (50, 2), (50, 5), (50, 7), (51, 999), (52, 999), (53, 999), (67, 0), (67, 27), (67, 22), (67, 23), (67, 24), (67, 25), (67, 26), (67, 31), (93, 999), (94, 999)] M (wI M 0 10 (nI 2)) := Fr.wrI rfl
  have c1' : BC0 γ 63 (wI M 0 10 (nI 2)) := BC.fr (β := γ) (b := 63) (M := M) (M' := wI M 0 10 (nI 2)) c1 f0 (by decide)
  obtain ⟨N, k1, k2, k3⟩ := copyB_50_63 gG c1'
  have fN0 : Fr [(0, 10), (50, 0), (50, 1), (50, 2), (50, 5), (50, 7), (51, 999), (52, 999), (53, 999), (67, 0), (67, 27), (67, 22), (67, 23), (67, 24), (67, 25), (67, 26), (67, 31), (93, 999), (94, 999)] M N := Fr.tr f0 (Fr.sub k2 (by decide))
  have kc : N.1 0 10 = nI 2 := (k2 0 10 rfl).1
  have k27 : N.1 67 27 = nI 3 := ((k2 67 27 rfl).1).trans i2
  have f1 : Fr [(0, 10), (50, 0), (50, 1), (50, 2), (50, 5), (50, 7), (51, 999), (52, 999), (53, 999), (67, 0), (67, 27), (67, 22), (67, 23), (67, 24), (67, 25), (67, 26), (67, 31), (93, 999), (94, 999)] N (wI (wI N 67 0 0) 67 27 (nI 2)) := Fr.tr (Fr.wrI rfl) (Fr.wrI rfl)
  obtain ⟨N2, m1, hs⟩ := back_ok (M := wI (wI N 67 0 0) 67 27 (nI 2)) (r := 98) (by decide)
  have s27 : N2.1 67 27 = nI 2 := (hs.2.1 67 27 rfl).1
  have f2 : Fr [(0, 10), (50, 0), (50, 1), (50, 2), (50, 5), (50, 7), (51, 999), (52, 999), (53, 999), (67, 0), (67, 27), (67, 22), (67, 23), (67, 24), (67, 25), (67, 26), (67, 31), (93, 999), (94, 999)] N N2 := Fr.tr f1 (Fr.sub hs.2.1 (by decide))
  have fN : Fr [(0, 10), (50, 0), (50, 1), (50, 2), (50, 5), (50, 7), (51, 999), (52, 999), (53, 999), (67, 0), (67, 27), (67, 22), (67, 23), (67, 24), (67, 25), (67, 26), (67, 31), (93, 999), (94, 999)] M N2 := Fr.tr fN0 f2
  have c2' : KM0 γ 98 (wI (wI N 67 0 0) 67 27 (nI 2)) := KM.fr (β := γ) (c := 98) (M := M) (M' := wI (wI N 67 0 0) 67 27 (nI 2)) c2 (Fr.tr fN0 f1) (by decide)
  refine ⟨nI 2, N, N2, ?_, ?_, ?_⟩
  · unfold f_X9_restore_0 bb_X9_restore_0_0
    rw [i1, ltv_eq, show wI M 0 10 (nI 3 - 1) = wI M 0 10 (nI 2) from rfl, k1, bd_some, kc]
    rfl
  · unfold f_X10_restore_67 bb_X10_restore_67_0
    rw [ltv_eq, ltv_eq, show (wI N 67 0 0).1 67 27 = nI 3 from k27, show f_X10_movesAll_67_r (96 + ix ((wI (wI N 67 0 0) 67 27 (nI 3 - 1)).1 67 27)) 1 (wI (wI N 67 0 0) 67 27 (nI 3 - 1)) = some N2 from m1, bd_some, s27]
    rfl
  · refine hR.back fN (by decide) gG ?_ (BM_of gG c2' hs) ⟨2, by decide, ?_, s27, ?_, ?_, ?_⟩
    · exact BC.fr (β := γ) (b := 50) (M := N) (M' := N2) (L := [(67, 0), (67, 27), (67, 22), (67, 23), (67, 24), (67, 25), (67, 26), (67, 31), (93, 999), (94, 999)]) k3 (Fr.tr (Fr.tr (Fr.wrI rfl) (Fr.wrI rfl)) (Fr.sub hs.2.1 (by decide))) (by decide)
    · exact ((hs.2.1 0 10 rfl).1).trans kc
    · intro _
      obtain ⟨β', g', c1, c2⟩ := i3 (by decide)
      exact ⟨β', g', BC.fr (β := β') (b := 55) (M := M) (M' := N2) c1 fN (by decide), KM.fr (β := β') (c := 96) (M := M) (M' := N2) c2 fN (by decide)⟩
    · intro _
      obtain ⟨β', g', c1, c2⟩ := i4 (by decide)
      exact ⟨β', g', BC.fr (β := β') (b := 59) (M := M) (M' := N2) c1 fN (by decide), KM.fr (β := β') (c := 97) (M := M) (M' := N2) c2 fN (by decide)⟩
    · intro q
      exact absurd q (by decide)
theorem c_restore {M : Mm} (h : Rel M) : ∃ v M1 M2, f_X9_restore_0 M = some (v, M1) ∧ f_X10_restore_67 M1 = some (v, M2) ∧ Rel M2 := by
  obtain ⟨σ, β, hR⟩ := id h
  obtain ⟨n, hn, i1, i2, i3, i4, i5⟩ := (show IM0 σ M from hR.2.2.2.2.2.2.2)
  rcases n with _ | _ | _ | _ | n
  · refine ⟨-1, M, wI M 67 0 0, ?_, ?_, h.fr (Fr.wrI (L := [(67, 0)]) rfl) d67⟩
    · unfold f_X9_restore_0 bb_X9_restore_0_0
      rw [i1]
      rfl
    · unfold f_X10_restore_67 bb_X10_restore_67_0
      rw [ltv_eq, show (wI M 67 0 0).1 67 27 = nI 0 from i2]
      rfl
  · exact c_restore_0 hR i1 i2 i3 i4 i5
  · exact c_restore_1 hR i1 i2 i3 i4 i5
  · exact c_restore_2 hR i1 i2 i3 i4 i5
  · omega
