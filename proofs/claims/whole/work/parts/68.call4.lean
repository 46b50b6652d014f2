-- ===== file, punch, addBlow, addFile, print =====
theorem fileq (a b c : Int32) : (∃ s l n, s < 4 ∧ l < 8 ∧ 1 ≤ n ∧ n ≤ 8 ∧ a = nI s ∧ b = nI l ∧ c = nI n ∧ f_X9_needFile a b c = some () ∧ t_X9_needFile a b c = none ∧ f_X10_isFile a b c = some 1) ∨ (t_X9_needFile a b c = some 2 ∧ f_X10_isFile a b c = some 0) := by
  have i1 : ∀ x y z : Int32, inI x y z = true → f_X10_in x y z = some 1 := fun x y z h => by rw [f_inI, h]; rfl
  have i0 : ∀ x y z : Int32, inI x y z = false → f_X10_in x y z = some 0 := fun x y z h => by rw [f_inI, h]; rfl
  cases h1 : inI a 0 3 with
  | false =>
    right
    unfold t_X9_needFile f_X10_isFile bb_X10_isFile_0
    rw [t_needR_f h1, i0 _ _ _ h1]
    exact ⟨rfl, rfl⟩
  | true =>
    cases h2 : inI b 0 7 with
    | false =>
      right
      unfold t_X9_needFile f_X10_isFile bb_X10_isFile_0
      rw [t_needR_t h1, f_needR h1, i1 _ _ _ h1, t_needR_f h2, bd_some, bd_some, if_neg (by decide), i0 _ _ _ h2]
      exact ⟨rfl, rfl⟩
    | true =>
      cases h3 : inI c 1 8 with
      | false =>
        right
        unfold t_X9_needFile f_X10_isFile bb_X10_isFile_0
        rw [t_needR_t h1, f_needR h1, i1 _ _ _ h1, t_needR_t h2, f_needR h2, bd_some, bd_some, bd_some, if_neg (by decide), i1 _ _ _ h2, bd_some, if_neg (by decide), t_needR_f h3, i0 _ _ _ h3]
        exact ⟨rfl, rfl⟩
      | true =>
        left
        obtain ⟨s, rfl, _, hs⟩ := inI_nI (b := 0) (c := 3) (by decide) h1 (by decide)
        obtain ⟨l, rfl, _, hl⟩ := inI_nI (b := 0) (c := 7) (by decide) h2 (by decide)
        obtain ⟨n, rfl, hn1, hn⟩ := inI_nI (b := 1) (c := 8) (by decide) h3 (by decide)
        refine ⟨s, l, n, by omega, by omega, hn1, hn, rfl, rfl, rfl, ?_, ?_, ?_⟩
        · unfold f_X9_needFile bb_X9_needFile_0
          rw [f_needR h1, f_needR h2, f_needR h3]
          rfl
        · unfold t_X9_needFile
          rw [t_needR_t h1, f_needR h1, t_needR_t h2, f_needR h2, t_needR_t h3]
          rfl
        · unfold f_X10_isFile bb_X10_isFile_0
          rw [i1 _ _ _ h1, i1 _ _ _ h2, i1 _ _ _ h3]
          rfl
theorem c_file {M : Mm} (x y z : Int32) (h : Rel M) : AnsI (fw_L_file_0_120 x y z M) (f_X10_file_67 x y z) := by
  obtain ⟨σ, β, hR⟩ := id h
  obtain ⟨g, gB, hC, hM, hb, hm, hT, hI⟩ := id hR
  have b1 : BC0 β 50 M := hb
  have b2 : BM0 β M := hm
  have s1 := hC.1.of
  rcases fileq x y z with ⟨s, l, n, hs, hl, hn1, hn, rfl, rfl, rfl, n1, n2, n3⟩ | ⟨n2, n3⟩
  · have hp := hasP g.1 s1.1 b1.1 gB.1
    have fw : ∀ v M', f_X9_file_0 (nI s) (nI l) (nI n) M = some (v, M') → fw_L_file_0_120 (nI s) (nI l) (nI n) M = some (0, wJ M' 120 0 v.toInt64) := by
      intro v M' e
      unfold fw_L_file_0_120 t_X9_file_0
      rw [n2]
      show f_L_file_0_120 (nI s) (nI l) (nI n) M = _
      unfold f_L_file_0_120 bb_L_file_0_120_0
      rw [e]
      rfl
    have md : ∀ N : Mm, f_X10_file_67 (nI s) (nI l) (nI n) N = (if ((wI N 67 0 0).1 67 23) = (-1 : Int32) then (some ((-1 : Int32), wI N 67 0 0)) else some (nI (pop ((wI N 67 0 0).2 67 22)) - nI (pop ((wI N 67 0 0).2 67 22 &&& (Fil s l n ^^^ -1))), wJ (wI N 67 0 0) 67 22 ((wI N 67 0 0).2 67 22 &&& (Fil s l n ^^^ -1)))) := by
      intro N
      unfold f_X10_file_67 bb_X10_file_67_0
      rw [ltv_eq, n3]
      show bb_X10_file_67_20 (nI s) (nI l) (nI n) 0 (wI N 67 0 0) = _
      unfold bb_X10_file_67_20
      rw [bad0 rfl, bd2_some, if_pos rfl, f_ones, bd_some, files_ok _ hs hl hn, bd_some, wJ_at, f_ones, bd_some]
    have cl : f_X9_file_0 (nI s) (nI l) (nI n) M = bd (f_X9_hasPunch_0 M) fun v_4 => if v_4 = 0 then (some ((-1 : Int32), M)) else some (nI (pop (M.2 50 1 ^^^ -1)) - nI (pop ((M.2 50 1 ^^^ -1) &&& (Fil s l n ^^^ -1))), wJ M 50 1 (((M.2 50 1 ^^^ -1) &&& (Fil s l n ^^^ -1)) ^^^ -1)) := by
      unfold f_X9_file_0 bb_X9_file_0_0
      rw [n1, bd_some, filed_ok hs hl hn1 hn, bd_some, take_ok, bd2_some]
    by_cases e : bP β = -1
    · refine ans_ok (v := -1) h (fw _ _ (by rw [cl, hp.1 e]; rfl)) ?_
      rw [md, if_pos (show (wI (wJ M 120 0 (-1 : Int32).toInt64) 67 0 0).1 67 23 = -1 from b2.1.trans e)]
    · obtain ⟨t1, t2⟩ := b1.2.1.2 e
      obtain ⟨t3, t4⟩ := b2.2.1 e
      have hst : M.2 50 1 ^^^ -1 = bS β := by rw [t1, xor_xor]
      rw [hst] at cl
      generalize hS : bS β &&& (Fil s l n ^^^ -1) = S at cl
      generalize hv : nI (pop (bS β)) - nI (pop S) = v at cl
      have c1 : f_X9_file_0 (nI s) (nI l) (nI n) M = some (v, wJ M 50 1 (S ^^^ -1)) := by
        rw [cl, hp.2 e, bd_some, if_neg (by decide)]
      generalize hN : wI (wJ (wJ M 50 1 (S ^^^ -1)) 120 0 v.toInt64) 67 0 0 = N
      have f1 : Fr [(50, 1), (120, 999), (67, 0)] M N := by
        rw [← hN]
        exact Fr.tr (Fr.wrJ rfl) (Fr.tr (Fr.wJa rfl) (Fr.wrI rfl))
      have N0 : N.1 67 0 = 0 := by rw [← hN]; rfl
      have N120 : N.2 120 0 = v.toInt64 := by rw [← hN]; rfl
      have N23 : N.1 67 23 = bP β := ((f1 67 23 rfl).1).trans b2.1
      have N22 : N.2 67 22 = bS β := ((f1 67 22 rfl).2).trans t3
      have N50 : N.2 50 1 = S ^^^ -1 := by rw [← hN]; rfl
      have m1 : f_X10_file_67 (nI s) (nI l) (nI n) (wJ (wJ M 50 1 (S ^^^ -1)) 120 0 v.toInt64) = some (v, wJ N 67 22 S) := by
        rw [md, hN, N23, if_neg e, N22, hS, hv]
      refine ⟨0, _, v, _, fw _ _ c1, m1, N0, fun _ => N120, ?_⟩
      have fN : Fr [(50, 1), (120, 999), (67, 0), (67, 22)] M (wJ N 67 22 S) := Fr.tr (Fr.sub f1 rfl) (Fr.wrJ rfl)
      refine hR.bench (β' := (bP β, S, bB β, bA β, bAc β, bN β, bPr β)) fN (by decide) ?_ ?_ ?_
      · exact gB
      · refine ⟨((fN 50 0 rfl).1).trans b1.1, ⟨by rw [(fN 50 2 rfl).1]; exact b1.2.1.1, fun _ => ⟨N50, ((fN 50 2 rfl).1).trans t2⟩⟩, ((fN 50 5 rfl).1).trans b1.2.2.1, ?_, ((fN 50 7 rfl).1).trans b1.2.2.2.2.1, ?_⟩
        · intro j hj
          rw [(fN 51 j rfl).1, (fN 52 j rfl).2]
          exact b1.2.2.2.1 j hj
        · intro j hj
          exact ((fN 53 j rfl).2).trans (b1.2.2.2.2.2 j hj)
      · refine ⟨((fN 67 23 rfl).1).trans b2.1, fun _ => ⟨rfl, ((fN 67 24 rfl).1).trans t4⟩, ((fN 67 25 rfl).1).trans b2.2.2.1, ?_, ((fN 67 26 rfl).1).trans b2.2.2.2.2.1, ?_⟩
        · intro j hj
          rw [(fN 93 j rfl).1]
          exact b2.2.2.2.1 j hj
        · intro j hj
          exact ((fN 94 j rfl).2).trans (b2.2.2.2.2.2 j hj)
  · refine ans_t (c := 1) (w := 0) h (by decide) ?_ ?_
    · unfold fw_L_file_0_120 t_X9_file_0
      rw [n2]
      rfl
    · unfold f_X10_file_67 bb_X10_file_67_0
      rw [ltv_eq, n3]
      show bb_X10_file_67_20 x y z 1 (wI M 67 0 0) = _
      unfold bb_X10_file_67_20
      rw [bad1 rfl (by decide)]
      rfl
-- acts
theorem addAct_ok (x : Int32) (y : Int64) (M : Mm) {A : Nat} (hA : A ≤ 40) (hM : M.1 50 5 = nI A) : f_X0_addAct_50 x y M = if A = 40 then some (-1, M) else some (nI (A + 1), wI (wJ (wI M 51 A x) 52 A y) 50 5 (nI (A + 1))) := by
  unfold f_X0_addAct_50 bb_X0_addAct_50_0
  rw [hM, if_neg (nI_pos (by omega))]
  by_cases e : A = 40
  · rw [if_pos e, if_neg]
    subst e
    decide
  · have e1 : (wI M 51 (ix (nI A)) x).1 50 5 = nI A := hM
    rw [if_neg e, if_pos (show nI A < (40 : Int32) from nI_lt (b := 40) (by omega) (by decide)), gd_of (inb_nI (by omega) (by decide)), ltv_eq, e1, gd_of (inb_nI (by omega) (by decide)), ltv_eq, ltv_eq, ix_nI (by omega)]
    have e2 : (wJ (wI M 51 A x) 52 A y).1 50 5 + 1 = nI (A + 1) := by
      rw [show (wJ (wI M 51 A x) 52 A y).1 50 5 = nI A from hM, nI_1]
    rw [e2]
    rfl
theorem adds_ok (x : Int32) (M : Mm) {A : Nat} (hA : A ≤ 40) (hM : M.1 67 25 = nI A) : f_X10_adds_67 x M = if A = 40 then some (-1, M) else some (nI (A + 1), wI (wI M 93 A x) 67 25 (nI (A + 1))) := by
  unfold f_X10_adds_67 bb_X10_adds_67_0
  rw [hM]
  by_cases e : A = 40
  · rw [if_pos e, if_pos]
    subst e
    rfl
  · rw [if_neg e, if_neg (show ¬ nI A = (40 : Int32) from fun q => e ((nI_eq (b := 40) (by omega) (by decide)).mp q)), gd_of (inb_nI (by omega) (by decide)), ltv_eq, ltv_eq, ix_nI (by omega)]
    have e2 : (wI M 93 A x).1 67 25 + 1 = nI (A + 1) := by
      rw [show (wI M 93 A x).1 67 25 = nI A from hM, nI_1]
    rw [e2]
    rfl
def upA (f : Nat → Ac) (A : Nat) (a : Ac) : Nat → Ac := fun k => if k = A then a else f k
/-- an act is added on both sides -/
theorem act_add {σ : Sg} {β : Bn} {M : Mm} {x w : Int32} {y : Int64} {a : Ac} (hR : Rl σ β M) (ha : AcOk σ a) (hc : AcC x y a) (hw : AcM w a) (hA : bA β ≠ 40) : Rel (wI (wI (wI (wJ (wI (wJ (wI M 51 (bA β) x) 52 (bA β) y) 50 5 (nI (bA β + 1))) 120 0 (nI (bA β + 1)).toInt64) 67 0 0) 93 (bA β) w) 67 25 (nI (bA β + 1))) := by
  obtain ⟨g, gB, hC, hM, hb, hm, hT, hI⟩ := id hR
  have b1 : BC0 β 50 M := hb
  have b2 : BM0 β M := hm
  have hA40 := gB.2.2.1
  refine hR.bench (β' := (bP β, bS β, bB β, bA β + 1, upA (bAc β) (bA β) a, bN β, bPr β)) (L := [(51, 999), (52, 999), (50, 5), (120, 999), (67, 0), (93, 999), (67, 25)]) (Fr.tr (Fr.wIa rfl) (Fr.tr (Fr.wJa rfl) (Fr.tr (Fr.wrI rfl) (Fr.tr (Fr.wJa rfl) (Fr.tr (Fr.wrI rfl) (Fr.tr (Fr.wIa rfl) (Fr.wrI rfl))))))) (by decide) ?_ ?_ ?_
  · refine ⟨gB.1, gB.2.1, by show bA β + 1 ≤ 40; omega, ?_, gB.2.2.2.2⟩
    intro k hk
    show AcOk σ (upA (bAc β) (bA β) a k)
    have hk' : k < bA β + 1 := hk
    unfold upA
    by_cases e : k = bA β
    · rw [if_pos e]
      exact ha
    · rw [if_neg e]
      exact gB.2.2.2.1 k (by omega)
  · refine ⟨b1.1, b1.2.1, rfl, ?_, b1.2.2.2.2⟩
    intro k hk
    have hk' : k < bA β + 1 := hk
    show AcC (if 51 = 51 ∧ k = bA β then x else M.1 51 k) (if 52 = 52 ∧ k = bA β then y else M.2 52 k) (upA (bAc β) (bA β) a k)
    unfold upA
    by_cases e : k = bA β
    · rw [if_pos ⟨rfl, e⟩, if_pos ⟨rfl, e⟩, if_pos e]
      exact hc
    · rw [if_neg (fun q => e q.2), if_neg (fun q => e q.2), if_neg e]
      exact b1.2.2.2.1 k (by omega)
  · refine ⟨b2.1, b2.2.1, rfl, ?_, b2.2.2.2.2⟩
    intro k hk
    have hk' : k < bA β + 1 := hk
    show AcM (if 93 = 93 ∧ k = bA β then w else M.1 93 k) (upA (bAc β) (bA β) a k)
    unfold upA
    by_cases e : k = bA β
    · rw [if_pos ⟨rfl, e⟩, if_pos e]
      exact hw
    · rw [if_neg (fun q => e q.2), if_neg e]
      exact b2.2.2.2.1 k (by omega)
