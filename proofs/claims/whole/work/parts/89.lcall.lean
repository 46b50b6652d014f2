-- ===== the model's least set =====
theorem popN_sub {T S : Nat} (h : ∀ l, T.testBit l = true → S.testBit l = true) : popN T ≤ popN S := bcn_mono (fun i _ hi => h i hi)
theorem popN_or {T k : Nat} (hk : k < 32) (h : T.testBit k = false) : popN (T ||| 2 ^ k) = popN T + 1 := by
  refine bcn_one (k := k) hk (fun i hi => ?_) ?_ h
  · rw [bit_or2, decide_eq_false (fun z => hi z.symm), Bool.or_false]
  · rw [bit_or2, decide_eq_true rfl, Bool.or_true]
theorem Gr.sub {S k W T : Nat} (h : Gr S k W T) : ∀ l, T.testBit l = true → S.testBit l = true := by
  intro l hl
  have h32 := bit_hi h.1 hl
  by_cases q : k ≤ l
  · rw [← (h.2.2.1 l q h32).1]
    exact hl
  · rw [(h.2.2.2 l (by omega)).1] at hl
    cases hl
theorem lines_m {ink : Int64} {N : Mm} {S : Nat} (hS : IsLns ink S) (hR : RcM ink N) : ∃ N', f_X10_linesFor_67 (Rch ink) N = some (nI S, N') ∧ Fr LFM N N' := by
  have p32 := popN_le S
  have h0t : ∀ l, Nat.testBit 0 l = true → Nat.testBit 0 l = false := fun l _ => Nat.zero_testBit l
  obtain ⟨v, N1, e1, f1, hv⟩ := fl_m (sq := Rch ink) (Hd := 0) (B := 0) (by decide) h0t hR.1
  have ev : v = nI (popN S) := by
    rcases hv with ⟨hF, _⟩ | ⟨n, rfl, _, hn⟩
    · exfalso
      exact hF (Adm.fea (Hd := 0) (S := S) ⟨hS.1, hS.2.1, fun l hl => (by rw [Nat.zero_testBit] at hl; cases hl), fun l _ => Nat.zero_testBit l⟩)
    · rw [Min_Lns hS hn]
  unfold f_X10_linesFor_67 bb_X10_linesFor_67_0
  rw [show f_X10_fewestLines_67 (Rch ink) 0 0 N = some (v, N1) from e1, bd2_some, ev]
  rw [show nI (popN S) = nI (popN S - popN 0) by rw [popN_0, Nat.sub_zero]]
  refine for_d (fun q k (a : Mm × Nat × Nat) => b_X10_linesFor_67_18 q (Rch ink) (nI (popN S - popN a.2.2)) (nI a.2.2) (nI a.2.1) (nI k - 1) a.1) (fun k a => k ≤ 32 ∧ Fr LFM N a.1 ∧ Gr S k a.2.1 a.2.2) (fun o => ∃ N', o = some (nI S, N') ∧ Fr LFM N N') ?_ ?_ 32 (N1, 0, 0) FU (by decide) ⟨Nat.le_refl _, f1, Gr.start S⟩
  · rintro q k ⟨a, W, T⟩ ⟨h32, f2, g2⟩
    have g2' : Gr S (k + 1) W T := g2
    have f2' : Fr LFM N a := f2
    have hTS := popN_sub g2'.sub
    have hR2 : ∀ s, s < 64 → a.1 100 s = mI (rwL ink s) ∧ a.1 101 s = mI (clL ink s) := fun s hs => by rw [(f2' 100 s rfl).1, (f2' 101 s rfl).1]; exact hR.1 s hs
    right
    obtain ⟨v3, M3, e3, f3, hv3⟩ := fl_m (sq := Rch ink) (Hd := T) (B := W ||| 2 ^ k) g2'.1 (fun l hl => by
      have h32 := bit_hi g2'.1 hl
      rw [bit_or2]
      by_cases qq : k + 1 ≤ l
      · rw [(g2'.2.2.1 l qq h32).2, ← (g2'.2.2.1 l qq h32).1, hl, decide_eq_false (show ¬ k = l by omega)]
        rfl
      · rw [(g2'.2.2.2 l (by omega)).1] at hl
        cases hl) hR2
    have f4 : Fr LFM N M3 := Fr.tr f2' f3
    show ∃ a', bb_X10_linesFor_67_18 (b_X10_linesFor_67_18 q) (Rch ink) (nI (popN S - popN T)) (nI T) (nI W) (nI (k + 1) - 1) a = _ ∧ _
    unfold bb_X10_linesFor_67_18
    rw [nI_pred, if_neg (nI_pos (by omega)), shI_c32 k (by omega), nI_or, e3, bd2_some]
    have take : S.testBit k = true → ∃ a', bb_X10_linesFor_67_63 (b_X10_linesFor_67_18 q) (Rch ink) (nI (popN S - popN T)) (nI T) (nI W) (nI k) M3 = (fun q k (a : Mm × Nat × Nat) => b_X10_linesFor_67_18 q (Rch ink) (nI (popN S - popN a.2.2)) (nI a.2.2) (nI a.2.1) (nI k - 1) a.1) q k a' ∧ k ≤ 32 ∧ Fr LFM N a'.1 ∧ Gr S k a'.2.1 a'.2.2 := by
      intro hs
      have g3 := g2'.take (by omega) hs
      have h3 := popN_sub g3.sub
      have hor := popN_or (T := T) (show k < 32 by omega) (g2'.2.2.2 k (by omega)).1
      refine ⟨(M3, W, T ||| 2 ^ k), ?_, by omega, f4, g3⟩
      unfold bb_X10_linesFor_67_63
      rw [ltv_eq, ltv_eq, ltv_eq, shI_c32 k (by omega), nI_or, nI_m1 k]
      show b_X10_linesFor_67_18 q (Rch ink) (nI (popN S - popN T) + -1) (nI (T ||| 2 ^ k)) (nI W) (nI k - 1) M3 = b_X10_linesFor_67_18 q (Rch ink) (nI (popN S - popN (T ||| 2 ^ k))) (nI (T ||| 2 ^ k)) (nI W) (nI k - 1) M3
      rw [nI_dec (by omega), hor, Nat.sub_sub]
    rcases hv3 with ⟨hF, rfl⟩ | ⟨n, rfl, n64, hn⟩
    · rw [if_pos rfl]
      exact take (gr_fea hS (by omega) g2' (fun l hl => hl) hF)
    · obtain ⟨t1, t2⟩ := gr_test hS (by omega) g2' (fun l hl => hl) hn
      rw [if_neg (m1_ne (by omega))]
      by_cases e : n + popN T = popN S
      · rw [if_pos (by congr 1; omega)]
        refine ⟨(M3, W ||| 2 ^ k, T), ?_, by omega, f4, g2'.out (by omega) (t1 e)⟩
        rw [ltv_eq, ltv_eq, nI_m1]
      · rw [if_neg (fun z => e (by have := (nI_eq (by omega) (by omega)).mp z; omega))]
        exact take (t2 e)
  · rintro q ⟨a, W, T⟩ ⟨_, f2, g2⟩
    have g2' : Gr S 0 W T := g2
    show ∃ N', bb_X10_linesFor_67_18 _ _ _ _ _ _ _ = _ ∧ _
    unfold bb_X10_linesFor_67_18
    rw [if_pos (by decide)]
    exact ⟨a, by rw [g2'.fin hS.1], f2⟩
theorem mask32 {S : Nat} (h : S < 2 ^ 32) : (nI S).toInt64 &&& 4294967295 = lN S := by
  have m : ∀ i, i < 64 → lb (4294967295 : Int64) i = decide (i < 32) := by decide +kernel
  apply lb_ext
  intro i hi
  rw [lb_and, m i hi, lb_lN hi]
  by_cases h32 : i < 32
  · have : lb (nI S).toInt64 i = S.testBit i := by
      show ((nI S).toInt64).toBitVec.getLsbD i = _
      rw [Int32.toBitVec_toInt64, BitVec.getLsbD_signExtend]
      simp only [hi, h32, decide_true, Bool.true_and, if_true]
      rw [nI_bit]
      simp [h32]
    rw [this, decide_eq_true h32, Bool.and_true]
  · rw [decide_eq_false h32, Bool.and_false, Nat.testBit_lt_two_pow (Nat.lt_of_lt_of_le h (Nat.pow_le_pow_right (by decide) (by omega)))]
theorem pop_lN {S : Nat} (h : S < 2 ^ 32) : pop (lN S) = popN S := by
  unfold pop popN
  rw [bcn_cong (g := S.testBit) (fun i hi => lb_lN hi)]
  exact bcn_hi (a := 32) (b := 32) (fun i h1 _ => Nat.testBit_lt_two_pow (Nat.lt_of_lt_of_le h (Nat.pow_le_pow_right (by decide) h1)))
def LMD : List (Nat × Nat) := LTM ++ LFM
-- ===== bites, lines =====
theorem c_bites {M : Mm} (x y : Int32) (h : Rel M) : AnsI (fw_L_bites_0_120 x y M) (f_X10_bites_67 x y) := by
  obtain ⟨σ, β, hR⟩ := id h
  obtain ⟨g, gB, hC, hM, hb, hm, hT, hI⟩ := id hR
  have s1 := hC.1.of
  have s2 := hM.of
  have hL10 := g.1
  have hL : sL σ < 2 ^ 31 := by omega
  rcases idx x (n := sL σ) hL with ⟨k, hk, rfl⟩ | ⟨ho, hi⟩
  · obtain ⟨n1, n2⟩ := needL_t s1.1 hk hL
    cases hy : inI y 0 1 with
    | false =>
      refine ans_t (c := 2) (w := 0) h (by decide) ?_ ?_
      · simp only [fw_L_bites_0_120, t_X9_bites_0, n2, n1, orx, bd_some, t_needR_f hy]
      · simp only [f_X10_bites_67, bb_X10_bites_67_0, ltv_eq, isL_t (M := wI M 67 0 0) s2.1 hk hL, bd_some, i10, if_false, bb_X10_bites_67_19, bad0 (M := wI M 67 0 0) rfl, bd2_some, if_true, f_inI, hy, bb_X10_bites_67_41, bad1 (M := wI M 67 0 0) (k := 2) rfl (by decide), Bool.false_eq_true]
    | true =>
      obtain ⟨M1, S, e1, hS, f1, c1⟩ := linesOf_c g hC.1 hC.2.1 hk
      have hR1 := hR.c1 f1 c1
      have p32 := popN_le S
      refine ans_g (L := LMD) (M1 := M1) (v := nI (popN S)) ⟨σ, β, hR1⟩ ?_ ?_ rfl rfl rfl
      · simp only [fw_L_bites_0_120, t_X9_bites_0, n2, n1, orx, bd_some, t_needR_t hy, f_L_bites_0_120, bb_L_bites_0_120_0, f_X9_bites_0, bb_X9_bites_0_0, f_needR hy, e1, bd2_some, f_bits, pop_lN hS.1, ltv_eq]
      · obtain ⟨hM', _⟩ := hR1.md (nI (popN S)).toInt64
        generalize hN : wI (wJ M1 120 0 (nI (popN S)).toInt64) 67 0 0 = N at hM' ⊢
        have N0 : N.1 67 0 = 0 := by rw [← hN]; rfl
        have q := hM'.of.2.2.2.1 k hk
        have q' : N.2 72 k = sInk σ k := q
        obtain ⟨N1, t1, ft, rc⟩ := takes_m (sInk σ k) N
        have q1 : N1.2 72 k = sInk σ k := ((ft 72 k rfl).2).trans q'
        obtain ⟨v, N2, e2, f2, hv⟩ := fl_m (sq := Rch (sInk σ k)) (Hd := 0) (B := 0) (by decide) (fun l _ => Nat.zero_testBit l) rc.1
        have ev : v = nI (popN S) := by
          rcases hv with ⟨hF, _⟩ | ⟨n, rfl, _, hn⟩
          · exfalso
            exact hF (Adm.fea (Hd := 0) (S := S) ⟨hS.1, hS.2.1, fun l hl => (by rw [Nat.zero_testBit] at hl; cases hl), fun l _ => Nat.zero_testBit l⟩)
          · rw [Min_Lns hS hn]
        refine ⟨N2, ?_, Fr.tr (Fr.sub ft (by decide)) (Fr.sub f2 (by decide))⟩
        simp only [f_X10_bites_67, bb_X10_bites_67_0, ltv_eq, hN, isL_t hM'.of.1 hk hL, bd_some, i10, if_false, bb_X10_bites_67_19, bad0 N0, bd2_some, if_true, f_inI, hy, bb_X10_bites_67_41, gd_of (inb_nI (n := 10) (show k < 10 by omega) (by decide)), ix_nI (show k < 2 ^ 31 by omega), q', t1, q1, g_reached, show f_X10_fewestLines_67 (Rch (sInk σ k)) 0 0 N1 = some (v, N2) from e2, ev]
  · refine ans_t (c := 1) (w := 0) h (by decide) ?_ ?_
    · simp only [fw_L_bites_0_120, t_X9_bites_0, needL_f s1.1 ho, orx]
    · simp only [f_X10_bites_67, bb_X10_bites_67_0, ltv_eq, isL_f (M := wI M 67 0 0) s2.1 hi, bd_some, if_true, bb_X10_bites_67_19, bad1 (M := wI M 67 0 0) (k := 1) rfl (by decide), bd2_some, i10, if_false]
theorem c_lines {M : Mm} (x : Int32) (h : Rel M) : AnsJ (fw_L_lines_0_120 x M) (f_X10_lines_67 x) := by
  obtain ⟨σ, β, hR⟩ := id h
  obtain ⟨g, gB, hC, hM, hb, hm, hT, hI⟩ := id hR
  have s1 := hC.1.of
  have s2 := hM.of
  have hL10 := g.1
  have hL : sL σ < 2 ^ 31 := by omega
  rcases idx x (n := sL σ) hL with ⟨k, hk, rfl⟩ | ⟨ho, hi⟩
  · obtain ⟨n1, n2⟩ := needL_t s1.1 hk hL
    obtain ⟨M1, S, e1, hS, f1, c1⟩ := linesOf_c g hC.1 hC.2.1 hk
    have hR1 := hR.c1 f1 c1
    refine ans_gJ (L := LMD) (M1 := M1) (v := lN S) ⟨σ, β, hR1⟩ ?_ ?_ rfl rfl rfl
    · simp only [fw_L_lines_0_120, t_X9_lines_0, n2, n1, orx, bd_some, f_L_lines_0_120, bb_L_lines_0_120_0, f_X9_lines_0, bb_X9_lines_0_0, e1, bd2_some, ltv_eq]
    · obtain ⟨hM', _⟩ := hR1.md (lN S)
      generalize hN : wI (wJ M1 120 0 (lN S)) 67 0 0 = N at hM' ⊢
      have N0 : N.1 67 0 = 0 := by rw [← hN]; rfl
      have q' : N.2 72 k = sInk σ k := hM'.of.2.2.2.1 k hk
      obtain ⟨N1, t1, ft, rc⟩ := takes_m (sInk σ k) N
      have q1 : N1.2 72 k = sInk σ k := ((ft 72 k rfl).2).trans q'
      obtain ⟨N2, e2, f2⟩ := lines_m hS rc
      refine ⟨N2, ?_, Fr.tr (Fr.sub ft (by decide)) (Fr.sub f2 (by decide))⟩
      simp only [f_X10_lines_67, bb_X10_lines_67_0, ltv_eq, hN, isL_t hM'.of.1 hk hL, bd_some, i10, if_false, bb_X10_lines_67_19, bad0 N0, bd2_some, if_true, gd_of (inb_nI (n := 10) (show k < 10 by omega) (by decide)), ix_nI (show k < 2 ^ 31 by omega), q', t1, q1, g_reached, e2, mask32 hS.1]
  · refine ans_tJ (c := 1) (w := 0) h (by decide) ?_ ?_
    · simp only [fw_L_lines_0_120, t_X9_lines_0, needL_f s1.1 ho, orx]
    · simp only [f_X10_lines_67, bb_X10_lines_67_0, ltv_eq, isL_f (M := wI M 67 0 0) s2.1 hi, bd_some, if_true, bb_X10_lines_67_19, bad1 (M := wI M 67 0 0) (k := 1) rfl (by decide), bd2_some, i10, if_false]
-- ===== left =====
theorem left_n {M : Mm} {σ : Sg} {β : Bn} {p : Nat} (g : Good σ) (hC : SC σ M) (hb : BC0 β 50 M) (hp : p < sL σ) (hpe : bP β = nI p) : f_X0_hollowsLeft_50_11 M = some (nI (bcn (lftH σ β p) (sH σ))) := by
  have h16 := g.2.2.2.2.1
  have s := hC.of
  refine for_q (fun q i (_ : Unit) => b_X0_hollowsLeft_50_11_4 q (nI (bcn (lftH σ β p) i)) (nI i) M) (sH σ) (fun _ _ => True) (fun o => o = some (nI (bcn (lftH σ β p) (sH σ)))) ?_ ?_ (sH σ) 0 () FU (Nat.zero_add _) (by show _ < 200000; omega) trivial
  · intro q i _ hi _
    right
    refine ⟨(), ?_, trivial⟩
    show bb_X0_hollowsLeft_50_11_4 _ _ _ _ = b_X0_hollowsLeft_50_11_4 q (nI (bcn (lftH σ β p) i + (if lftH σ β p i then 1 else 0))) (nI (i + 1)) M
    unfold bb_X0_hollowsLeft_50_11_4
    rw [s.2.2.1, if_neg (nI_ge hi (by omega)), isLeft_c g hC hb hp hpe hi, bd_some]
    cases lftH σ β p i with
    | false =>
      rw [if_pos (by decide), ltv_eq, nI_1]
      rfl
    | true =>
      rw [if_pos rfl, if_neg (by decide), ltv_eq, ltv_eq, nI_1, nI_1]
      rfl
  · intro q _ _
    show bb_X0_hollowsLeft_50_11_4 _ _ _ _ = _
    unfold bb_X0_hollowsLeft_50_11_4
    rw [s.2.2.1, if_pos (nI_le (Nat.le_refl _) (by omega))]
theorem sub_fea {ink sq : Int64} (h : ∀ i, i < 64 → lb sq i = true → lb (Rch ink) i = true) : Fea sq (rwL ink) (clL ink) 0 := by
  obtain ⟨S, hS⟩ := Lns_ex ink
  have := Adm.fea (sq := Rch ink) (Hd := 0) (B := 0) (S := S) ⟨hS.1, hS.2.1, fun l hl => (by rw [Nat.zero_testBit] at hl; cases hl), fun l _ => Nat.zero_testBit l⟩
  exact fun i hi hb => this i hi (h i hi hb)
theorem left_m {N : Mm} {σ : Sg} {β : Bn} {p n : Nat} (g : Good σ) (hM : SM σ N) (hb : BM0 β N) (hp : p < sL σ) (hpe : bP β = nI p) (hn : IsFew (sInk σ p) (Rch (sInk σ p) &&& bS β) n) : ∃ N', b_X10_left_67_18 FU 0 0 N = some (nI (bcn (lftH σ β p) (sH σ)) + nI n, N') ∧ Fr LMD N N' := by
  have hL := g.1
  have h16 := g.2.2.2.2.1
  have s := hM.of
  have e : bP β ≠ -1 := by rw [hpe]; exact m1_ne (by omega)
  have t22 : N.2 67 22 = bS β := (hb.2.1 e).1
  refine for_q (fun q i (_ : Unit) => b_X10_left_67_18 q (nI (bcn (lftH σ β p) i)) (nI i) N) (sH σ) (fun _ _ => True) (fun o => ∃ N', o = some (nI (bcn (lftH σ β p) (sH σ)) + nI n, N') ∧ Fr LMD N N') ?_ ?_ (sH σ) 0 () FU (Nat.zero_add _) (by show _ < 200000; omega) trivial
  · intro q i _ hi _
    right
    refine ⟨(), ?_, trivial⟩
    have ho := (g.2.2.2.2.2 i hi).1
    have i16 : inb (nI i) 16 = true := inb_nI (by omega) (by decide)
    show bb_X10_left_67_18 _ _ _ _ = b_X10_left_67_18 q (nI (bcn (lftH σ β p) i + (if lftH σ β p i then 1 else 0))) (nI (i + 1)) N
    unfold bb_X10_left_67_18
    rw [s.2.2.1, if_neg (nI_ge hi (by omega)), gd_of i16, ix_nI (by omega), (s.2.2.2.2.2.2 i hi).2, hb.1, hpe]
    unfold lftH
    by_cases q1 : sOwn σ i = p
    · rw [if_pos (by rw [q1]), gd_of i16, (s.2.2.2.2.2.2 i hi).1, t22, decide_eq_true q1]
      by_cases q2 : (sHol σ i &&& bS β) = 0
      · rw [if_pos q2, decide_eq_true q2, ltv_eq, ltv_eq, nI_1, Int32.add_zero]
        rfl
      · rw [if_neg q2, decide_eq_false q2, ltv_eq, ltv_eq, nI_1, nI_1]
        rfl
    · rw [if_neg (fun z => q1 ((nI_inj10 (by omega) (by omega)).mp z)), decide_eq_false q1, ltv_eq, ltv_eq, nI_1, Int32.add_zero]
      rfl
  · intro q _ _
    have q23 : N.1 67 23 = nI p := by rw [hb.1]; exact hpe
    have q72 : N.2 72 p = sInk σ p := s.2.2.2.1 p hp
    have p10 : inb (nI p) 10 = true := inb_nI (by omega) (by decide)
    obtain ⟨N1, t1, ft, rc⟩ := takes_m (sInk σ p) N
    have r23 : N1.1 67 23 = nI p := ((ft 67 23 rfl).1).trans q23
    have r72 : N1.2 72 p = sInk σ p := ((ft 72 p rfl).2).trans q72
    have r22 : N1.2 67 22 = bS β := ((ft 67 22 rfl).2).trans t22
    obtain ⟨v, N2, e2, f2, hv⟩ := fl_m (sq := Rch (sInk σ p) &&& bS β) (Hd := 0) (B := 0) (by decide) (fun l _ => Nat.zero_testBit l) rc.1
    have ev : v = nI n := by
      rcases hv with ⟨hF, _⟩ | ⟨m, rfl, _, hm⟩
      · exfalso
        apply hF
        apply sub_fea
        intro i _ hb
        rw [lb_and, Bool.and_eq_true] at hb
        exact hb.1
      · rw [hm.few.uniq hn]
    refine ⟨N2, ?_, Fr.tr (Fr.sub ft (by decide)) (Fr.sub f2 (by decide))⟩
    show bb_X10_left_67_18 _ _ _ _ = _
    unfold bb_X10_left_67_18
    rw [s.2.2.1, if_pos (nI_le (Nat.le_refl _) (by omega)), q23, gd_of p10, ix_nI (by omega), q72, t1, bd_some, r23, gd_of p10, ix_nI (by omega), r72, g_reached, bd_some, r22, show f_X10_fewestLines_67 (Rch (sInk σ p) &&& bS β) 0 0 N1 = some (v, N2) from e2, bd2_some, ev]
theorem c_left {M : Mm} (h : Rel M) : ∃ v M1 M2, f_X9_left_0 M = some (v, M1) ∧ f_X10_left_67 M1 = some (v, M2) ∧ Rel M2 := by
  obtain ⟨σ, β, hR⟩ := id h
  obtain ⟨g, gB, hC, hM, hb, hm, _⟩ := id hR
  have b1 : BC0 β 50 M := hb
  have hp := hasP g.1 hC.1.of.1 b1.1 gB.1
  have rl : Rl σ β (wI M 67 0 0) := hR.fr (Fr.wrI (L := [(67, 0)]) rfl) d67
  have b2 : BM0 β (wI M 67 0 0) := rl.2.2.2.2.2.1
  by_cases e : bP β = -1
  · refine ⟨-1, M, wI M 67 0 0, ?_, ?_, ⟨σ, β, rl⟩⟩
    · unfold f_X9_left_0 bb_X9_left_0_0
      rw [hp.1 e]
      rfl
    · unfold f_X10_left_67 bb_X10_left_67_0 f_X10_canBe_67 bb_X10_canBe_67_0
      rw [ltv_eq, b2.1, if_pos e]
      rfl
  · rcases gB.1 with q | ⟨p, hpL, hpe⟩
    · exact absurd q e
    · obtain ⟨v, v1, v2⟩ := can_c g hC.1 b1 hpL hpe
      rcases v2.b with rfl | rfl
      · obtain ⟨w, w1, w2⟩ := can_m g rl.2.2.2.1 b2 hpL hpe
        obtain rfl := IsCan.uniq v2 w2
        refine ⟨-1, M, wI M 67 0 0, ?_, ?_, ⟨σ, β, rl⟩⟩
        · unfold f_X9_left_0 bb_X9_left_0_0
          rw [hp.2 e, bd_some, if_neg (by decide), v1, bd_some, if_pos rfl]
        · unfold f_X10_left_67 bb_X10_left_67_0
          rw [ltv_eq, w1, bd_some, if_pos rfl]
      · have s1 := hC.1.of
        have hL := g.1
        have q50 : M.1 50 0 = nI p := b1.1.trans hpe
        have q12 : M.2 12 p = sInk σ p := s1.2.2.2.1 p hpL
        obtain ⟨M1, e1, f1, t1⟩ := lay_c (sInk σ p) M
        have hR1 : Rl σ β M1 := hR.fr f1 (by decide)
        have b11 : BC0 β 50 M1 := hR1.2.2.2.2.1
        have g1 : M1.2 50 1 = bS β ^^^ -1 := (b11.2.1.2 e).1
        obtain ⟨v3, M3, e3, f3, hv3⟩ := fw_c (sq := Rch (sInk σ p) &&& bS β) (W := 0) t1
        have hR3 : Rl σ β M3 := hR1.fr f3 (by decide)
        obtain ⟨n, rfl, n64, hn⟩ : ∃ n, v3 = nI n ∧ n ≤ 64 ∧ MinN (sInk σ p) (Rch (sInk σ p) &&& bS β) 0 0 n := by
          rcases hv3 with ⟨hF, _⟩ | hn
          · exfalso
            apply hF
            apply sub_fea
            intro i _ hb
            rw [lb_and, Bool.and_eq_true] at hb
            exact hb.1
          · exact hn
        have rl3 : Rl σ β (wI M3 67 0 0) := hR3.fr (Fr.wrI (L := [(67, 0)]) rfl) d67
        obtain ⟨w, w1, w2⟩ := can_m g rl3.2.2.2.1 (show BM0 β (wI M3 67 0 0) from rl3.2.2.2.2.2.1) hpL hpe
        obtain rfl := IsCan.uniq v2 w2
        obtain ⟨N', l1, l2⟩ := left_m g rl3.2.2.2.1 (show BM0 β (wI M3 67 0 0) from rl3.2.2.2.2.2.1) hpL hpe hn.few
        refine ⟨nI (bcn (lftH σ β p) (sH σ)) + nI n, M3, N', ?_, ?_, ⟨σ, β, rl3.fr l2 (by decide)⟩⟩
        · unfold f_X9_left_0 bb_X9_left_0_0 f_X3_fewest_19 bb_X3_fewest_19_0
          rw [hp.2 e, bd_some, if_neg (by decide), v1, bd_some, if_neg (by decide), q50, gd_of (inb_nI (by omega) (by decide)), ltv_eq, ix_nI (by omega), q12, e1, bd_some, left_n g hR1.2.2.1.1 b11 hpL hpe, bd_some, f_reached, bd_some, g1, xor_xor, show f_X3_fewestWithout_19 (Rch (sInk σ p) &&& bS β) 0 M1 = some (nI n, M3) from e3, bd2_some, bd2_some]
        · unfold f_X10_left_67 bb_X10_left_67_0
          rw [ltv_eq, w1, bd_some, if_neg (by decide), l1]
