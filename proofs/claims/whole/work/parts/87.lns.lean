-- ===== the class's least set =====
theorem lN_inj {a b : Nat} (ha : a < 2 ^ 64) (hb : b < 2 ^ 64) : lN a = lN b ↔ a = b := by
  constructor
  · intro h
    have := congrArg (fun z => z.toBitVec.toNat) h
    simp only [wb_tn ha, wb_tn hb] at this
    exact this
  · intro h
    rw [h]
theorem lN_or (a b : Nat) : lN a ||| lN b = lN (a ||| b) := by
  apply lb_ext
  intro i hi
  rw [lb_or, lb_lN hi, lb_lN hi, lb_lN hi, Nat.testBit_or]
theorem shL_c {k : Nat} (hk : k < 64) : shL 1 (nI k) = lN (2 ^ k) := by
  apply lb_ext
  intro i hi
  rw [lb_one hk hi, lb_lN hi, Nat.testBit_two_pow]
  congr 1
  apply propext
  omega
theorem Min_Lns {ink : Int64} {S n : Nat} (hS : IsLns ink S) (hn : MinN ink (Rch ink) 0 0 n) : n = popN S := IsFew.uniq hn.few hS.few
/-- the test at a line, class and model alike -/
theorem gr_test {ink : Int64} {S k W T Hd n : Nat} (hL : IsLns ink S) (hk : k < 32) (h : Gr S (k + 1) W T) (hT : ∀ l, Hd.testBit l = true → T.testBit l = true) (hn : MinN ink (Rch ink) Hd (W ||| 2 ^ k) n) : (n + popN Hd = popN S → S.testBit k = false) ∧ (¬ n + popN Hd = popN S → S.testBit k = true) := by
  constructor
  · intro e
    obtain ⟨U, u1, u2⟩ := hn.1
    exact gr_no hL hk h u1 (by omega)
  · intro e
    refine gr_yes hL hk h hT ?_
    rintro ⟨U, u1, u2⟩
    have h1 := hn.2 U u1
    obtain ⟨V, v1, v2⟩ := hn.1
    have h2 := hL.2.2.1 V v1.1 v1.2.1
    omega
theorem gr_fea {ink : Int64} {S k W T Hd : Nat} (hL : IsLns ink S) (hk : k < 32) (h : Gr S (k + 1) W T) (hT : ∀ l, Hd.testBit l = true → T.testBit l = true) (hn : ¬ Fea (Rch ink) (rwL ink) (clL ink) (W ||| 2 ^ k)) : S.testBit k = true := by
  refine gr_yes hL hk h hT ?_
  rintro ⟨U, u1, _⟩
  exact hn u1.fea
theorem popN_m {S : Nat} : popN S ≤ 32 := popN_le S
theorem least_ok {ink : Int64} {M : Mm} {S : Nat} (hS : IsLns ink S) (hT : TkC ink M) : ∃ M', f_X3_leastSet_19 (Rch ink) M = some (lN S, M') ∧ Fr LFW M M' := by
  have h0t : ∀ T l, Nat.testBit 0 l = true → Nat.testBit T l = true := fun T l hl => by rw [Nat.zero_testBit] at hl; cases hl
  have p32 := popN_le S
  obtain ⟨v, M1, e1, f1, hv⟩ := fw_c (sq := Rch ink) (W := 0) hT
  have ev : v = nI (popN S) := by
    rcases hv with ⟨hF, _⟩ | ⟨n, rfl, _, hn⟩
    · exfalso
      exact hF (Adm.fea (Hd := 0) (S := S) ⟨hS.1, hS.2.1, h0t S, fun l _ => Nat.zero_testBit l⟩)
    · rw [Min_Lns hS hn]
  unfold f_X3_leastSet_19 bb_X3_leastSet_19_0 f_X3_fewest_19 bb_X3_fewest_19_0
  rw [show f_X3_fewestWithout_19 (Rch ink) 0 M = some (v, M1) from e1, bd2_some, bd2_some, ev]
  refine for_d (fun q k (a : Mm × Nat × Nat) => b_X3_leastSet_19_16 q (Rch ink) (nI (popN S)) (lN a.2.1) (lN a.2.2) (nI k - 1) a.1) (fun k a => k ≤ 32 ∧ Fr LFW M a.1 ∧ Gr S k a.2.1 a.2.2) (fun o => ∃ M', o = some (lN S, M') ∧ Fr LFW M M') ?_ ?_ 32 (M1, 0, 0) FU (by decide) ⟨Nat.le_refl _, f1, Gr.start S⟩
  · rintro q k ⟨a, W, T⟩ ⟨h32, f2, g2⟩
    have g2' : Gr S (k + 1) W T := g2
    have f2' : Fr LFW M a := f2
    have hT2 : TkC ink a := fun l hl => ((f2' 20 l rfl).2).trans (hT l hl)
    right
    have out : S.testBit k = false → ∀ a2, Fr LFW M a2 → ∃ a', bb_X3_leastSet_19_63 (b_X3_leastSet_19_16 q) (Rch ink) (nI (popN S)) (lN W) (lN T) (nI k) a2 = (fun q k (a : Mm × Nat × Nat) => b_X3_leastSet_19_16 q (Rch ink) (nI (popN S)) (lN a.2.1) (lN a.2.2) (nI k - 1) a.1) q k a' ∧ k ≤ 32 ∧ Fr LFW M a'.1 ∧ Gr S k a'.2.1 a'.2.2 := by
      intro hs a2 f3
      refine ⟨(a2, W ||| 2 ^ k, T), ?_, by omega, f3, g2'.out (by omega) hs⟩
      unfold bb_X3_leastSet_19_63
      rw [ltv_eq, ltv_eq, shL_c (by omega), lN_or, nI_m1]
    show ∃ a', bb_X3_leastSet_19_16 _ _ _ _ _ _ _ = _ ∧ _
    unfold bb_X3_leastSet_19_16
    rw [nI_pred, if_neg (nI_pos (by omega)), gd_of (inb_nI (by omega) (by decide)), ix_nI (by omega), hT2 k (by omega)]
    by_cases h0 : (Tk ink k &&& Rch ink) = 0
    · rw [if_pos h0]
      unfold bb_X3_leastSet_19_40
      rw [if_neg (by decide)]
      exact out (gr_idle hS (by omega) h0) a f2'
    · rw [if_neg h0]
      unfold bb_X3_leastSet_19_40
      obtain ⟨v3, M3, e3, f3, hv3⟩ := fw_c (sq := Rch ink) (W := W ||| 2 ^ k) hT2
      have f4 : Fr LFW M M3 := Fr.tr f2' f3
      rw [if_pos rfl, shL_c (by omega), lN_or, e3, bd2_some]
      have take : S.testBit k = true → ¬ v3 = nI (popN S) → ∃ a', (if v3 = nI (popN S) then bb_X3_leastSet_19_63 (b_X3_leastSet_19_16 q) (Rch ink) (nI (popN S)) (lN W) (lN T) (nI k) M3 else ltv (lN T ||| lN (2 ^ k)) fun x6_8 => ltv (nI k + (-1 : Int32)) fun x8_9 => b_X3_leastSet_19_16 q (Rch ink) (nI (popN S)) (lN W) x6_8 x8_9 M3) = (fun q k (a : Mm × Nat × Nat) => b_X3_leastSet_19_16 q (Rch ink) (nI (popN S)) (lN a.2.1) (lN a.2.2) (nI k - 1) a.1) q k a' ∧ k ≤ 32 ∧ Fr LFW M a'.1 ∧ Gr S k a'.2.1 a'.2.2 := by
        intro hs hne
        refine ⟨(M3, W, T ||| 2 ^ k), ?_, by omega, f4, g2'.take (by omega) hs⟩
        rw [if_neg hne, ltv_eq, ltv_eq, lN_or, nI_m1]
      rcases hv3 with ⟨hF, rfl⟩ | ⟨n, rfl, n64, hn⟩
      · refine take (gr_fea hS (by omega) g2' (h0t T) hF) ?_
        intro z
        have := (nI_eq (a := 1000) (by decide) (by omega)).mp z
        omega
      · obtain ⟨t1, t2⟩ := gr_test hS (by omega) g2' (h0t T) hn
        rw [popN_0, Nat.add_zero] at t1 t2
        by_cases e : n = popN S
        · rw [if_pos (by rw [e])]
          exact out (t1 e) M3 f4
        · exact take (t2 e) (fun z => e ((nI_eq (by omega) (by omega)).mp z))
  · rintro q ⟨a, W, T⟩ ⟨_, f2, g2⟩
    have g2' : Gr S 0 W T := g2
    show ∃ M', bb_X3_leastSet_19_16 _ _ _ _ _ _ _ = _ ∧ _
    unfold bb_X3_leastSet_19_16
    rw [if_pos (by decide)]
    exact ⟨a, by rw [g2'.fin hS.1], f2⟩
def LLO : List (Nat × Nat) := [(13, 999), (20, 999), (21, 999), (22, 999), (23, 999)]
theorem C1_set {σ : Sg} {M : Mm} {l S : Nat} (h : C10 σ M) (hS : IsLns (sInk σ l) S) : C10 σ (wJ M 13 l (lN S)) := by
  intro k hk
  by_cases e : k = l
  · subst e
    exact Or.inr ⟨S, hS, wJ_at⟩
  · have : (wJ M 13 l (lN S)).2 13 k = M.2 13 k := if_neg (fun z => e z.2)
    rw [this]
    exact h k hk
theorem lN_m1 {S : Nat} (h : S < 2 ^ 32) : ¬ lN S = -1 := by
  intro e
  have := congrArg (fun z => lb z 63) e
  simp only [lb_lN (show 63 < 64 by decide), lb_m1 63 (by decide)] at this
  rw [Nat.testBit_lt_two_pow (Nat.lt_of_lt_of_le h (by decide))] at this
  cases this
theorem linesOf_c {σ : Sg} {M : Mm} {k : Nat} (g : Good σ) (hC : SC σ M) (h1 : C1 σ M) (hk : k < sL σ) : ∃ M1 S, f_X9_linesOf_0 (nI k) M = some (lN S, M1) ∧ IsLns (sInk σ k) S ∧ Fr LLO M M1 ∧ C1 σ M1 := by
  have hL := g.1
  have s := hC.of
  have c1 : C10 σ M := h1
  unfold f_X9_linesOf_0 bb_X9_linesOf_0_0
  rw [if_neg (nI_pos (by omega)), s.1, if_pos (nI_lt hk (by omega)), gd_of (inb_nI (by omega) (by decide)), ltv_eq, ix_nI (by omega)]
  rcases c1 k hk with q | ⟨S, hS, q⟩
  · obtain ⟨S, hS⟩ := Lns_ex (sInk σ k)
    obtain ⟨M1, e1, f1, t1⟩ := lay_c (sInk σ k) M
    obtain ⟨M2, e2, f2⟩ := least_ok hS t1
    have f3 : Fr LLO M M2 := Fr.tr (Fr.sub f1 (by decide)) (Fr.sub f2 (by decide))
    have f3' : Fr [(20, 999), (21, 999), (22, 999), (23, 999)] M M2 := Fr.tr (Fr.sub f1 (by decide)) (Fr.sub f2 (by decide))
    refine ⟨wJ M2 13 k (lN S), S, ?_, hS, Fr.tr f3 (Fr.wJa rfl), C1_set (h1.fr f3' (by decide)) hS⟩
    rw [q, if_pos rfl, gd_of (inb_nI (by omega) (by decide)), ltv_eq, s.2.2.2.1 k hk, e1, bd_some, f_reached, bd_some, e2, bd2_some, gd_of (inb_nI (by omega) (by decide)), ltv_eq]
  · refine ⟨M, S, ?_, hS, Fr.refl, h1⟩
    rw [q, if_neg (lN_m1 hS.1)]
theorem Rl.c1 {σ : Sg} {β : Bn} {M M1 : Mm} (h : Rl σ β M) (hf : Fr LLO M M1) (h1 : C1 σ M1) : Rl σ β M1 := by
  obtain ⟨c1, c2, c3, c4, c5, c6⟩ := h.2.2.1
  exact h.cls hf (by decide) ⟨c1.fr hf (by decide), h1, c3.fr hf (by decide), c4.fr hf (by decide), c5.fr hf (by decide), c6.fr hf (by decide)⟩
-- ===== the model's lines =====
def LTM : List (Nat × Nat) := [(99, 999), (100, 999), (101, 999)]
/-- rows, columns and what they take -/
def RcM (ink : Int64) (N : Mm) : Prop := (∀ s, s < 64 → N.1 100 s = mI (rwL ink s) ∧ N.1 101 s = mI (clL ink s)) ∧ ∀ l, l < 32 → N.2 99 l = Tk ink l
def tkK (ink : Int64) (l k : Nat) : Int64 := ofB (fun i => decide (i < k) && tkB ink l i) 64
theorem tkK_s {ink : Int64} {l k : Nat} (hk : k < 64) : tkK ink l (k + 1) = if tkB ink l k then tkK ink l k ||| shL 1 (nI k) else tkK ink l k := by
  apply lb_ext
  intro i hi
  unfold tkK
  rw [lb_ofB _ hi]
  cases hb : tkB ink l k with
  | true =>
    rw [if_pos rfl, lb_set _ hk hi, lb_ofB _ hi]
    by_cases e : i = k
    · subst e
      rw [hb]
      simp
    · have : decide (i < k + 1) = decide (i < k) := by
        congr 1
        apply propext
        omega
      rw [this, decide_eq_false e, Bool.or_false]
  | false =>
    rw [if_neg (by decide), lb_ofB _ hi]
    by_cases e : i = k
    · subst e
      rw [hb, Bool.and_false, Bool.and_false]
    · have : decide (i < k + 1) = decide (i < k) := by
        congr 1
        apply propext
        omega
      rw [this]
theorem tkK_0 (ink : Int64) (l : Nat) : tkK ink l 0 = 0 := by
  apply lb_zero.mpr
  intro i hi
  unfold tkK
  rw [lb_ofB _ hi]
  simp
theorem tkK_64 (ink : Int64) (l : Nat) : tkK ink l 64 = Tk ink l := by
  apply lb_ext
  intro i hi
  unfold tkK
  rw [lb_ofB _ hi, lb_Tk _ _ hi, decide_eq_true hi, Bool.true_and]
theorem wJ_c {M : Mm} {c i c' i' : Nat} {v : Int64} (h : c' ≠ c) : (wJ M c i v).2 c' i' = M.2 c' i' := congrFun (wJ_ne h) i'
theorem wJ_i {M : Mm} {c i c' i' : Nat} {v : Int64} (h : i' ≠ i) : (wJ M c i v).2 c' i' = M.2 c' i' := if_neg (fun z => h z.2)
/-- one square's line is set -/
theorem takes_one {ink : Int64} {k l : Nat} {N a : Mm} (hk : k < 64) (hl : l < 32) (hf : Fr LTM N a) : ∀ T : Nat → Int64, (∀ j, j < 32 → a.2 99 j = T j) → Fr LTM N (wJ a 99 l (a.2 99 l ||| shL 1 (nI k))) ∧ ∀ j, j < 32 → (wJ a 99 l (a.2 99 l ||| shL 1 (nI k))).2 99 j = if j = l then T j ||| shL 1 (nI k) else T j := by
  intro T hT
  refine ⟨Fr.tr hf (Fr.wJa rfl), fun j hj => ?_⟩
  by_cases e : j = l
  · subst e
    rw [wJ_at, if_pos rfl, hT j hj]
  · rw [wJ_i e, if_neg e, hT j hj]
theorem mI_lt {x : Nat} (h : x < 32) : mI x = nI x := if_neg (by omega)
theorem takes_st {ink : Int64} {k : Nat} {N a : Mm} (k23 : Int64 → Int32 → Mm → Option Mm) (hk : k < 64) (hf : Fr LTM N a) (h1 : ∀ s, s < k → a.1 100 s = mI (rwL ink s) ∧ a.1 101 s = mI (clL ink s)) (h2 : ∀ j, j < 32 → a.2 99 j = tkK ink j k) : ∃ a', bb_X10_findTakes_67_123 k23 ink (nI k) (nI k) (mI (clL ink k)) (wI a 100 k (mI (rwL ink k))) = k23 ink (nI (k + 1)) a' ∧ Fr LTM N a' ∧ (∀ s, s < k + 1 → a'.1 100 s = mI (rwL ink s) ∧ a'.1 101 s = mI (clL ink s)) ∧ ∀ j, j < 32 → a'.2 99 j = tkK ink j (k + 1) := by
  have i64 : inb (nI k) 64 = true := inb_nI hk (by decide)
  unfold bb_X10_findTakes_67_123
  rw [gd_of i64, ltv_eq, gd_of i64, ix_nI (by omega)]
  generalize hb : wI (wI a 100 k (mI (rwL ink k))) 101 k (mI (clL ink k)) = b
  have fb : Fr LTM N b := by
    rw [← hb]
    exact Fr.tr hf (Fr.tr (Fr.wIa rfl) (Fr.wIa rfl))
  have b1 : ∀ s, s < k + 1 → b.1 100 s = mI (rwL ink s) ∧ b.1 101 s = mI (clL ink s) := by
    intro s hs
    rw [← hb]
    by_cases e : s = k
    · subst e
      refine ⟨?_, wI_at⟩
      rw [wI_c (by decide), wI_at]
    · rw [wI_i e, wI_i e, wI_i e, wI_i e]
      exact h1 s (by omega)
  have b2 : ∀ j, j < 32 → b.2 99 j = tkK ink j k := by
    intro j hj
    rw [← hb]
    exact h2 j hj
  clear hb h1 h2 hf
  -- the column's
  have col : ∀ (T : Nat → Int64) (d : Mm), Fr LTM N d → (∀ s, s < k + 1 → d.1 100 s = mI (rwL ink s) ∧ d.1 101 s = mI (clL ink s)) → (∀ j, j < 32 → d.2 99 j = T j) → (∀ j, j < 32 → (if j = clL ink k then T j ||| shL 1 (nI k) else T j) = tkK ink j (k + 1)) → ∃ a', bb_X10_findTakes_67_151 k23 ink (nI k) d = k23 ink (nI (k + 1)) a' ∧ Fr LTM N a' ∧ (∀ s, s < k + 1 → a'.1 100 s = mI (rwL ink s) ∧ a'.1 101 s = mI (clL ink s)) ∧ ∀ j, j < 32 → a'.2 99 j = tkK ink j (k + 1) := by
    intro T d fd d1 d2 d3
    unfold bb_X10_findTakes_67_151
    rw [gd_of i64, ix_nI (by omega), (d1 k (by omega)).2]
    rcases clL_or ink hk with z | z
    · rw [mI_lt z.2, if_neg (m1_ne (by omega)), gd_of i64, ltv_eq, gd_of (inb_nI z.2 (by decide)), gd_of (inb_nI z.2 (by decide)), ltv_eq, ltv_eq, nI_1, ix_nI (by omega)]
      obtain ⟨g1, g2⟩ := takes_one (ink := ink) hk z.2 fd T d2
      exact ⟨_, rfl, g1, d1, fun j hj => (g2 j hj).trans (d3 j hj)⟩
    · have e9 : mI (clL ink k) = -1 := if_pos z
      rw [e9, if_pos rfl, ltv_eq, nI_1]
      refine ⟨d, rfl, fd, d1, fun j hj => ?_⟩
      rw [d2 j hj, ← d3 j hj, if_neg (by omega)]
  rw [(b1 k (by omega)).1]
  rcases rwL_or ink hk with z | z
  · rw [mI_lt (by omega), if_neg (m1_ne (by omega)), gd_of i64, ltv_eq, gd_of (inb_nI (by omega) (by decide)), gd_of (inb_nI (by omega) (by decide)), ltv_eq, ix_nI (by omega)]
    obtain ⟨g1, g2⟩ := takes_one (ink := ink) hk (show rwL ink k < 32 by omega) fb _ b2
    refine col _ _ g1 b1 g2 (fun j hj => ?_)
    rw [tkK_s hk]
    unfold tkB
    by_cases e1 : j = rwL ink k
    · have e2 : ¬ j = clL ink k := by
        rcases clL_or ink hk with y | y <;> omega
      rw [if_neg e2, if_pos e1, decide_eq_true e1.symm]
      rfl
    · by_cases e2 : j = clL ink k
      · rw [if_pos e2, if_neg e1, decide_eq_true e2.symm, Bool.or_true]
        rfl
      · rw [if_neg e2, if_neg e1, decide_eq_false (fun q => e1 q.symm), decide_eq_false (fun q => e2 q.symm)]
        rfl
  · have e9 : mI (rwL ink k) = -1 := if_pos z
    rw [e9, if_pos rfl]
    refine col _ _ fb b1 b2 (fun j hj => ?_)
    rw [tkK_s hk]
    unfold tkB
    have e1 : ¬ rwL ink k = j := by omega
    by_cases e2 : j = clL ink k
    · rw [if_pos e2, decide_eq_true e2.symm, Bool.or_true]
      rfl
    · rw [if_neg e2, decide_eq_false e1, decide_eq_false (fun q => e2 q.symm)]
      rfl
theorem takes_m (ink : Int64) (N : Mm) : ∃ N', f_X10_findTakes_67 ink N = some N' ∧ Fr LTM N N' ∧ RcM ink N' := by
  have lp : ∀ b : Mm, Fr LTM N b → (∀ j, j < 32 → b.2 99 j = 0) → ∃ N', b_X10_findTakes_67_23 FU ink 0 b = some N' ∧ Fr LTM N N' ∧ RcM ink N' := by
    intro b fb hb
    refine for_q (fun q k (a : Mm) => b_X10_findTakes_67_23 q ink (nI k) a) 64 (fun k a => Fr LTM N a ∧ (∀ s, s < k → a.1 100 s = mI (rwL ink s) ∧ a.1 101 s = mI (clL ink s)) ∧ ∀ j, j < 32 → a.2 99 j = tkK ink j k) (fun o => ∃ N', o = some N' ∧ Fr LTM N N' ∧ RcM ink N') ?_ ?_ 64 0 b FU rfl (by decide) ⟨fb, fun s hs => absurd hs (Nat.not_lt_zero _), fun j hj => by rw [hb j hj, tkK_0]⟩
    · rintro q k a hk ⟨f1, h1, h2⟩
      right
      obtain ⟨a', e1, e2⟩ := takes_st (b_X10_findTakes_67_23 q) hk f1 h1 h2
      refine ⟨a', ?_, e2⟩
      rw [← e1]
      show bb_X10_findTakes_67_23 _ _ _ _ = _
      have o0 : f_X10_isOpen ink (nI k) (-1) 0 = some (if opn ink 0 k then 1 else 0) := isOpen_ok ink (d := 0) (by decide) hk
      have o1 : f_X10_isOpen ink (nI k) 1 0 = some (if opn ink 1 k then 1 else 0) := isOpen_ok ink (d := 1) (by decide) hk
      have o2 : f_X10_isOpen ink (nI k) 0 (-1) = some (if opn ink 2 k then 1 else 0) := isOpen_ok ink (d := 2) (by decide) hk
      have o3 : f_X10_isOpen ink (nI k) 0 1 = some (if opn ink 3 k then 1 else 0) := isOpen_ok ink (d := 3) (by decide) hk
      have em : rmI (nI k) 8 = nI (k % 8) := rmI_nI (by omega) (by decide) (by decide)
      have ed : nI k / 8 = nI (k / 8) := pk_div (by omega) (by decide) (by decide)
      have i64 : inb (nI k) 64 = true := inb_nI hk (by decide)
      have c80 : ∀ r : Int32, bb_X10_findTakes_67_80 (b_X10_findTakes_67_23 q) ink (nI k) (nI (k % 8)) (nI k) r a = bb_X10_findTakes_67_123 (b_X10_findTakes_67_23 q) ink (nI k) (nI k) (mI (clL ink k)) (wI a 100 k r) := by
        intro r
        unfold bb_X10_findTakes_67_80
        rw [gd_of i64, ltv_eq, o2, bd_some, o3, bd_some, ix_nI (by omega), show (24 : Int32) + nI (k % 8) = nI (24 + k % 8) from nI_add 24 _, show (16 : Int32) + nI (k % 8) = nI (16 + k % 8) from nI_add 16 _]
        unfold clL
        cases opn ink 2 k with
        | true =>
          rw [if_neg (by decide), if_pos rfl, mI_ne (by omega)]
        | false =>
          cases opn ink 3 k with
          | true =>
            rw [if_pos (by decide), if_neg (by decide), if_neg (by decide), if_pos rfl, mI_ne (by omega)]
          | false =>
            rw [if_pos (by decide), if_pos (by decide), if_neg (by decide), if_neg (by decide)]
            rfl
      unfold bb_X10_findTakes_67_23
      rw [if_neg (show ¬ (64 : Int32) ≤ nI k from nI_ge (b := 64) hk (by decide)), ltv_eq, ltv_eq, em, ed, o0, bd_some, o1, bd_some, c80, c80, c80, show (8 : Int32) + nI (k / 8) = nI (8 + k / 8) from nI_add 8 _]
      unfold rwL
      cases opn ink 0 k with
      | true =>
        rw [if_neg (by decide), if_pos rfl, mI_ne (x := k / 8) (by omega)]
      | false =>
        cases opn ink 1 k with
        | true =>
          rw [if_pos (by decide), if_neg (by decide), if_neg (by decide), if_pos rfl, mI_ne (x := 8 + k / 8) (by omega)]
        | false =>
          rw [if_pos (by decide), if_pos (by decide), if_neg (by decide), if_neg (by decide)]
          rfl
    · rintro q a ⟨f1, h1, h2⟩
      show ∃ N', bb_X10_findTakes_67_23 _ _ _ _ = _ ∧ _
      unfold bb_X10_findTakes_67_23
      rw [if_pos (by decide)]
      exact ⟨a, rfl, f1, h1, fun l hl => by rw [h2 l hl, tkK_64]⟩
  refine for_q (fun q k (a : Mm) => b_X10_findTakes_67_2 q ink (nI k) a) 32 (fun k a => Fr LTM N a ∧ ∀ j, j < k → a.2 99 j = 0) (fun o => ∃ N', o = some N' ∧ Fr LTM N N' ∧ RcM ink N') ?_ ?_ 32 0 N FU rfl (by decide) ⟨Fr.refl, fun s hs => absurd hs (Nat.not_lt_zero _)⟩
  · rintro q k a hk ⟨f1, h1⟩
    right
    refine ⟨wJ a 99 k 0, ?_, Fr.tr f1 (Fr.wJa rfl), fun j hj => ?_⟩
    · show bb_X10_findTakes_67_2 _ _ _ _ = _
      unfold bb_X10_findTakes_67_2
      rw [if_neg (show ¬ (32 : Int32) ≤ nI k from nI_ge (b := 32) hk (by decide)), gd_of (inb_nI hk (by decide)), ltv_eq, ltv_eq, nI_1, ix_nI (by omega)]
    · by_cases e : j = k
      · subst e
        exact wJ_at
      · rw [wJ_i e]
        exact h1 j (by omega)
  · rintro q a ⟨f1, h1⟩
    show ∃ N', bb_X10_findTakes_67_2 _ _ _ _ = _ ∧ _
    unfold bb_X10_findTakes_67_2
    rw [if_pos (by decide)]
    exact lp a f1 h1
