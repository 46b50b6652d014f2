-- ===== the class's search for a mate =====
def mI (x : Nat) : Int32 := if x = 99 then -1 else nI x
def RpM (M : Mm) (mt : Nat → Nat) : Prop := ∀ c, c < 16 → M.1 22 c = mI (mt c)
def RpZ (M : Mm) (Z : Nat → Bool) : Prop := ∀ c, c < 16 → M.1 23 c = if Z c then 1 else 0
def RpE (E : Nat → Nat → Bool) (M : Mm) : Prop := ∀ r, r < 16 → M.1 21 r = nI (mkB (E r) 16)
def LMT : List (Nat × Nat) := [(22, 999), (23, 999)]
theorem RpE.fr {E : Nat → Nat → Bool} {M a : Mm} (h : RpE E M) (hf : Fr LMT M a) : RpE E a := fun r hr => ((hf 21 r rfl).1).trans (h r hr)
theorem mkE_lt (P : Nat → Bool) : mkB P 16 < 2 ^ 31 := Nat.lt_of_lt_of_le (mkB_lt P 16) (by decide)
theorem bitE {E : Nat → Nat → Bool} {r c : Nat} (hc : c < 16) : (nI (mkB (E r) 16) &&& shI 1 (nI c) = 0) ↔ E r c = false := by
  rw [bitT (mkE_lt _) (by omega), mkB_bit, decide_eq_true hc, Bool.true_and]
theorem bcn_ins {Z : Nat → Bool} {c : Nat} (hc : c < 16) (hz : Z c = false) : bcn (insB Z c) 16 = bcn Z 16 + 1 := bcn_one (k := c) hc (fun i hi => by unfold insB; rw [decide_eq_false hi]; rfl) (insB_self _ _) hz
theorem mI_ne {x : Nat} (h : x ≠ 99) : mI x = nI x := if_neg h
def MaR (E : Nat → Nat → Bool) (r x : Nat) (mt : Nat → Nat) (Z : Nat → Bool) (M : Mm) (o : Option (Int32 × Mm)) : Prop := ∃ v M', o = some (v, M') ∧ Fr LMT M M' ∧ ((v = 0 ∧ RpM M' mt ∧ ∃ Z', RpZ M' Z' ∧ DfF E r mt Z Z') ∨ (v = 1 ∧ ∃ mt', RpM M' mt' ∧ DfS E r x mt Z mt'))
theorem mate_ok {E : Nat → Nat → Bool} : ∀ (D r x : Nat) (mt : Nat → Nat) (Z : Nat → Bool) (M : Mm) (dep : Nat), RpM M mt → RpZ M Z → RpE E M → DfP E r x mt Z → 16 < D + bcn Z 16 → dep ≤ bcn Z 16 → MaR E r x mt Z M (fr_X3_findsMate_21_22_23 D (nI r) (nI dep) M) := by
  intro D
  induction D with
  | zero =>
    intro r x mt Z M dep _ _ _ _ h _
    have := bcn_le Z 16
    omega
  | succ D ih =>
    intro r x mt Z M dep hM hZ hE hP hD hdep
    have hb := bcn_le Z 16
    have hr := hP.1
    show MaR E r x mt Z M (bb_X3_findsMate_21_22_23_0 (fr_X3_findsMate_21_22_23 D) (nI r) (nI dep) M)
    unfold bb_X3_findsMate_21_22_23_0
    rw [if_neg (show ¬ (16 : Int32) < nI dep from nI_nlt (a := 16) (by omega) (by decide)), if_neg (nI_pos (by omega)), if_pos (show nI r < (16 : Int32) from nI_lt (b := 16) hr (by decide))]
    refine for_q (fun q c (a : Mm) => b_X3_findsMate_21_22_23_22 (fr_X3_findsMate_21_22_23 D) q (nI r) (nI dep) (nI c) a) 16 (fun c a => Fr LMT M a ∧ RpM a mt ∧ ∃ Zc, RpZ a Zc ∧ DfL E mt Z Zc ∧ ∀ c', c' < c → E r c' = true → Zc c' = true) (MaR E r x mt Z M) ?_ ?_ 16 0 M FU rfl (by decide) ⟨Fr.refl, hM, Z, hZ, ⟨fun c _ h => h, fun c _ h1 h2 => by rw [h1] at h2; cases h2⟩, fun c' hc' => absurd hc' (Nat.not_lt_zero _)⟩
    · rintro q c a hc ⟨f1, m1, Zc, z1, l1, n1⟩
      have e21 := (hE.fr f1) r hr
      show MaR E r x mt Z M (bb_X3_findsMate_21_22_23_22 _ _ _ _ _ _) ∨ ∃ a', bb_X3_findsMate_21_22_23_22 _ _ _ _ _ _ = _ ∧ _
      unfold bb_X3_findsMate_21_22_23_22
      have nx : ∀ Z3 : Nat → Bool, (∀ d, d < 16 → Zc d = true → Z3 d = true) → (E r c = true → Z3 c = true) → ∀ c', c' < c + 1 → E r c' = true → Z3 c' = true := by
        intro Z3 h1 h2 c' hc' he
        by_cases e : c' = c
        · rw [e] at he ⊢
          exact h2 he
        · exact h1 c' (by omega) (n1 c' (by omega) he)
      rw [if_neg (show ¬ (16 : Int32) ≤ nI c from nI_ge (b := 16) hc (by decide)), gd_of (inb_nI hr (by decide)), ix_nI (show r < 2 ^ 31 by omega), e21]
      cases he : E r c with
      | false =>
        right
        refine ⟨a, ?_, f1, m1, Zc, z1, l1, nx Zc (fun _ _ h => h) (fun z => by rw [he] at z; cases z)⟩
        rw [if_pos ((bitE hc).mpr he), ltv_eq, nI_1]
      | true =>
        rw [if_neg (fun z => by rw [(bitE hc).mp z] at he; cases he), gd_of (inb_nI hc (by decide)), ix_nI (show c < 2 ^ 31 by omega), z1 c hc]
        cases hz : Zc c with
        | true =>
          right
          refine ⟨a, ?_, f1, m1, Zc, z1, l1, nx Zc (fun _ _ h => h) (fun _ => hz)⟩
          rw [if_neg (by decide), ltv_eq, nI_1]
        | false =>
          rw [if_pos (by decide), gd_of (inb_nI hc (by decide)), ltv_eq]
          -- the column is marked
          have f2 : Fr LMT M (wI a 23 c 1) := Fr.tr f1 (Fr.wIa rfl)
          have m2 : RpM (wI a 23 c 1) mt := m1
          have z2 : RpZ (wI a 23 c 1) (insB Zc c) := by
            intro d hd
            unfold insB
            by_cases e : d = c
            · subst e
              rw [wI_at, decide_eq_true rfl]
              rfl
            · rw [wI_i e, z1 d hd, decide_eq_false e]
              rfl
          have g22 : (wI a 23 c 1).1 22 c = mI (mt c) := m1 c hc
          rw [gd_of (inb_nI hc (by decide)), g22]
          by_cases h9 : mt c = 99
          · left
            have e9 : mI (mt c) = -1 := if_pos h9
            rw [e9, if_pos rfl, gd_of (inb_nI hc (by decide)), ltv_eq]
            refine ⟨1, _, rfl, Fr.tr f2 (Fr.wIa rfl), Or.inr ⟨rfl, updN mt c r, fun d hd => ?_, df_free hP l1 hc he hz h9⟩⟩
            by_cases e : d = c
            · subst e
              rw [wI_at, updN_k, mI_ne (by omega)]
            · rw [wI_i e, updN_o e]
              exact m2 d hd
          · have h16 := (hP.2.1 c hc h9).1
            have hbz : bcn Z 16 ≤ bcn Zc 16 := bcn_mono (fun i hi h => l1.1 i hi h)
            obtain ⟨v, M', ev, f3, hv⟩ := ih (mt c) c mt (insB Zc c) (wI a 23 c 1) (dep + 1) m2 z2 (hE.fr f2) (df_pre hP hc h9) (by rw [bcn_ins hc hz]; omega) (by rw [bcn_ins hc hz]; omega)
            rw [mI_ne h9, if_neg (m1_ne (by omega)), gd_of (inb_nI hc (by decide)), nI_1, ev, bd2_some]
            rcases hv with ⟨rfl, m3, Z3, z3, hF⟩ | ⟨rfl, mt', m3, hS⟩
            · right
              obtain ⟨l3, l4, l5⟩ := df_rf l1 hc h9 hF
              refine ⟨M', ?_, Fr.tr f2 f3, m3, Z3, z3, l3, nx Z3 l5 (fun _ => l4)⟩
              rw [if_pos rfl, ltv_eq, nI_1]
            · left
              rw [if_neg (by decide), gd_of (inb_nI hc (by decide)), ltv_eq]
              refine ⟨1, _, rfl, Fr.tr f2 (Fr.tr f3 (Fr.wIa rfl)), Or.inr ⟨rfl, updN mt' c r, fun d hd => ?_, df_rs hP l1 hc he hz h9 hS⟩⟩
              by_cases e : d = c
              · subst e
                rw [wI_at, updN_k, mI_ne (by omega)]
              · rw [wI_i e, updN_o e]
                exact m3 d hd
    · rintro q a ⟨f1, m1, Zc, z1, l1, n1⟩
      show MaR E r x mt Z M (bb_X3_findsMate_21_22_23_22 _ _ _ _ _ _)
      unfold bb_X3_findsMate_21_22_23_22
      rw [if_pos (by decide)]
      exact ⟨0, a, rfl, f1, Or.inl ⟨rfl, m1, Zc, z1, l1.1, n1, l1.2⟩⟩
theorem fill22 (v : Int32) (M : Mm) : ∃ M', f_J7_fill_53178_22 v M = some M' ∧ Fr [(22, 999)] M M' ∧ ∀ c, c < 16 → M'.1 22 c = v := by
  refine for_q (fun q i (a : Mm) => b_J7_fill_53178_22_5 q v (nI i) 16 a) 16 (fun i a => Fr [(22, 999)] M a ∧ ∀ c, c < i → a.1 22 c = v) (fun o => ∃ M', o = some M' ∧ Fr [(22, 999)] M M' ∧ ∀ c, c < 16 → M'.1 22 c = v) ?_ ?_ 16 0 M FU rfl (by decide) ⟨Fr.refl, fun c hc => absurd hc (Nat.not_lt_zero _)⟩
  · rintro q i a hi ⟨f1, h1⟩
    right
    refine ⟨wI a 22 i v, ?_, Fr.tr f1 (Fr.wIa rfl), fun c hc => ?_⟩
    · show bb_J7_fill_53178_22_5 _ _ _ _ _ = _
      unfold bb_J7_fill_53178_22_5
      rw [if_neg (show ¬ (16 : Int32) ≤ nI i from nI_ge (b := 16) hi (by decide)), gd_of (inb_nI hi (by decide)), ltv_eq, ltv_eq, nI_1, ix_nI (by omega)]
    · by_cases e : c = i
      · subst e
        exact wI_at
      · rw [wI_i e]
        exact h1 c (by omega)
  · rintro q a ⟨f1, h1⟩
    show ∃ M', bb_J7_fill_53178_22_5 _ _ _ _ _ = _ ∧ _
    unfold bb_J7_fill_53178_22_5
    rw [if_pos (by decide)]
    exact ⟨a, rfl, f1, h1⟩
theorem fill23 (v : Int32) (M : Mm) : ∃ M', f_J7_fill_53178_23 v M = some M' ∧ Fr [(23, 999)] M M' ∧ ∀ c, c < 16 → M'.1 23 c = v := by
  refine for_q (fun q i (a : Mm) => b_J7_fill_53178_23_5 q v (nI i) 16 a) 16 (fun i a => Fr [(23, 999)] M a ∧ ∀ c, c < i → a.1 23 c = v) (fun o => ∃ M', o = some M' ∧ Fr [(23, 999)] M M' ∧ ∀ c, c < 16 → M'.1 23 c = v) ?_ ?_ 16 0 M FU rfl (by decide) ⟨Fr.refl, fun c hc => absurd hc (Nat.not_lt_zero _)⟩
  · rintro q i a hi ⟨f1, h1⟩
    right
    refine ⟨wI a 23 i v, ?_, Fr.tr f1 (Fr.wIa rfl), fun c hc => ?_⟩
    · show bb_J7_fill_53178_23_5 _ _ _ _ _ = _
      unfold bb_J7_fill_53178_23_5
      rw [if_neg (show ¬ (16 : Int32) ≤ nI i from nI_ge (b := 16) hi (by decide)), gd_of (inb_nI hi (by decide)), ltv_eq, ltv_eq, nI_1, ix_nI (by omega)]
    · by_cases e : c = i
      · subst e
        exact wI_at
      · rw [wI_i e]
        exact h1 c (by omega)
  · rintro q a ⟨f1, h1⟩
    show ∃ M', bb_J7_fill_53178_23_5 _ _ _ _ _ = _ ∧ _
    unfold bb_J7_fill_53178_23_5
    rw [if_pos (by decide)]
    exact ⟨a, rfl, f1, h1⟩
theorem mkB_z {P : Nat → Bool} {n : Nat} : mkB P n = 0 ↔ ∀ i, i < n → P i = false := by
  constructor
  · intro h i hi
    have := congrArg (fun z => Nat.testBit z i) h
    simp only [mkB_bit, Nat.zero_testBit, decide_eq_true hi, Bool.true_and] at this
    exact this
  · intro h
    apply Nat.eq_of_testBit_eq
    intro i
    rw [mkB_bit, Nat.zero_testBit]
    by_cases hi : i < n
    · rw [h i hi, Bool.and_false]
    · rw [decide_eq_false hi, Bool.false_and]
theorem pairs_c {E : Nat → Nat → Bool} {M : Mm} (hE : RpE E M) : ∃ M' mt X Y, f_X3_mostPairs_19 M = some (nI (szM mt), M') ∧ Fr LMT M M' ∧ KnI2 E 16 mt X Y := by
  obtain ⟨M1, e1, f1, h1⟩ := fill22 (-1) M
  unfold f_X3_mostPairs_19 bb_X3_mostPairs_19_0
  rw [e1, bd_some]
  refine for_q (fun q R (a : Mm × Int32) => b_X3_mostPairs_19_12 q a.2 (nI R) a.1) 16 (fun R a => Fr LMT M a.1 ∧ ∃ mt X Y, RpM a.1 mt ∧ a.2 = nI (szM mt) ∧ KnI2 E R mt X Y) (fun o => ∃ M' mt X Y, o = some (nI (szM mt), M') ∧ Fr LMT M M' ∧ KnI2 E 16 mt X Y) ?_ ?_ 16 0 (M1, 0) FU rfl (by decide) ⟨Fr.sub f1 (by decide), fun _ => 99, fun _ => false, fun _ => false, h1, ?_, kn_0 E⟩
  · rintro q R ⟨a, p⟩ hR ⟨f2, mt, X, Y, m2, s2, k2⟩
    have s2' : p = nI (szM mt) := s2
    have m2' : RpM a mt := m2
    have f2' : Fr LMT M a := f2
    obtain ⟨a1, e3, f3, h3⟩ := fill23 0 a
    have f4 : Fr LMT M a1 := Fr.tr f2' (Fr.sub f3 (by decide))
    have m4 : RpM a1 mt := fun c hc => ((f3 22 c rfl).1).trans (m2' c hc)
    have z4 : RpZ a1 (fun _ => false) := h3
    have hE4 := hE.fr f4
    right
    show ∃ a', bb_X3_mostPairs_19_12 _ _ _ _ = _ ∧ _
    unfold bb_X3_mostPairs_19_12
    rw [if_neg (show ¬ (16 : Int32) ≤ nI R from nI_ge (b := 16) hR (by decide)), e3, bd_some, gd_of (inb_nI hR (by decide)), ix_nI (by omega), hE4 R hR]
    by_cases h0 : mkB (E R) 16 = 0
    · refine ⟨(a1, p), ?_, f4, mt, X, Y, m4, s2, kn_skip k2 (mkB_z.mp h0)⟩
      rw [h0, if_pos nI_0, ltv_eq, nI_1]
    · obtain ⟨v, M', ev, f5, hv⟩ := mate_ok 20 R 99 mt (fun _ => false) a1 0 m4 z4 hE4 ⟨hR, k2.1, k2.2.1, fun c hc _ he => by
        have := k2.2.2.1 c hc (by omega)
        omega, fun z => by omega⟩ (by omega) (Nat.zero_le _)
      rw [if_neg (nI_ne0 (by omega) (mkE_lt _)), show f_X3_findsMate_21_22_23 (nI R) 0 a1 = some (v, M') from ev, bd2_some]
      rcases hv with ⟨rfl, m5, Z5, _, hF⟩ | ⟨rfl, mt', m5, hS⟩
      · obtain ⟨X', Y', k5⟩ := kn_fail k2 hF
        refine ⟨(M', p), ?_, Fr.tr f4 f5, mt, X', Y', m5, s2, k5⟩
        rw [if_pos rfl, ltv_eq, nI_1]
      · obtain ⟨X', Y', k5⟩ := kn_succ hR k2 hS
        refine ⟨(M', nI (szM mt')), ?_, Fr.tr f4 f5, mt', X', Y', m5, rfl, k5⟩
        rw [if_neg (by decide), ltv_eq, ltv_eq, nI_1, s2', nI_1, ← hS.2.2.2.2.2]
  · rintro q ⟨a, p⟩ ⟨f2, mt, X, Y, m2, s2, k2⟩
    show ∃ M' mt X Y, bb_X3_mostPairs_19_12 _ _ _ _ = _ ∧ _
    unfold bb_X3_mostPairs_19_12
    rw [if_pos (by decide)]
    have s2' : p = nI (szM mt) := s2
    exact ⟨a, mt, X, Y, by rw [s2'], f2, k2⟩
  · have : szM (fun _ => 99) = 0 := by decide
    rw [this]
    rfl
-- ===== crossings =====
theorem cross_in {ink op : Int64} {E : Nat → Nat → Bool} {M a : Mm} {r : Nat} (k2 : Int64 → Int32 → Mm → Option Mm) (hT : TkC ink M) (hr : r < 16) (hE : ∀ c, c < 16 → (E r c = true ↔ ¬ ((Tk ink r &&& op) &&& Tk ink (16 + c)) = 0)) (hf : Fr [(21, 999)] M a) (hI : ∀ q, q < r → a.1 21 q = nI (mkB (E q) 16)) : ∃ a', b_X3_layCrossings_19_28 k2 FU op (nI r) (Tk ink r &&& op) 0 (wI a 21 r 0) = k2 op (nI (r + 1)) a' ∧ Fr [(21, 999)] M a' ∧ ∀ q, q < r + 1 → a'.1 21 q = nI (mkB (E q) 16) := by
  refine for_q (fun q c (b : Mm) => b_X3_layCrossings_19_28 k2 q op (nI r) (Tk ink r &&& op) (nI c) b) 16 (fun c b => Fr [(21, 999)] M b ∧ (∀ q, q < r → b.1 21 q = nI (mkB (E q) 16)) ∧ b.1 21 r = nI (mkB (E r) c)) (fun o => ∃ a', o = k2 op (nI (r + 1)) a' ∧ Fr [(21, 999)] M a' ∧ ∀ q, q < r + 1 → a'.1 21 q = nI (mkB (E q) 16)) ?_ ?_ 16 0 _ FU rfl (by decide) ⟨Fr.tr hf (Fr.wIa rfl), fun q hq => by rw [wI_i (by omega)]; exact hI q hq, wI_at⟩
  · rintro q c b hc ⟨f1, h1, h2⟩
    have b20 : b.2 20 (16 + c) = Tk ink (16 + c) := ((f1 20 (16 + c) rfl).2).trans (hT _ (by omega))
    show (∃ a', bb_X3_layCrossings_19_28 _ _ _ _ _ _ _ = _ ∧ _) ∨ ∃ a', bb_X3_layCrossings_19_28 _ _ _ _ _ _ _ = _ ∧ _
    unfold bb_X3_layCrossings_19_28
    rw [if_neg (show ¬ (16 : Int32) ≤ nI c from nI_ge (b := 16) hc (by decide))]
    by_cases h0 : (Tk ink r &&& op) = 0
    · left
      rw [if_pos h0, ltv_eq, nI_1]
      have ez : ∀ n, n ≤ 16 → mkB (E r) n = 0 := by
        intro n hn
        rw [mkB_z]
        intro d hd
        cases he : E r d with
        | false => rfl
        | true =>
          exfalso
          apply (hE d (by omega)).mp he
          rw [h0]
          exact Int64.zero_and
      refine ⟨b, rfl, f1, fun q hq => ?_⟩
      by_cases e : q = r
      · rw [e, h2, ez c (by omega), ez 16 (Nat.le_refl _)]
      · exact h1 q (by omega)
    · right
      rw [if_neg h0, show (16 : Int32) + nI c = nI (16 + c) from nI_add 16 c, gd_of (inb_nI (by omega) (by decide)), ix_nI (by omega), b20]
      cases he : E r c with
      | false =>
        refine ⟨b, ?_, f1, h1, ?_⟩
        · rw [if_pos (by
            apply Classical.byContradiction
            intro z
            rw [(hE c hc).mpr z] at he
            cases he), ltv_eq, nI_1]
        · rw [h2, mkB_f he]
      | true =>
        refine ⟨wI b 21 r (nI (mkB (E r) (c + 1))), ?_, Fr.tr f1 (Fr.wIa rfl), fun q hq => by rw [wI_i (by omega)]; exact h1 q hq, wI_at⟩
        rw [if_neg ((hE c hc).mp he), gd_of (inb_nI hr (by decide)), gd_of (inb_nI hr (by decide)), ltv_eq, ltv_eq, nI_1, ix_nI (by omega), h2, shI_c c (by omega), nI_or, mkB_t he]
  · rintro q b ⟨f1, h1, h2⟩
    show ∃ a', bb_X3_layCrossings_19_28 _ _ _ _ _ _ _ = _ ∧ _
    unfold bb_X3_layCrossings_19_28
    rw [if_pos (by decide), ltv_eq, nI_1]
    refine ⟨b, rfl, f1, fun q hq => ?_⟩
    by_cases e : q = r
    · rw [e]
      exact h2
    · exact h1 q (by omega)
theorem cross_c {ink op : Int64} {E : Nat → Nat → Bool} {M : Mm} (hT : TkC ink M) (hE : ∀ r, r < 16 → ∀ c, c < 16 → (E r c = true ↔ ¬ ((Tk ink r &&& op) &&& Tk ink (16 + c)) = 0)) : ∃ M', f_X3_layCrossings_19 op M = some M' ∧ Fr [(21, 999)] M M' ∧ RpE E M' := by
  refine for_q (fun q r (b : Mm) => b_X3_layCrossings_19_2 q op (nI r) b) 16 (fun r b => Fr [(21, 999)] M b ∧ ∀ q, q < r → b.1 21 q = nI (mkB (E q) 16)) (fun o => ∃ M', o = some M' ∧ Fr [(21, 999)] M M' ∧ RpE E M') ?_ ?_ 16 0 M FU rfl (by decide) ⟨Fr.refl, fun q hq => absurd hq (Nat.not_lt_zero _)⟩
  · rintro q r b hr ⟨f1, h1⟩
    right
    obtain ⟨a', e1, e2, e3⟩ := cross_in (b_X3_layCrossings_19_2 q) hT hr (hE r hr) f1 h1
    refine ⟨a', ?_, e2, e3⟩
    have b20 : (wI b 21 r 0).2 20 r = Tk ink r := ((f1 20 r rfl).2).trans (hT _ (by omega))
    show bb_X3_layCrossings_19_2 _ _ _ _ = _
    unfold bb_X3_layCrossings_19_2
    rw [if_neg (show ¬ (16 : Int32) ≤ nI r from nI_ge (b := 16) hr (by decide)), gd_of (inb_nI hr (by decide)), ltv_eq, gd_of (inb_nI (by omega) (by decide)), ltv_eq, ix_nI (by omega), b20, e1]
  · rintro q b ⟨f1, h1⟩
    show ∃ M', bb_X3_layCrossings_19_2 _ _ _ _ = _ ∧ _
    unfold bb_X3_layCrossings_19_2
    rw [if_pos (by decide)]
    exact ⟨b, rfl, f1, h1⟩
-- ===== the fewest without W =====
theorem Fc_99 {sq : Int64} {rho kap : Nat → Nat} {Hd B : Nat} (hH : Hd < 2 ^ 32) : FcB sq rho kap Hd B 99 = false := by
  unfold FcB
  have h1 : Hd.testBit 99 = false := Nat.testBit_lt_two_pow (Nat.lt_of_lt_of_le hH (by decide))
  rw [h1, Bool.false_or]
  apply anB_f
  intro i _
  have o9 : okL B 99 = false := rfl
  by_cases e1 : rho i = 99
  · by_cases e2 : kap i = 99
    · rw [e1, e2, o9]
      simp
    · rw [e1, o9, decide_eq_false e2]
      simp
  · by_cases e2 : kap i = 99
    · rw [e2, o9, decide_eq_false e1]
      simp
    · rw [decide_eq_false e1, decide_eq_false e2]
      simp
/-- the test whether a line is wanted -/
theorem want_iff {ink sq sg : Int64} {W k : Nat} (hk : k < 32) (hW : W.testBit k = false) (hs : ∀ i, i < 64 → lb sg i = (lb sq i && (okL W (rwL ink i) ^^ okL W (clL ink i)))) : ((Tk ink k &&& sg) = 0) ↔ FcB sq (rwL ink) (clL ink) 0 W k = false := by
  have okk : ∀ l, l = k → okL W l = true := by
    intro l e
    have n9 : ¬ l = 99 := by omega
    unfold okL
    rw [decide_eq_false n9, e, hW]
    rfl
  constructor
  · intro h
    rw [and_z] at h
    unfold FcB
    rw [Nat.zero_testBit, Bool.false_or]
    apply anB_f
    intro i hi
    cases hb : lb sq i with
    | false => rfl
    | true =>
      have hh : tkB ink k i = true → (okL W (rwL ink i) ^^ okL W (clL ink i)) = false := by
        intro ht
        have := h i hi (by rw [lb_Tk _ _ hi]; exact ht)
        rw [hs i hi, hb, Bool.true_and] at this
        exact this
      rw [Bool.true_and]
      by_cases e1 : rwL ink i = k
      · have o1 := okk _ e1
        have := hh (by unfold tkB; rw [decide_eq_true e1]; rfl)
        rw [o1] at this
        have o2 : okL W (clL ink i) = true := by
          cases q : okL W (clL ink i) with
          | true => rfl
          | false => rw [q] at this; cases this
        rw [o1, o2]
        simp
      · by_cases e2 : clL ink i = k
        · have o1 := okk _ e2
          have := hh (by unfold tkB; rw [decide_eq_true e2, Bool.or_true])
          rw [o1] at this
          have o2 : okL W (rwL ink i) = true := by
            cases q : okL W (rwL ink i) with
            | true => rfl
            | false => rw [q] at this; cases this
          rw [o1, o2]
          simp
        · rw [decide_eq_false e1, decide_eq_false e2]
          rfl
  · intro h
    rw [and_z]
    intro i hi ht
    rw [lb_Tk _ _ hi] at ht
    rw [hs i hi]
    cases hb : lb sq i with
    | false => rfl
    | true =>
      rw [Bool.true_and]
      cases hx : (okL W (rwL ink i) ^^ okL W (clL ink i)) with
      | false => rfl
      | true =>
        exfalso
        have : FcB sq (rwL ink) (clL ink) 0 W k = true := by
          unfold FcB
          rw [anB_iff.mpr ⟨i, hi, ?_⟩, Bool.or_true]
          rw [hb, Bool.true_and]
          unfold tkB at ht
          rw [Bool.or_eq_true, decide_eq_true_eq, decide_eq_true_eq] at ht
          rcases ht with e | e
          · have o1 := okk _ e
            rw [o1] at hx
            have o2 : okL W (clL ink i) = false := by
              cases q : okL W (clL ink i) with
              | false => rfl
              | true => rw [q] at hx; cases hx
            rw [o1, o2, decide_eq_true e]
            rfl
          · have o1 := okk _ e
            rw [o1] at hx
            have o2 : okL W (rwL ink i) = false := by
              cases q : okL W (rwL ink i) with
              | false => rfl
              | true => rw [q] at hx; cases hx
            rw [o1, o2, decide_eq_true e]
            simp
        rw [h] at this
        cases this
theorem open_fin {ink : Int64} {F : Nat → Bool} {i : Nat} (hi : i < 64) (h9 : F 99 = false) : anB (fun l => F l && tkB ink l i) 32 = (F (rwL ink i) || F (clL ink i)) := by
  apply bool_ext
  rw [anB_iff, Bool.or_eq_true]
  unfold tkB
  constructor
  · rintro ⟨l, hl, h⟩
    simp only [Bool.and_eq_true, Bool.or_eq_true, decide_eq_true_eq] at h
    rcases h.2 with e | e
    · left
      rw [e]
      exact h.1
    · right
      rw [e]
      exact h.1
  · rintro (h | h)
    · rcases rwL_or ink hi with z | z
      · exact ⟨rwL ink i, by omega, by rw [h, decide_eq_true rfl]; rfl⟩
      · rw [z, h9] at h
        cases h
    · rcases clL_or ink hi with z | z
      · exact ⟨_, z.2, by rw [h, decide_eq_true (show clL ink i = clL ink i from rfl), Bool.or_true]; rfl⟩
      · rw [z, h9] at h
        cases h
def LFW : List (Nat × Nat) := [(21, 999), (22, 999), (23, 999)]
theorem fw_c {ink sq : Int64} {W : Nat} {M : Mm} (hT : TkC ink M) : ∃ v M', f_X3_fewestWithout_19 sq (lN W) M = some (v, M') ∧ Fr LFW M M' ∧ ((¬ Fea sq (rwL ink) (clL ink) W ∧ v = 1000) ∨ ∃ n, v = nI n ∧ n ≤ 64 ∧ MinN ink sq 0 W n) := by
  obtain ⟨v0, e0, h0⟩ := any_c (W := W) hT (Or.inl rfl)
  obtain ⟨v1, e1, h1⟩ := any_c (W := W) hT (Or.inr rfl)
  have b0 : ∀ i, i < 64 → lb v0 i = okL W (rwL ink i) := fun i hi => (h0 i hi).trans (any_r hi)
  have b1 : ∀ i, i < 64 → lb v1 i = okL W (clL ink i) := fun i hi => (h1 i hi).trans (any_k hi)
  have feaI : (((sq &&& (v0 ^^^ -1)) &&& (v1 ^^^ -1)) = 0) ↔ Fea sq (rwL ink) (clL ink) W := by
    rw [and_z]
    constructor
    · intro h i hi hb
      cases q0 : okL W (rwL ink i) with
      | true => exact Or.inl rfl
      | false =>
        right
        have := h i hi (by rw [lb_and, hb, lb_not _ hi, b0 i hi, q0]; rfl)
        rw [lb_not _ hi, b1 i hi] at this
        simpa using this
    · intro h i hi hb
      rw [lb_and, Bool.and_eq_true, lb_not _ hi, b0 i hi] at hb
      rw [lb_not _ hi, b1 i hi]
      rcases h i hi hb.1 with q | q
      · rw [q] at hb
        cases hb.2
      · rw [q]
        rfl
  unfold f_X3_fewestWithout_19 bb_X3_fewestWithout_19_0
  rw [show f_X3_takenByAny_19 0 (lN W) M = some v0 from e0, bd_some, show f_X3_takenByAny_19 16 (lN W) M = some v1 from e1, bd_some]
  by_cases hF : Fea sq (rwL ink) (clL ink) W
  · rw [if_pos (feaI.mpr hF), ltv_eq]
    let Fc := FcB sq (rwL ink) (clL ink) 0 W
    have F9 : Fc 99 = false := Fc_99 (by decide)
    have hs : ∀ i, i < 64 → lb (sq &&& (v0 ^^^ v1)) i = (lb sq i && (okL W (rwL ink i) ^^ okL W (clL ink i))) := fun i hi => by rw [lb_and, lb_xor, b0 i hi, b1 i hi]
    refine for_q (fun q k (a : Int64 × Int32) => b_X3_fewestWithout_19_59 q (lN W) (sq &&& (v0 ^^^ v1)) a.1 a.2 (nI k) M) 32 (fun k a => a.2 = nI (bcn Fc k) ∧ ∀ i, i < 64 → lb a.1 i = (lb sq i && !anB (fun l => Fc l && tkB ink l i) k)) (fun o => ∃ v M', o = some (v, M') ∧ Fr LFW M M' ∧ ((¬ Fea sq (rwL ink) (clL ink) W ∧ v = 1000) ∨ ∃ n, v = nI n ∧ n ≤ 64 ∧ MinN ink sq 0 W n)) ?_ ?_ 32 0 (sq, 0) FU rfl (by decide) ⟨rfl, fun i _ => by show lb sq i = (lb sq i && !false); simp⟩
    · rintro q k ⟨op, w⟩ hk ⟨i1, i2⟩
      have j1 : w = nI (bcn Fc k) := i1
      have j2 : ∀ i, i < 64 → lb op i = (lb sq i && !anB (fun l => Fc l && tkB ink l i) k) := i2
      right
      show ∃ a' : Int64 × Int32, bb_X3_fewestWithout_19_59 _ _ _ _ _ _ _ = _ ∧ a'.2 = nI (bcn Fc k + (if Fc k then 1 else 0)) ∧ ∀ i, i < 64 → lb a'.1 i = (lb sq i && !(anB (fun l => Fc l && tkB ink l i) k || (Fc k && tkB ink k i)))
      unfold bb_X3_fewestWithout_19_59
      have skip : Fc k = false → (op, w).2 = nI (bcn Fc k + (if Fc k then 1 else 0)) ∧ ∀ i, i < 64 → lb (op, w).1 i = (lb sq i && !(anB (fun l => Fc l && tkB ink l i) k || (Fc k && tkB ink k i))) := by
        intro hf
        refine ⟨?_, fun i hi => ?_⟩
        · rw [hf]
          exact j1
        · rw [hf, Bool.false_and, Bool.or_false]
          exact j2 i hi
      rw [if_neg (show ¬ (32 : Int32) ≤ nI k from nI_ge (b := 32) hk (by decide))]
      cases hb : W.testBit k with
      | true =>
        have hf : Fc k = false := by
          cases q : Fc k with
          | false => rfl
          | true =>
            have := Fc_ok (fun l hl => by rw [Nat.zero_testBit] at hl; cases hl) q
            rw [hb] at this
            cases this
        refine ⟨(op, w), ?_, skip hf⟩
        rw [if_neg (fun z => by rw [(lbitT (by omega)).mp z] at hb; cases hb), ltv_eq, nI_1]
      | false =>
        rw [if_pos ((lbitT (by omega)).mpr hb), gd_of (inb_nI hk (by decide)), ix_nI (by omega), hT k hk]
        have wi := want_iff hk hb hs
        cases hf : Fc k with
        | false =>
          rw [hf] at skip
          refine ⟨(op, w), ?_, skip rfl⟩
          rw [if_pos (wi.mpr hf), ltv_eq, nI_1]
        | true =>
          refine ⟨(op &&& (Tk ink k ^^^ -1), nI (bcn Fc k + 1)), ?_, rfl, fun i hi => ?_⟩
          · rw [if_neg (fun z => by have := wi.mp z; rw [show FcB sq (rwL ink) (clL ink) 0 W k = true from hf] at this; cases this), ltv_eq, gd_of (inb_nI hk (by decide)), ltv_eq, ltv_eq, nI_1, j1, nI_1]
          · show lb (op &&& (Tk ink k ^^^ -1)) i = _
            rw [lb_and, lb_not _ hi, lb_Tk _ _ hi, j2 i hi, Bool.true_and]
            cases lb sq i <;> cases anB (fun l => Fc l && tkB ink l i) k <;> cases tkB ink k i <;> rfl
    · rintro q ⟨op, w⟩ ⟨i1, i2⟩
      have j1 : w = nI (bcn Fc 32) := i1
      have j2 : ∀ i, i < 64 → lb op i = (lb sq i && !(Fc (rwL ink i) || Fc (clL ink i))) := fun i hi => by
        have : lb op i = (lb sq i && !anB (fun l => Fc l && tkB ink l i) 32) := i2 i hi
        rw [this, open_fin hi F9]
      have hE : ∀ r, r < 16 → ∀ c, c < 16 → (EdB sq (rwL ink) (clL ink) 0 W r c = true ↔ ¬ ((Tk ink r &&& op) &&& Tk ink (16 + c)) = 0) := by
        intro r hr c hc
        rw [lb_nz]
        unfold EdB
        rw [anB_iff]
        constructor
        · rintro ⟨i, hi, h⟩
          simp only [Bool.and_eq_true, Bool.not_eq_true', decide_eq_true_eq] at h
          refine ⟨i, hi, ?_⟩
          have f1 : Fc (rwL ink i) = false := by rw [h.1.2.1]; exact h.2.1
          have f2 : Fc (clL ink i) = false := by rw [h.1.2.2]; exact h.2.2
          rw [lb_and, lb_and, lb_Tk _ _ hi, lb_Tk _ _ hi, j2 i hi, h.1.1, f1, f2]
          unfold tkB
          rw [decide_eq_true h.1.2.1, decide_eq_true h.1.2.2, Bool.or_true]
          rfl
        · rintro ⟨i, hi, h⟩
          rw [lb_and, lb_and, lb_Tk _ _ hi, lb_Tk _ _ hi, j2 i hi] at h
          unfold tkB at h
          simp only [Bool.and_eq_true, Bool.or_eq_true, Bool.not_eq_true', decide_eq_true_eq, Bool.or_eq_false_iff] at h
          obtain ⟨⟨h1, h2, h3, h4⟩, h5⟩ := h
          have er : rwL ink i = r := by
            rcases h1 with z | z
            · exact z
            · rcases clL_or ink hi with y | y <;> omega
          have ec : clL ink i = 16 + c := by
            rcases h5 with z | z
            · rcases rwL_or ink hi with y | y <;> omega
            · exact z
          refine ⟨i, hi, ?_⟩
          rw [er] at h3
          rw [ec] at h4
          rw [h2, decide_eq_true er, decide_eq_true ec, show FcB sq (rwL ink) (clL ink) 0 W r = false from h3, show FcB sq (rwL ink) (clL ink) 0 W (16 + c) = false from h4]
          rfl
      obtain ⟨M1, c1, f1, r1⟩ := cross_c (op := op) hT hE
      obtain ⟨M2, mt, X, Y, c2, f2, k2⟩ := pairs_c r1
      obtain ⟨m1, m2⟩ := min_ok (fun i hi => rwL_or ink hi) (fun i hi => clL_or ink hi) (by decide) (fun l hl => by rw [Nat.zero_testBit] at hl; cases hl) hF k2
      have bF := bcn_le Fc 32
      have bS := bcn_le (fun c => !decide (mt c = 99)) 16
      refine ⟨nI (bcn Fc 32 + szM mt), M2, ?_, Fr.tr (Fr.sub f1 (by decide)) (Fr.sub f2 (by decide)), Or.inr ⟨_, rfl, by unfold szM; omega, ?_, ?_⟩⟩
      · show bb_X3_fewestWithout_19_59 _ _ _ _ _ _ _ = _
        unfold bb_X3_fewestWithout_19_59
        rw [if_pos (by decide), c1, bd_some, c2, bd2_some, j1, nI_add]
      · rw [popN_0]
        exact m1
      · rw [popN_0]
        exact m2
  · rw [if_neg (fun z => hF (feaI.mp z))]
    exact ⟨1000, M, rfl, Fr.refl, Or.inl ⟨hF, rfl⟩⟩
