-- ===== the model's fewest lines =====
theorem shI_c32 : ∀ k, k < 32 → shI 1 (nI k) = nI (2 ^ k) := by decide +kernel
theorem one_bit : ∀ i, i < 32 → (1 : Int32).toBitVec.getLsbD i = decide (i = 0) := by decide +kernel
theorem bit32 {n k : Nat} (hk : k < 32) : shrI (nI n) (nI k) &&& 1 = if n.testBit k then 1 else 0 := by
  obtain ⟨h1, h2⟩ := sh31 k hk
  have e : ∀ i, i < 32 → (shrI (nI n) (nI k) &&& 1).toBitVec.getLsbD i = (decide (i = 0) && n.testBit k) := by
    intro i hi
    rw [Int32.toBitVec_and, BitVec.getLsbD_and, one_bit i hi]
    by_cases h0 : i = 0
    · subst h0
      have e2 : (shrI (nI n) (nI k)).toBitVec.getLsbD 0 = (nI n).toBitVec.getLsbD (k + 0) := by
        unfold shrI
        rw [Int32.toBitVec_shiftRight]
        show ((nI n).toBitVec.sshiftRight ((nI k &&& 31).toBitVec.smod 32).toNat).getLsbD 0 = _
        rw [h1, BitVec.getLsbD_sshiftRight]
        simp [hk]
      rw [e2, nI_bit]
      simp [hk]
    · simp [h0]
  cases hb : n.testBit k with
  | true =>
    rw [if_pos rfl]
    apply i_ext
    intro i hi
    rw [e i hi, hb, Bool.and_true, one_bit i hi]
  | false =>
    rw [if_neg (by decide)]
    apply i_ext
    intro i hi
    rw [e i hi, hb, Bool.and_false]
    exact (BitVec.getLsbD_zero).symm
theorem b32_0 {n k : Nat} (hk : k < 32) : (shrI (nI n) (nI k) &&& 1 = 0) ↔ n.testBit k = false := by
  rw [bit32 hk]
  cases n.testBit k
  · simp
  · simp
theorem b32_1 {n k : Nat} (hk : k < 32) : (shrI (nI n) (nI k) &&& 1 = 1) ↔ n.testBit k = true := by
  rw [bit32 hk]
  cases n.testBit k
  · simp
  · simp
theorem may_m {B l : Nat} (hl : l < 32 ∨ l = 99) : f_X10_mayTake (mI l) (nI B) = some (if okL B l then 1 else 0) := by
  unfold f_X10_mayTake bb_X10_mayTake_0 okL
  rcases hl with h | h
  · have n9 : ¬ l = 99 := by omega
    rw [mI_ne n9, if_neg (m1_ne (by omega)), decide_eq_false n9]
    cases hb : B.testBit l with
    | false =>
      rw [if_pos ((b32_0 h).mpr hb)]
      rfl
    | true =>
      rw [if_neg (fun z => by rw [(b32_0 h).mp z] at hb; cases hb)]
      rfl
  · have e9 : mI l = -1 := if_pos h
    rw [e9, if_pos rfl, decide_eq_true h]
    rfl
def fcS (sq : Int64) (rho kap : Nat → Nat) (B l i : Nat) : Bool := lb sq i && ((decide (rho i = l) && (okL B (rho i) && !okL B (kap i))) || (decide (kap i = l) && (okL B (kap i) && !okL B (rho i))))
def AN (sq : Int64) (rho kap : Nat → Nat) (Hd B s : Nat) : Nat := mkB (fun l => Hd.testBit l || anB (fun i => fcS sq rho kap B l i) s) 32
theorem AN_same {sq : Int64} {rho kap : Nat → Nat} {Hd B s : Nat} (h : ∀ l, fcS sq rho kap B l s = false) : AN sq rho kap Hd B (s + 1) = AN sq rho kap Hd B s := by
  apply Nat.eq_of_testBit_eq
  intro l
  unfold AN
  rw [mkB_bit, mkB_bit]
  show (decide (l < 32) && (Hd.testBit l || (anB (fun i => fcS sq rho kap B l i) s || fcS sq rho kap B l s))) = _
  rw [h l, Bool.or_false]
theorem AN_add {sq : Int64} {rho kap : Nat → Nat} {Hd B s q : Nat} (hq : q < 32) (h : ∀ l, fcS sq rho kap B l s = decide (l = q)) : AN sq rho kap Hd B (s + 1) = AN sq rho kap Hd B s ||| 2 ^ q := by
  apply Nat.eq_of_testBit_eq
  intro l
  rw [bit_or2]
  unfold AN
  rw [mkB_bit, mkB_bit]
  show (decide (l < 32) && (Hd.testBit l || (anB (fun i => fcS sq rho kap B l i) s || fcS sq rho kap B l s))) = _
  rw [h l]
  by_cases e : l = q
  · subst e
    rw [decide_eq_true hq, decide_eq_true (show l = l from rfl)]
    simp
  · rw [decide_eq_false e, decide_eq_false (show ¬ q = l from fun z => e z.symm), Bool.or_false, Bool.or_false]
theorem AN_0 {sq : Int64} {rho kap : Nat → Nat} {Hd B : Nat} (h : Hd < 2 ^ 32) : AN sq rho kap Hd B 0 = Hd := by
  apply Nat.eq_of_testBit_eq
  intro l
  unfold AN
  rw [mkB_bit]
  show (decide (l < 32) && (Hd.testBit l || false)) = _
  rw [Bool.or_false]
  cases hb : Hd.testBit l with
  | false => rw [Bool.and_false]
  | true => rw [decide_eq_true (bit_hi h hb)]; rfl
theorem AN_bit {sq : Int64} {rho kap : Nat → Nat} {Hd B l : Nat} (hl : l < 32) : (AN sq rho kap Hd B 64).testBit l = FcB sq rho kap Hd B l := by
  unfold AN FcB
  rw [mkB_bit, decide_eq_true hl, Bool.true_and]
  rfl
-- ===== the model's search =====
def LPM : List (Nat × Nat) := [(102, 999), (103, 999)]
def RqM (M : Mm) (mt : Nat → Nat) : Prop := ∀ c, c < 16 → M.1 102 (16 + c) = mI (mt c)
def RqZ (M : Mm) (Z : Nat → Bool) : Prop := ∀ c, c < 16 → M.1 103 (16 + c) = if Z c then 1 else 0
def Cst (ink : Int64) (A : Nat) (M : Mm) : Prop := (∀ s, s < 64 → M.1 100 s = mI (rwL ink s) ∧ M.1 101 s = mI (clL ink s)) ∧ M.1 67 37 = nI A
theorem Cst.fr {ink : Int64} {A : Nat} {M a : Mm} (h : Cst ink A M) (hf : Fr LPM M a) : Cst ink A a := ⟨fun s hs => by rw [(hf 100 s rfl).1, (hf 101 s rfl).1]; exact h.1 s hs, (hf 67 37 rfl).1.trans h.2⟩
def MaQ (E : Nat → Nat → Bool) (r x : Nat) (mt : Nat → Nat) (Z : Nat → Bool) (M : Mm) (o : Option (Int32 × Mm)) : Prop := ∃ v M', o = some (v, M') ∧ Fr LPM M M' ∧ ((v = 0 ∧ RqM M' mt ∧ ∃ Z', RqZ M' Z' ∧ DfF E r mt Z Z') ∨ (v = 1 ∧ ∃ mt', RqM M' mt' ∧ DfS E r x mt Z mt'))
section mpairs
variable {ink sq : Int64} {Hd B : Nat}
theorem pairs_ok (hH : Hd < 2 ^ 32) : ∀ (D r x : Nat) (mt : Nat → Nat) (Z : Nat → Bool) (M : Mm), RqM M mt → RqZ M Z → Cst ink (AN sq (rwL ink) (clL ink) Hd B 64) M → DfP (EdB sq (rwL ink) (clL ink) Hd B) r x mt Z → 16 < D + bcn Z 16 → MaQ (EdB sq (rwL ink) (clL ink) Hd B) r x mt Z M (fr_X10_pairs_67 D sq (nI r) M) := by
  intro D
  induction D with
  | zero =>
    intro r x mt Z M _ _ _ _ h
    have := bcn_le Z 16
    omega
  | succ D ih =>
    intro r x mt Z M hM hZ hC hP hD
    have hb := bcn_le Z 16
    have hr := hP.1
    let E := EdB sq (rwL ink) (clL ink) Hd B
    let Fc := FcB sq (rwL ink) (clL ink) Hd B
    have edI : ∀ c, E r c = true → ∃ i, i < 64 ∧ lb sq i = true ∧ rwL ink i = r ∧ clL ink i = 16 + c ∧ Fc r = false ∧ Fc (16 + c) = false := by
      intro c h
      obtain ⟨i, hi, g⟩ := anB_iff.mp h
      simp only [Bool.and_eq_true, decide_eq_true_eq, Bool.not_eq_true'] at g
      exact ⟨i, hi, g.1.1, g.1.2.1, g.1.2.2, g.2.1, g.2.2⟩
    show MaQ E r x mt Z M (bb_X10_pairs_67_0 (fr_X10_pairs_67 D) sq (nI r) M)
    unfold bb_X10_pairs_67_0
    rw [hC.2]
    cases hFr : Fc r with
    | true =>
      rw [if_pos ((b32_1 (by omega)).mpr (by rw [AN_bit (by omega)]; exact hFr))]
      refine ⟨0, M, rfl, Fr.refl, Or.inl ⟨rfl, hM, Z, hZ, fun c _ h => h, fun c hc he => ?_, fun c _ h1 h2 => by rw [h1] at h2; cases h2⟩⟩
      obtain ⟨i, _, _, _, _, h5, _⟩ := edI c he
      rw [hFr] at h5
      cases h5
    | false =>
      rw [if_neg (fun z => by
        have := (b32_1 (show r < 32 by omega)).mp z
        rw [AN_bit (by omega), show FcB sq (rwL ink) (clL ink) Hd B r = false from hFr] at this
        cases this)]
      refine for_q (fun q s (a : Mm) => b_X10_pairs_67_17 (fr_X10_pairs_67 D) q sq (nI r) (nI s) a) 64 (fun s a => Fr LPM M a ∧ RqM a mt ∧ ∃ Zc, RqZ a Zc ∧ DfL E mt Z Zc ∧ ∀ s', s' < s → lb sq s' = true → rwL ink s' = r → ∀ c, c < 16 → clL ink s' = 16 + c → Fc (16 + c) = false → Zc c = true) (MaQ E r x mt Z M) ?_ ?_ 64 0 M FU rfl (by decide) ⟨Fr.refl, hM, Z, hZ, ⟨fun c _ h => h, fun c _ h1 h2 => by rw [h1] at h2; cases h2⟩, fun s' hs' => absurd hs' (Nat.not_lt_zero _)⟩
      · rintro q s a hs ⟨f1, m1, Zc, z1, l1, n1⟩
        have hC1 := hC.fr f1
        obtain ⟨c100, c101⟩ := hC1.1 s hs
        show MaQ E r x mt Z M (bb_X10_pairs_67_17 _ _ _ _ _ _) ∨ ∃ a', bb_X10_pairs_67_17 _ _ _ _ _ _ = _ ∧ _
        unfold bb_X10_pairs_67_17
        have i64 : inb (nI s) 64 = true := inb_nI hs (by decide)
        have nx : ∀ Z3 : Nat → Bool, (∀ d, d < 16 → Zc d = true → Z3 d = true) → (lb sq s = true → rwL ink s = r → ∀ c, c < 16 → clL ink s = 16 + c → Fc (16 + c) = false → Z3 c = true) → ∀ s', s' < s + 1 → lb sq s' = true → rwL ink s' = r → ∀ c, c < 16 → clL ink s' = 16 + c → Fc (16 + c) = false → Z3 c = true := by
          intro Z3 h1 h2 s' hs' k1 k2 c hc k3 k4
          by_cases e : s' = s
          · rw [e] at k1 k2 k3
            exact h2 k1 k2 c hc k3 k4
          · exact h1 c hc (n1 s' (by omega) k1 k2 c hc k3 k4)
        rw [if_neg (show ¬ (64 : Int32) ≤ nI s from nI_ge (b := 64) hs (by decide)), gd_of i64, ltv_eq, ix_nI (by omega), c101]
        cases hbs : lb sq s with
        | false =>
          right
          rw [is_f hs hbs, bd_some, if_pos rfl, ltv_eq, nI_1]
          exact ⟨a, rfl, f1, m1, Zc, z1, l1, nx Zc (fun _ _ h => h) (fun z => by rw [hbs] at z; cases z)⟩
        | true =>
          rw [is_t hs hbs, bd_some, if_neg (by decide), gd_of i64, c100]
          by_cases hrw : rwL ink s = r
          · have em : mI (rwL ink s) = nI r := by rw [hrw]; exact mI_ne (by omega)
            rw [if_pos em]
            rcases clL_or ink hs with hk | hk
            · have ek : mI (clL ink s) = nI (clL ink s) := mI_ne (by omega)
              rw [ek, if_neg (m1_ne (by omega)), hC1.2]
              obtain ⟨c, hc, ec⟩ : ∃ c, c < 16 ∧ clL ink s = 16 + c := ⟨clL ink s - 16, by omega, by omega⟩
              rw [ec]
              cases hFc : Fc (16 + c) with
              | true =>
                right
                rw [if_pos ((b32_1 (by omega)).mpr (by rw [AN_bit (by omega)]; exact hFc)), ltv_eq, nI_1]
                refine ⟨a, rfl, f1, m1, Zc, z1, l1, nx Zc (fun _ _ h => h) (fun _ _ c' hc' k3 k4 => ?_)⟩
                have : c' = c := by omega
                rw [this, hFc] at k4
                cases k4
              | false =>
                rw [if_neg (fun z => by
                  have := (b32_1 (show 16 + c < 32 by omega)).mp z
                  rw [AN_bit (by omega), show FcB sq (rwL ink) (clL ink) Hd B (16 + c) = false from hFc] at this
                  cases this)]
                have i32 : inb (nI (16 + c)) 32 = true := inb_nI (by omega) (by decide)
                have he : E r c = true := anB_iff.mpr ⟨s, hs, by
                  rw [hbs, decide_eq_true hrw, decide_eq_true ec, show FcB sq (rwL ink) (clL ink) Hd B r = false from hFr, show FcB sq (rwL ink) (clL ink) Hd B (16 + c) = false from hFc]
                  rfl⟩
                rw [gd_of i32, ix_nI (show 16 + c < 2 ^ 31 by omega), z1 c hc]
                cases hz : Zc c with
                | true =>
                  right
                  rw [if_neg (by decide), ltv_eq, nI_1]
                  refine ⟨a, rfl, f1, m1, Zc, z1, l1, nx Zc (fun _ _ h => h) (fun _ _ c' hc' k3 _ => ?_)⟩
                  have : c' = c := by omega
                  rw [this]
                  exact hz
                | false =>
                  have v1 : vp_nar .boolean 1 = 1 := rfl
                  rw [if_pos (by decide), gd_of i32, ltv_eq, v1]
                  have f2 : Fr LPM M (wI a 103 (16 + c) 1) := Fr.tr f1 (Fr.wIa rfl)
                  have m2 : RqM (wI a 103 (16 + c) 1) mt := m1
                  have z2 : RqZ (wI a 103 (16 + c) 1) (insB Zc c) := by
                    intro d hd
                    unfold insB
                    by_cases e : d = c
                    · subst e
                      rw [wI_at, decide_eq_true rfl]
                      rfl
                    · rw [wI_i (by omega), z1 d hd, decide_eq_false e]
                      rfl
                  have g22 : (wI a 103 (16 + c) 1).1 102 (16 + c) = mI (mt c) := m1 c hc
                  rw [gd_of i32, g22]
                  have put : ∀ (M3 : Mm) (mt3 : Nat → Nat), RqM M3 mt3 → RqM (wI M3 102 (16 + c) (nI r)) (updN mt3 c r) := by
                    intro M3 mt3 m3 d hd
                    by_cases e : d = c
                    · subst e
                      rw [wI_at, updN_k, mI_ne (by omega)]
                    · rw [wI_i (by omega), updN_o e]
                      exact m3 d hd
                  by_cases h9 : mt c = 99
                  · left
                    have e9 : mI (mt c) = -1 := if_pos h9
                    rw [e9, if_pos rfl, gd_of i32, ltv_eq]
                    exact ⟨1, _, rfl, Fr.tr f2 (Fr.wIa rfl), Or.inr ⟨rfl, updN mt c r, put _ _ m2, df_free hP l1 hc he hz h9⟩⟩
                  · have h16 := (hP.2.1 c hc h9).1
                    have hbz : bcn Z 16 ≤ bcn Zc 16 := bcn_mono (fun i hi h => l1.1 i hi h)
                    obtain ⟨v, M', ev, f3, hv⟩ := ih (mt c) c mt (insB Zc c) (wI a 103 (16 + c) 1) m2 z2 (hC.fr f2) (df_pre hP hc h9) (by rw [bcn_ins hc hz]; omega)
                    rw [mI_ne h9, if_neg (m1_ne (by omega)), gd_of i32, ev, bd2_some]
                    rcases hv with ⟨rfl, m3, Z3, z3, hF⟩ | ⟨rfl, mt', m3, hS⟩
                    · right
                      obtain ⟨l3, l4, l5⟩ := df_rf l1 hc h9 hF
                      rw [if_pos rfl, ltv_eq, nI_1]
                      refine ⟨M', rfl, Fr.tr f2 f3, m3, Z3, z3, l3, nx Z3 l5 (fun _ _ c' hc' k3 _ => ?_)⟩
                      have : c' = c := by omega
                      rw [this]
                      exact l4
                    · left
                      rw [if_neg (by decide), gd_of i32, ltv_eq]
                      exact ⟨1, _, rfl, Fr.tr f2 (Fr.tr f3 (Fr.wIa rfl)), Or.inr ⟨rfl, updN mt' c r, put _ _ m3, df_rs hP l1 hc he hz h9 hS⟩⟩
            · right
              have ek : mI (clL ink s) = -1 := if_pos hk
              rw [ek, if_pos rfl, ltv_eq, nI_1]
              exact ⟨a, rfl, f1, m1, Zc, z1, l1, nx Zc (fun _ _ h => h) (fun _ _ c' hc' k3 _ => by omega)⟩
          · right
            have em : ¬ mI (rwL ink s) = nI r := by
              rcases rwL_or ink hs with z | z
              · rw [mI_ne (by omega)]
                intro w
                exact hrw ((nI_eq (by omega) (by omega)).mp w)
              · have : mI (rwL ink s) = -1 := if_pos z
                rw [this]
                exact fun w => m1_ne (by omega) w.symm
            rw [if_neg em, ltv_eq, nI_1]
            exact ⟨a, rfl, f1, m1, Zc, z1, l1, nx Zc (fun _ _ h => h) (fun _ z => absurd z hrw)⟩
      · rintro q a ⟨f1, m1, Zc, z1, l1, n1⟩
        show MaQ E r x mt Z M (bb_X10_pairs_67_17 _ _ _ _ _ _)
        unfold bb_X10_pairs_67_17
        rw [if_pos (by decide)]
        refine ⟨0, a, rfl, f1, Or.inl ⟨rfl, m1, Zc, z1, l1.1, fun c hc he => ?_, l1.2⟩⟩
        obtain ⟨i, i1, i2, i3, i4, _, i6⟩ := edI c he
        exact n1 i i1 i2 i3 c hc i4 i6
theorem rows_m (hH : Hd < 2 ^ 32) {N : Mm} (n0 : Nat) (hC : Cst ink (AN sq (rwL ink) (clL ink) Hd B 64) N) (h102 : ∀ k, k < 32 → N.1 102 k = -1) : ∃ N' mt X Y, b_X10_fewestLines_67_201 FU sq (nI n0) 0 N = some (nI (n0 + szM mt), N') ∧ Fr LPM N N' ∧ KnI2 (EdB sq (rwL ink) (clL ink) Hd B) 16 mt X Y := by
  let E := EdB sq (rwL ink) (clL ink) Hd B
  refine for_q (fun q R (a : Mm × Int32) => b_X10_fewestLines_67_201 q sq a.2 (nI R) a.1) 16 (fun R a => Fr LPM N a.1 ∧ ∃ mt X Y, RqM a.1 mt ∧ a.2 = nI (n0 + szM mt) ∧ KnI2 E R mt X Y) (fun o => ∃ N' mt X Y, o = some (nI (n0 + szM mt), N') ∧ Fr LPM N N' ∧ KnI2 E 16 mt X Y) ?_ ?_ 16 0 (N, nI n0) FU rfl (by decide) ⟨Fr.refl, fun _ => 99, fun _ => false, fun _ => false, fun c hc => h102 (16 + c) (by omega), ?_, kn_0 E⟩
  · rintro q R ⟨a, p⟩ hR ⟨f2, mt, X, Y, m2, s2, k2⟩
    have s2' : p = nI (n0 + szM mt) := s2
    have m2' : RqM a mt := m2
    have f2' : Fr LPM N a := f2
    right
    show ∃ a', bb_X10_fewestLines_67_201 _ _ _ _ _ = _ ∧ _
    unfold bb_X10_fewestLines_67_201
    rw [if_neg (show ¬ (16 : Int32) ≤ nI R from nI_ge (b := 16) hR (by decide))]
    refine for_q (fun z j (b : Mm) => b_X10_fewestLines_67_211 (b_X10_fewestLines_67_201 q) z sq p (nI R) (nI j) b) 32 (fun j b => Fr [(103, 999)] a b ∧ ∀ i, i < j → b.1 103 i = 0) (fun o => ∃ a' : Mm × Int32, o = b_X10_fewestLines_67_201 q sq a'.2 (nI (R + 1)) a'.1 ∧ Fr LPM N a'.1 ∧ ∃ mt X Y, RqM a'.1 mt ∧ a'.2 = nI (n0 + szM mt) ∧ KnI2 E (R + 1) mt X Y) ?_ ?_ 32 0 a FU rfl (by decide) ⟨Fr.refl, fun i hi => absurd hi (Nat.not_lt_zero _)⟩
    · rintro z j b hj ⟨g1, g2⟩
      right
      have v0 : vp_nar .boolean 0 = 0 := rfl
      refine ⟨wI b 103 j 0, ?_, Fr.tr g1 (Fr.wIa rfl), fun i hi => ?_⟩
      · show bb_X10_fewestLines_67_211 _ _ _ _ _ _ _ = _
        unfold bb_X10_fewestLines_67_211
        rw [if_neg (show ¬ (32 : Int32) ≤ nI j from nI_ge (b := 32) hj (by decide)), gd_of (inb_nI hj (by decide)), ltv_eq, ltv_eq, nI_1, ix_nI (by omega), v0]
      · by_cases e : i = j
        · subst e
          exact wI_at
        · rw [wI_i e]
          exact g2 i (by omega)
    · rintro z b ⟨g1, g2⟩
      have fb : Fr LPM N b := Fr.tr f2' (Fr.sub g1 (by decide))
      have mb : RqM b mt := fun c hc => ((g1 102 (16 + c) rfl).1).trans (m2' c hc)
      have zb : RqZ b (fun _ => false) := fun c hc => g2 (16 + c) (by omega)
      obtain ⟨v, M', ev, f5, hv⟩ := pairs_ok (ink := ink) (sq := sq) (B := B) hH 40 R 99 mt (fun _ => false) b mb zb (hC.fr fb) ⟨hR, k2.1, k2.2.1, fun c hc _ he => by
        have := k2.2.2.1 c hc (by omega)
        omega, fun z => by omega⟩ (by omega)
      show ∃ a' : Mm × Int32, bb_X10_fewestLines_67_211 _ _ _ _ _ _ _ = _ ∧ _
      unfold bb_X10_fewestLines_67_211
      rw [if_pos (by decide), show f_X10_pairs_67 sq (nI R) b = some (v, M') from ev, bd2_some]
      rcases hv with ⟨rfl, m5, Z5, _, hF⟩ | ⟨rfl, mt', m5, hS⟩
      · obtain ⟨X', Y', k5⟩ := kn_fail k2 hF
        refine ⟨(M', p), ?_, Fr.tr fb f5, mt, X', Y', m5, s2, k5⟩
        rw [if_pos rfl, ltv_eq, ltv_eq, nI_1, Int32.add_zero]
      · obtain ⟨X', Y', k5⟩ := kn_succ hR k2 hS
        refine ⟨(M', nI (n0 + szM mt')), ?_, Fr.tr fb f5, mt', X', Y', m5, rfl, k5⟩
        rw [if_neg (by decide), ltv_eq, ltv_eq, nI_1, s2', nI_1, hS.2.2.2.2.2, Nat.add_assoc]
  · rintro q ⟨a, p⟩ ⟨f2, mt, X, Y, m2, s2, k2⟩
    show ∃ N' mt X Y, bb_X10_fewestLines_67_201 _ _ _ _ _ = _ ∧ _
    unfold bb_X10_fewestLines_67_201
    rw [if_pos (by decide)]
    have s2' : p = nI (n0 + szM mt) := s2
    exact ⟨a, mt, X, Y, by rw [s2'], f2, k2⟩
  · have : szM (fun _ => 99) = 0 := by decide
    rw [this]
    rfl
end mpairs
def LFM : List (Nat × Nat) := [(67, 37), (102, 999), (103, 999)]
theorem fl_m {ink sq : Int64} {Hd B : Nat} {N : Mm} (hH : Hd < 2 ^ 32) (hHB : ∀ l, Hd.testBit l = true → B.testBit l = false) (hR : ∀ s, s < 64 → N.1 100 s = mI (rwL ink s) ∧ N.1 101 s = mI (clL ink s)) : ∃ v N', f_X10_fewestLines_67 sq (nI Hd) (nI B) N = some (v, N') ∧ Fr LFM N N' ∧ ((¬ Fea sq (rwL ink) (clL ink) B ∧ v = -1) ∨ ∃ n, v = nI n ∧ n ≤ 64 ∧ MinN ink sq Hd B n) := by
  have t1 : (if true = true then (1 : Int32) else 0) = 1 := rfl
  have t0 : (if false = true then (1 : Int32) else 0) = 0 := rfl
  have n10 : ¬ (1 : Int32) = 0 := by decide
  let A := AN sq (rwL ink) (clL ink) Hd B
  let Fc := FcB sq (rwL ink) (clL ink) Hd B
  have lo : ∀ {s}, s < 64 → clL ink s < 32 ∨ clL ink s = 99 := fun {s} hs => by
    rcases clL_or ink hs with z | z
    · exact Or.inl z.2
    · exact Or.inr z
  have ro : ∀ {s}, s < 64 → rwL ink s < 32 ∨ rwL ink s = 99 := fun {s} hs => by
    rcases rwL_or ink hs with z | z
    · exact Or.inl (by omega)
    · exact Or.inr z
  -- after the forced ones
  have tail : Fea sq (rwL ink) (clL ink) B → ∃ v N', b_X10_fewestLines_67_125 FU sq (nI Hd) 0 (nI (A 64)) 0 N = some (v, N') ∧ Fr LFM N N' ∧ ∃ n, v = nI n ∧ n ≤ 64 ∧ MinN ink sq Hd B n := by
    intro hF
    refine for_q (fun q k (_ : Unit) => b_X10_fewestLines_67_125 q sq (nI Hd) (nI (bcn (fun l => Fc l && !Hd.testBit l) k)) (nI (A 64)) (nI k) N) 32 (fun _ _ => True) (fun o => ∃ v N', o = some (v, N') ∧ Fr LFM N N' ∧ ∃ n, v = nI n ∧ n ≤ 64 ∧ MinN ink sq Hd B n) ?_ ?_ 32 0 () FU rfl (by decide) trivial
    · intro q k _ hk _
      right
      refine ⟨(), ?_, trivial⟩
      show bb_X10_fewestLines_67_125 _ _ _ _ _ _ _ = b_X10_fewestLines_67_125 q sq (nI Hd) (nI (bcn (fun l => Fc l && !Hd.testBit l) k + (if (Fc k && !Hd.testBit k) then 1 else 0))) (nI (A 64)) (nI (k + 1)) N
      unfold bb_X10_fewestLines_67_125
      have hA : (A 64).testBit k = Fc k := AN_bit hk
      rw [if_neg (show ¬ (32 : Int32) ≤ nI k from nI_ge (b := 32) hk (by decide))]
      cases h1 : Fc k with
      | false =>
        rw [if_neg (fun z => by rw [(b32_1 hk).mp z, h1] at hA; cases hA), ltv_eq, ltv_eq, nI_1, Int32.add_zero]
        rfl
      | true =>
        rw [if_pos ((b32_1 hk).mpr (by rw [hA]; exact h1))]
        cases h2 : Hd.testBit k with
        | false =>
          rw [if_pos ((b32_0 hk).mpr h2), ltv_eq, ltv_eq, nI_1, nI_1]
          rfl
        | true =>
          rw [if_neg (fun z => by rw [(b32_0 hk).mp z] at h2; cases h2), ltv_eq, ltv_eq, nI_1, Int32.add_zero]
          rfl
    · intro q _ _
      show ∃ v N', bb_X10_fewestLines_67_125 _ _ _ _ _ _ _ = _ ∧ _
      unfold bb_X10_fewestLines_67_125
      rw [if_pos (by decide), ltv_eq]
      generalize hn0 : bcn (fun l => Fc l && !Hd.testBit l) 32 = n0
      have hb0 := bcn_le (fun l => Fc l && !Hd.testBit l) 32
      have eF : bcn Fc 32 = n0 + popN Hd := by
        have : bcn Fc 32 = bcn (fun l => (Fc l && !Hd.testBit l) || Hd.testBit l) 32 := bcn_cong (fun l _ => by
          cases h2 : Hd.testBit l with
          | false => simp
          | true =>
            have : Fc l = true := by
              show FcB sq (rwL ink) (clL ink) Hd B l = true
              unfold FcB
              rw [h2]
              rfl
            rw [this]
            rfl)
        rw [this, bcn_disj (fun l _ h => by
          rw [Bool.and_eq_true] at h
          simpa using h.2), hn0]
        rfl
      refine for_q (fun q k (a : Mm) => b_X10_fewestLines_67_177 q sq (nI n0) (nI k) a) 32 (fun k a => Fr LFM N a ∧ a.1 67 37 = nI (A 64) ∧ ∀ j, j < k → a.1 102 j = -1) (fun o => ∃ v N', o = some (v, N') ∧ Fr LFM N N' ∧ ∃ n, v = nI n ∧ n ≤ 64 ∧ MinN ink sq Hd B n) ?_ ?_ 32 0 (wI N 67 37 (nI (A 64))) FU rfl (by decide) ⟨Fr.wrI rfl, wI_at, fun j hj => absurd hj (Nat.not_lt_zero _)⟩
      · rintro q k a hk ⟨f1, h1, h2⟩
        right
        refine ⟨wI a 102 k (-1), ?_, Fr.tr f1 (Fr.wIa rfl), h1, fun j hj => ?_⟩
        · show bb_X10_fewestLines_67_177 _ _ _ _ _ = _
          unfold bb_X10_fewestLines_67_177
          rw [if_neg (show ¬ (32 : Int32) ≤ nI k from nI_ge (b := 32) hk (by decide)), gd_of (inb_nI hk (by decide)), ltv_eq, ltv_eq, nI_1, ix_nI (by omega)]
        · by_cases e : j = k
          · subst e
            exact wI_at
          · rw [wI_i e]
            exact h2 j (by omega)
      · rintro q a ⟨f1, h1, h2⟩
        have hC : Cst ink (AN sq (rwL ink) (clL ink) Hd B 64) a := ⟨fun s hs => by rw [(f1 100 s rfl).1, (f1 101 s rfl).1]; exact hR s hs, h1⟩
        obtain ⟨N', mt, X, Y, e1, f2, k2⟩ := rows_m hH n0 hC h2
        obtain ⟨m1, m2⟩ := min_ok (fun i hi => rwL_or ink hi) (fun i hi => clL_or ink hi) hH hHB hF k2
        have bS := bcn_le (fun c => !decide (mt c = 99)) 16
        show ∃ v N', bb_X10_fewestLines_67_177 _ _ _ _ _ = _ ∧ _
        unfold bb_X10_fewestLines_67_177
        rw [if_pos (by decide), e1]
        have eq : n0 + szM mt + popN Hd = bcn Fc 32 + szM mt := by omega
        refine ⟨_, N', rfl, Fr.tr f1 (Fr.sub f2 (by decide)), n0 + szM mt, rfl, by unfold szM; omega, ?_, ?_⟩
        · rw [eq]
          exact m1
        · rw [eq]
          exact m2
  show ∃ v N', b_X10_fewestLines_67_9 FU sq (nI Hd) (nI B) 0 (nI Hd) 0 N = some (v, N') ∧ _
  have start : b_X10_fewestLines_67_9 FU sq (nI Hd) (nI B) 0 (nI Hd) 0 N = b_X10_fewestLines_67_9 FU sq (nI Hd) (nI B) 0 (nI (A 0)) (nI 0) N := by
    show _ = b_X10_fewestLines_67_9 FU sq (nI Hd) (nI B) 0 (nI (AN sq (rwL ink) (clL ink) Hd B 0)) 0 N
    rw [AN_0 hH]
  rw [start]
  refine for_q (fun q s (_ : Unit) => b_X10_fewestLines_67_9 q sq (nI Hd) (nI B) 0 (nI (A s)) (nI s) N) 64 (fun s _ => ∀ i, i < s → lb sq i = true → okL B (rwL ink i) = true ∨ okL B (clL ink i) = true) (fun o => ∃ v N', o = some (v, N') ∧ Fr LFM N N' ∧ ((¬ Fea sq (rwL ink) (clL ink) B ∧ v = -1) ∨ ∃ n, v = nI n ∧ n ≤ 64 ∧ MinN ink sq Hd B n)) ?_ ?_ 64 0 () FU rfl (by decide) (fun i hi => absurd hi (Nat.not_lt_zero _))
  · intro q s _ hs hI
    show (∃ v N', bb_X10_fewestLines_67_9 _ _ _ _ _ _ _ _ = _ ∧ _) ∨ ∃ a', bb_X10_fewestLines_67_9 _ _ _ _ _ _ _ _ = _ ∧ _
    unfold bb_X10_fewestLines_67_9
    have i64 : inb (nI s) 64 = true := inb_nI hs (by decide)
    have nx : (lb sq s = true → okL B (rwL ink s) = true ∨ okL B (clL ink s) = true) → ∀ i, i < s + 1 → lb sq i = true → okL B (rwL ink i) = true ∨ okL B (clL ink i) = true := by
      intro h i hi hb
      by_cases e : i = s
      · rw [e] at hb ⊢
        exact h hb
      · exact hI i (by omega) hb
    rw [if_neg (show ¬ (64 : Int32) ≤ nI s from nI_ge (b := 64) hs (by decide))]
    cases hb : lb sq s with
    | false =>
      right
      have hA : A (s + 1) = A s := AN_same (fun l => by unfold fcS; rw [hb]; rfl)
      refine ⟨(), ?_, nx (fun z => by rw [hb] at z; cases z)⟩
      rw [is_f hs hb, bd_some, if_pos rfl, ltv_eq, nI_1, hA]
    | true =>
      rw [is_t hs hb, bd_some, if_neg (by decide), gd_of i64, ix_nI (by omega), (hR s hs).1, (hR s hs).2, may_m (ro hs), bd_some, gd_of i64, may_m (lo hs), bd_some]
      cases o1 : okL B (rwL ink s) with
      | true =>
        right
        have r32 : rwL ink s < 32 := by
          rcases ro hs with z | z
          · exact z
          · rw [z] at o1
            cases o1
        rw [t1, if_neg n10]
        unfold bb_X10_fewestLines_67_68 bb_X10_fewestLines_67_92
        cases o2 : okL B (clL ink s) with
        | true =>
          have hA : A (s + 1) = A s := AN_same (fun l => by unfold fcS; rw [o1, o2]; simp)
          refine ⟨(), ?_, nx (fun _ => Or.inl o1)⟩
          rw [t1, if_neg n10, if_neg n10, if_neg n10, if_neg n10, ltv_eq, nI_1, hA]
        | false =>
          have hA : A (s + 1) = A s ||| 2 ^ rwL ink s := AN_add r32 (fun l => by
            unfold fcS
            rw [o1, o2, hb]
            by_cases e : l = rwL ink s
            · rw [decide_eq_true e, decide_eq_true e.symm]
              rfl
            · rw [decide_eq_false e, decide_eq_false (fun z => e z.symm)]
              simp)
          refine ⟨(), ?_, nx (fun _ => Or.inl o1)⟩
          rw [t0, if_neg n10, if_pos rfl, gd_of i64, ltv_eq, if_pos rfl, ltv_eq, nI_1, ix_nI (by omega), (hR s hs).1, mI_ne (by omega), shI_c32 _ r32, nI_or, hA]
      | false =>
        rw [t0, if_pos rfl]
        cases o2 : okL B (clL ink s) with
        | false =>
          left
          rw [t0, if_pos rfl]
          refine ⟨-1, N, rfl, Fr.refl, Or.inl ⟨fun hF => ?_, rfl⟩⟩
          rcases hF s hs hb with z | z
          · rw [o1] at z
            cases z
          · rw [o2] at z
            cases z
        | true =>
          right
          have c32 : clL ink s < 32 := by
            rcases lo hs with z | z
            · exact z
            · rw [z] at o2
              cases o2
          have hA : A (s + 1) = A s ||| 2 ^ clL ink s := AN_add c32 (fun l => by
            unfold fcS
            rw [o1, o2, hb]
            by_cases e : l = clL ink s
            · rw [decide_eq_true e, decide_eq_true e.symm]
              simp
            · rw [decide_eq_false e, decide_eq_false (show ¬ clL ink s = l from fun z => e z.symm)]
              simp)
          refine ⟨(), ?_, nx (fun _ => Or.inr o2)⟩
          rw [t1, if_neg n10]
          unfold bb_X10_fewestLines_67_68 bb_X10_fewestLines_67_92
          rw [if_pos rfl, if_neg n10, if_pos rfl, gd_of i64, ltv_eq, ltv_eq, nI_1, ix_nI (by omega), (hR s hs).2, mI_ne (by omega), shI_c32 _ c32, nI_or, hA]
  · intro q _ hI
    have hF : Fea sq (rwL ink) (clL ink) B := hI
    obtain ⟨v, N', e1, f1, h1⟩ := tail hF
    refine ⟨v, N', ?_, f1, Or.inr h1⟩
    show bb_X10_fewestLines_67_9 _ _ _ _ _ _ _ _ = _
    unfold bb_X10_fewestLines_67_9
    rw [if_pos (by decide), e1]
