-- ===== kin: the class lays the prints =====
def kiB (β : Bn) (w : Nat) (m : Bool) (a b : Nat) : Bool := decide (Apt (bPr β a) (bPr β b) m ≤ w) || decide (Apt (bPr β b) (bPr β a) m ≤ w)
theorem kiB_c (β : Bn) (w : Nat) (m : Bool) (a b : Nat) : kiB β w m a b = kiB β w m b a := Bool.or_comm _ _
theorem kiB_r (β : Bn) (w : Nat) (m : Bool) (a : Nat) : kiB β w m a a = true := by
  unfold kiB
  rw [Apt_self]
  simp
def LKN : List (Nat × Nat) := [(44, 5), (45, 999), (46, 999)]
def KnI (β : Bn) (n : Nat) (M a : Mm) : Prop := Fr LKN M a ∧ a.1 44 5 = nI n ∧ ∀ p, p < n → ∀ t, t < 8 → a.2 45 (8 * p + t) = tur (bPr β p) t
theorem near_44 {β : Bn} {n w a b : Nat} {m : Int32} {M N : Mm} (hn : n ≤ 8) (hw : w ≤ 64) (h : KnI β n M N) (ha : a < n) (hb : b < n) : f_X5_isNear_44 (nI a) (nI b) (nI w) m N = some (if decide (Apt (bPr β a) (bPr β b) (decide (m ≠ 0)) ≤ w) then 1 else 0) := by
  have hq := apN_le (bPr β a) (Cor (bPr β b)) (tnN m)
  have e0 : N.2 45 (8 * b) = Cor (bPr β b) := h.2.2 b hb 0 (by decide)
  unfold f_X5_isNear_44 bb_X5_isNear_44_0
  rw [show (8 : Int32) * nI b = nI (8 * b) from pk_mul 8 b, gd_of (inb_nI (by omega) (by decide)), ix_nI (by omega), e0, apartBy_45 m (by omega) (h.2.2 a ha), bd_some, apt_tn]
  by_cases q : apN (bPr β a) (Cor (bPr β b)) (tnN m) ≤ w
  · rw [if_neg (fun z => (lt_nI (by omega) (by omega)).mp z q), decide_eq_true q]
    rfl
  · rw [if_pos ((lt_nI (by omega) (by omega)).mpr q), decide_eq_false q]
    rfl
theorem kin_in {β : Bn} {n w p : Nat} {m : Int32} {M a : Mm} (k50 : Int32 → Int32 → Int32 → Mm → Option Mm) (hn : n ≤ 8) (hw : w ≤ 64) (hp : p < n) (h : KnI β n M a) (hK : ∀ q, q < p → a.1 46 q = nI (mkB (kiB β w (decide (m ≠ 0)) q) n)) : ∃ a', b_X5_lay_44_50_70 k50 FU (nI w) m (nI p) 0 (wI a 46 p 0) = k50 (nI w) m (nI (p + 1)) a' ∧ KnI β n M a' ∧ ∀ q, q < p + 1 → a'.1 46 q = nI (mkB (kiB β w (decide (m ≠ 0)) q) n) := by
  have keep : ∀ (b : Mm) (v : Int32), KnI β n M b → (∀ q, q < p → b.1 46 q = nI (mkB (kiB β w (decide (m ≠ 0)) q) n)) → KnI β n M (wI b 46 p v) ∧ ∀ q, q < p → (wI b 46 p v).1 46 q = nI (mkB (kiB β w (decide (m ≠ 0)) q) n) := by
    intro b v h1 h2
    refine ⟨⟨Fr.tr h1.1 (Fr.wIa rfl), h1.2.1, h1.2.2⟩, fun q hq => ?_⟩
    have e1 : (wI b 46 p v).1 46 q = b.1 46 q := if_neg (fun z => by omega)
    rw [e1]
    exact h2 q hq
  refine for_q (fun q i (b : Mm) => b_X5_lay_44_50_70 k50 q (nI w) m (nI p) (nI i) b) n (fun i b => (KnI β n M b ∧ ∀ q, q < p → b.1 46 q = nI (mkB (kiB β w (decide (m ≠ 0)) q) n)) ∧ b.1 46 p = nI (mkB (kiB β w (decide (m ≠ 0)) p) i)) (fun o => ∃ a', o = k50 (nI w) m (nI (p + 1)) a' ∧ KnI β n M a' ∧ ∀ q, q < p + 1 → a'.1 46 q = nI (mkB (kiB β w (decide (m ≠ 0)) q) n)) ?_ ?_ n 0 _ FU (Nat.zero_add _) (by show _ < 200000; omega) ⟨keep a 0 h hK, wI_at⟩
  · rintro q i b hi ⟨⟨h1, h2⟩, h3⟩
    right
    show ∃ a', bb_X5_lay_44_50_70 _ _ _ _ _ _ _ = _ ∧ _
    unfold bb_X5_lay_44_50_70
    have put : kiB β w (decide (m ≠ 0)) p i = true → bb_X5_lay_44_50_105 (b_X5_lay_44_50_70 k50 q) (nI w) m (nI p) (nI i) b = b_X5_lay_44_50_70 k50 q (nI w) m (nI p) (nI (i + 1)) (wI b 46 p (nI (mkB (kiB β w (decide (m ≠ 0)) p) (i + 1)))) := by
      intro ht
      unfold bb_X5_lay_44_50_105
      rw [gd_of (inb_nI (by omega) (by decide)), gd_of (inb_nI (by omega) (by decide)), ltv_eq, ltv_eq, nI_1, ix_nI (by omega), h3, shI_c i (by omega), nI_or]
      show _ = b_X5_lay_44_50_70 k50 q (nI w) m (nI p) (nI (i + 1)) (wI b 46 p (nI (if kiB β w (decide (m ≠ 0)) p i then mkB (kiB β w (decide (m ≠ 0)) p) i ||| 2 ^ i else mkB (kiB β w (decide (m ≠ 0)) p) i)))
      rw [ht]
      rfl
    obtain ⟨k1, k2⟩ := keep b (nI (mkB (kiB β w (decide (m ≠ 0)) p) (i + 1))) h1 h2
    rw [h1.2.1, if_neg (nI_ge hi (by omega)), near_44 hn hw h1 hp hi, bd_some]
    by_cases q1 : Apt (bPr β p) (bPr β i) (decide (m ≠ 0)) ≤ w
    · have ht : kiB β w (decide (m ≠ 0)) p i = true := by unfold kiB; rw [decide_eq_true q1]; rfl
      refine ⟨_, ?_, ⟨k1, k2⟩, wI_at⟩
      rw [decide_eq_true q1, if_pos rfl, if_neg (by decide), put ht]
    · rw [decide_eq_false q1, if_pos (by decide), near_44 hn hw h1 hi hp, bd_some]
      by_cases q2 : Apt (bPr β i) (bPr β p) (decide (m ≠ 0)) ≤ w
      · have ht : kiB β w (decide (m ≠ 0)) p i = true := by unfold kiB; rw [decide_eq_true q2, Bool.or_true]
        refine ⟨_, ?_, ⟨k1, k2⟩, wI_at⟩
        rw [decide_eq_true q2, if_pos rfl, if_neg (by decide), put ht]
      · have ht : kiB β w (decide (m ≠ 0)) p i = false := by unfold kiB; rw [decide_eq_false q1, decide_eq_false q2]; rfl
        refine ⟨b, ?_, ⟨h1, h2⟩, ?_⟩
        · rw [decide_eq_false q2, if_pos (by decide), ltv_eq, nI_1]
        · rw [h3]
          show _ = nI (if kiB β w (decide (m ≠ 0)) p i then mkB (kiB β w (decide (m ≠ 0)) p) i ||| 2 ^ i else mkB (kiB β w (decide (m ≠ 0)) p) i)
          rw [ht]
          rfl
  · rintro q b ⟨⟨h1, h2⟩, h3⟩
    show ∃ a', bb_X5_lay_44_50_70 _ _ _ _ _ _ _ = _ ∧ _
    unfold bb_X5_lay_44_50_70
    rw [h1.2.1, if_pos (nI_le (Nat.le_refl _) (by omega)), ltv_eq, nI_1]
    refine ⟨b, rfl, h1, fun q hq => ?_⟩
    by_cases e : q = p
    · rw [e]
      exact h3
    · exact h2 q (by omega)
theorem layk_c {σ : Sg} {β : Bn} {w : Nat} {M : Mm} (m : Int32) (gB : GoodB σ β) (hb : BC0 β 50 M) (hw : w ≤ 64) : ∃ M', f_X5_lay_44_50 (nI w) m M = some M' ∧ KnI β (bN β) M M' ∧ ∀ q, q < bN β → M'.1 46 q = nI (mkB (kiB β w (decide (m ≠ 0)) q) (bN β)) := by
  have hn : bN β ≤ 8 := gB.2.2.2.2.1
  have h50 : M.1 50 7 = nI (bN β) := hb.2.2.2.2.1
  have h53 : ∀ k, k < bN β → M.2 53 k = bPr β k := hb.2.2.2.2.2
  unfold f_X5_lay_44_50 bb_X5_lay_44_50_0
  rw [ltv_eq, h50, if_neg (show ¬ (8 : Int32) < nI (bN β) from nI_nlt (a := 8) (by omega) (by decide))]
  have lp2 : ∀ b : Mm, KnI β (bN β) M b → ∃ M', b_X5_lay_44_50_50 FU (nI w) m 0 b = some M' ∧ KnI β (bN β) M M' ∧ ∀ q, q < bN β → M'.1 46 q = nI (mkB (kiB β w (decide (m ≠ 0)) q) (bN β)) := by
    intro b hbI
    refine for_q (fun q i (b : Mm) => b_X5_lay_44_50_50 q (nI w) m (nI i) b) (bN β) (fun i b => KnI β (bN β) M b ∧ ∀ q, q < i → b.1 46 q = nI (mkB (kiB β w (decide (m ≠ 0)) q) (bN β))) (fun o => ∃ M', o = some M' ∧ KnI β (bN β) M M' ∧ ∀ q, q < bN β → M'.1 46 q = nI (mkB (kiB β w (decide (m ≠ 0)) q) (bN β))) ?_ ?_ (bN β) 0 b FU (Nat.zero_add _) (by show _ < 200000; omega) ⟨hbI, fun q hq => absurd hq (Nat.not_lt_zero _)⟩
    · rintro q i b hi ⟨h1, h2⟩
      right
      obtain ⟨a', e1, e2⟩ := kin_in (b_X5_lay_44_50_50 q) hn hw hi h1 h2
      refine ⟨a', ?_, e2⟩
      show bb_X5_lay_44_50_50 _ _ _ _ _ = _
      unfold bb_X5_lay_44_50_50
      rw [h1.2.1, if_neg (nI_ge hi (by omega)), gd_of (inb_nI (by omega) (by decide)), ltv_eq, ix_nI (by omega), e1]
    · rintro q b ⟨h1, h2⟩
      show ∃ M', bb_X5_lay_44_50_50 _ _ _ _ _ = _ ∧ _
      unfold bb_X5_lay_44_50_50
      rw [h1.2.1, if_pos (nI_le (Nat.le_refl _) (by omega))]
      exact ⟨b, rfl, h1, h2⟩
  refine for_q (fun q i (b : Mm) => b_X5_lay_44_50_16 q (nI w) m (nI i) b) (bN β) (fun i b => Fr LKN M b ∧ b.1 44 5 = nI (bN β) ∧ ∀ p, p < i → ∀ t, t < 8 → b.2 45 (8 * p + t) = tur (bPr β p) t) (fun o => ∃ M', o = some M' ∧ KnI β (bN β) M M' ∧ ∀ q, q < bN β → M'.1 46 q = nI (mkB (kiB β w (decide (m ≠ 0)) q) (bN β))) ?_ ?_ (bN β) 0 _ FU (Nat.zero_add _) (by show _ < 200000; omega) ⟨Fr.wrI rfl, wI_at, fun q hq => absurd hq (Nat.not_lt_zero _)⟩
  · rintro q i b hi ⟨h1, h2, h3⟩
    right
    obtain ⟨b', e1, f1, t1, t2⟩ := turnsInto_45 (M := b) (h := i) (bPr β i) (by omega)
    refine ⟨b', ?_, Fr.tr h1 (Fr.sub f1 (by decide)), (f1 44 5 rfl).1.trans h2, fun p hp t ht => ?_⟩
    · show bb_X5_lay_44_50_16 _ _ _ _ _ = _
      unfold bb_X5_lay_44_50_16
      rw [h2, if_neg (nI_ge hi (by omega)), gd_of (inb_nI (by omega) (by decide)), ix_nI (by omega), (h1 53 i rfl).2, h53 i hi, e1, bd_some, ltv_eq, nI_1]
    · by_cases e : p = i
      · rw [e]
        exact t1 t ht
      · rw [t2 _ (by omega)]
        exact h3 p (by omega) t ht
  · rintro q b ⟨h1, h2, h3⟩
    show ∃ M', bb_X5_lay_44_50_16 _ _ _ _ _ = _ ∧ _
    unfold bb_X5_lay_44_50_16
    rw [h2, if_pos (nI_le (Nat.le_refl _) (by omega))]
    exact lp2 b ⟨h1, h2, h3⟩
theorem kin_m {σ : Sg} {β : Bn} {w a b : Nat} {N : Mm} (m : Int32) (gB : GoodB σ β) (hb : BM0 β N) (hw : w ≤ 64) (ha : a < bN β) (hb' : b < bN β) : f_X10_areKin_67 (nI a) (nI b) (nI w) m N = some (if kiB β w (decide (m ≠ 0)) a b then 1 else 0) := by
  have hn : bN β ≤ 8 := gB.2.2.2.2.1
  have q1 := apN_le (bPr β a) (Cor (bPr β b)) (if decide (m ≠ 0) then 8 else 4)
  have q2 := apN_le (bPr β b) (Cor (bPr β a)) (if decide (m ≠ 0) then 8 else 4)
  have p1 : N.2 94 a = bPr β a := hb.2.2.2.2.2 a ha
  have p2 : N.2 94 b = bPr β b := hb.2.2.2.2.2 b hb'
  unfold f_X10_areKin_67 bb_X10_areKin_67_0 kiB
  rw [gd_of (inb_nI (by omega) (by decide)), gd_of (inb_nI (by omega) (by decide)), ix_nI (show a < 2 ^ 31 by omega), ix_nI (show b < 2 ^ 31 by omega), p1, p2, apart_m, bd_some]
  by_cases c1 : Apt (bPr β a) (bPr β b) (decide (m ≠ 0)) ≤ w
  · rw [if_pos (nI_le c1 (by omega)), decide_eq_true c1]
    rfl
  · rw [if_neg (nI_ge (by omega) (by unfold Apt; omega)), gd_of (inb_nI (by omega) (by decide)), gd_of (inb_nI (by omega) (by decide)), apart_m, bd_some, decide_eq_false c1, Bool.false_or]
    by_cases c2 : Apt (bPr β b) (bPr β a) (decide (m ≠ 0)) ≤ w
    · rw [if_neg (fun z => (lt_nI (by omega) (by unfold Apt; omega)).mp z c2), decide_eq_true c2]
      rfl
    · rw [if_pos ((lt_nI (by omega) (by unfold Apt; omega)).mpr c2), decide_eq_false c2]
      rfl
/-- an answer that is a boolean -/
def AnsZ (cl : Option (Int32 × Mm)) (md : Mm → Option (Int32 × Mm)) : Prop := ∃ v M1 w M2, cl = some (v, M1) ∧ md M1 = some (w, M2) ∧ M2.1 67 0 = v ∧ (v = 0 → (w = 0 ∨ w = 1) ∧ M2.2 120 0 = w.toInt64) ∧ Rel M2
theorem needP_t {M : Mm} {k n : Nat} (hM : M.1 50 7 = nI n) (h : k < n) (hn : n < 2 ^ 31) : f_X9_needPrint_0 (nI k) M = some () ∧ t_X9_needPrint_0 (nI k) M = none := by
  constructor
  · show (if nI k < 0 then none else (if nI k < M.1 50 7 then some () else none)) = _
    rw [if_neg (nI_pos (by omega)), hM, if_pos (nI_lt h hn)]
  · show (if nI k < 0 then some 3 else (if nI k < M.1 50 7 then none else some 3)) = _
    rw [if_neg (nI_pos (by omega)), hM, if_pos (nI_lt h hn)]
theorem needP_f {M : Mm} {x : Int32} {n : Nat} (hM : M.1 50 7 = nI n) (h : x < 0 ∨ nI n ≤ x) : t_X9_needPrint_0 x M = some 3 := by
  show (if x < 0 then some 3 else (if x < M.1 50 7 then none else some 3)) = _
  by_cases h0 : x < 0
  · rw [if_pos h0]
  · rw [if_neg h0, hM, if_neg (nle_lt' h h0)]
theorem c_kin {M : Mm} (x y z m : Int32) (h : Rel M) : AnsZ (fw_L_kin_0_120 x y z m M) (f_X10_kin_67 x y z m) := by
  obtain ⟨σ, β, hR⟩ := id h
  obtain ⟨g, gB, hC, hM, hb, hm, hT, hI⟩ := id hR
  have hn : bN β ≤ 8 := gB.2.2.2.2.1
  have hn' : bN β < 2 ^ 31 := by omega
  have b7 : M.1 50 7 = nI (bN β) := (show BC0 β 50 M from hb).2.2.2.2.1
  have m26 : M.1 67 26 = nI (bN β) := (show BM0 β M from hm).2.2.2.2.1
  have w26 : (wI M 67 0 0).1 67 26 = nI (bN β) := m26
  have bad34 : bb_X10_kin_67_34 x y z m (wI M 67 0 0) = some (0, wI (wI M 67 0 0) 67 0 1) := by
    simp only [bb_X10_kin_67_34, bb_X10_kin_67_39, bad1 (M := wI M 67 0 0) (k := 1) rfl (by decide), bd2_some, i10, if_false]
  have thr : ∀ (c : Int32), c ≠ 0 → fw_L_kin_0_120 x y z m M = some (c, M) → f_X10_kin_67 x y z m M = some (0, wI (wI M 67 0 0) 67 0 c) → AnsZ (fw_L_kin_0_120 x y z m M) (f_X10_kin_67 x y z m) := by
    intro c hc e1 e2
    exact ⟨c, M, 0, _, e1, e2, wI_at, fun q => absurd q hc, h.fr (Fr.two (L := [(67, 0)]) rfl) d67⟩
  rcases idx x (n := bN β) hn' with ⟨a, ha, rfl⟩ | ⟨ho, hi⟩
  · obtain ⟨n1, n2⟩ := needP_t b7 ha hn'
    rcases idx y (n := bN β) hn' with ⟨b, hb', rfl⟩ | ⟨ho, hi⟩
    · obtain ⟨m1, m2⟩ := needP_t b7 hb' hn'
      cases hz : inI z 0 64 with
      | false =>
        refine thr 2 (by decide) ?_ ?_
        · simp only [fw_L_kin_0_120, t_X9_kin_0, n1, n2, m1, m2, bd_some, t_needR_f hz, orx]
        · simp only [f_X10_kin_67, bb_X10_kin_67_0, ltv_eq, w26, f_inI, inI_lt ha hn', inI_lt hb' hn', bd_some, if_true, i10, if_false, bb_X10_kin_67_39, bad0 (M := wI M 67 0 0) rfl, bd2_some, hz, Bool.false_eq_true, bb_X10_kin_67_62, bad1 (M := wI M 67 0 0) (k := 2) rfl (by decide)]
      | true =>
        obtain ⟨w, rfl, hw⟩ := inI_64 hz
        obtain ⟨M1, e1, k1, k2⟩ := layk_c (M := M) m gB hb hw
        have hR1 : Rl σ β M1 := hR.fr k1.1 (by decide)
        have ht : ∀ q : Bool, isB (if q then 1 else 0) = true := fun q => by cases q <;> rfl
        have cl : f_X9_kin_0 (nI a) (nI b) (nI w) m M = some (if kiB β w (decide (m ≠ 0)) a b then 1 else 0, M1) := by
          have hlt : mkB (kiB β w (decide (m ≠ 0)) a) (bN β) < 2 ^ 31 := Nat.lt_of_lt_of_le (mkB_lt _ _) (Nat.pow_le_pow_right (by decide) (by omega))
          have ka : f_X5_areKin_44 (nI a) (nI b) M1 = some (if kiB β w (decide (m ≠ 0)) a b then 1 else 0) := by
            unfold f_X5_areKin_44 bb_X5_areKin_44_0
            rw [if_neg (nI_pos (by omega)), k1.2.1, if_neg (nI_ge ha hn'), gd_of (inb_nI (by omega) (by decide)), ix_nI (by omega), k2 a ha]
            have hbt := bitT (k := b) hlt (by omega)
            rw [mkB_bit, decide_eq_true hb', Bool.true_and] at hbt
            cases hk : kiB β w (decide (m ≠ 0)) a b with
            | false =>
              rw [if_pos (hbt.mpr hk)]
              rfl
            | true =>
              rw [if_neg (fun q => by rw [hbt.mp q] at hk; cases hk)]
              rfl
          unfold f_X9_kin_0 bb_X9_kin_0_0
          rw [n1, bd_some, m1, bd_some, f_needR hz, bd_some, e1, bd_some, ka, bd_some, gd_of (ht _)]
        refine ⟨0, wJ M1 120 0 (if kiB β w (decide (m ≠ 0)) a b then 1 else 0), if kiB β w (decide (m ≠ 0)) a b then 1 else 0, wI (wJ M1 120 0 (if kiB β w (decide (m ≠ 0)) a b then 1 else 0)) 67 0 0, ?_, ?_, wI_at, fun _ => ⟨?_, ?_⟩, ⟨σ, β, hR1.fr fr_out d120⟩⟩
        · simp only [fw_L_kin_0_120, t_X9_kin_0, n1, n2, m1, m2, bd_some, t_needR_t hz, orx, f_L_kin_0_120, bb_L_kin_0_120_0, cl, bd2_some, ltv_eq]
          cases kiB β w (decide (m ≠ 0)) a b <;> rfl
        · obtain ⟨_, hm'⟩ := hR1.md (if kiB β w (decide (m ≠ 0)) a b then 1 else 0)
          generalize hN : wI (wJ M1 120 0 (if kiB β w (decide (m ≠ 0)) a b then 1 else 0)) 67 0 0 = N at hm' ⊢
          have N0 : N.1 67 0 = 0 := by rw [← hN]; rfl
          have N26 : N.1 67 26 = nI (bN β) := (show BM0 β N from hm').2.2.2.2.1
          simp only [f_X10_kin_67, bb_X10_kin_67_0, ltv_eq, hN, N26, f_inI, inI_lt ha hn', inI_lt hb' hn', bd_some, if_true, i10, if_false, bb_X10_kin_67_39, bad0 N0, bd2_some, hz, bb_X10_kin_67_62, kin_m (N := N) m gB hm' hw ha hb', gd_of (ht _)]
        · cases kiB β w (decide (m ≠ 0)) a b
          · exact Or.inl rfl
          · exact Or.inr rfl
        · cases kiB β w (decide (m ≠ 0)) a b <;> rfl
    · refine thr 1 (by decide) ?_ ?_
      · simp only [fw_L_kin_0_120, t_X9_kin_0, n1, n2, bd_some, needP_f b7 ho, orx]
      · simp only [f_X10_kin_67, bb_X10_kin_67_0, ltv_eq, w26, f_inI, inI_lt ha hn', hi, bd_some, if_true, i10, if_false, Bool.false_eq_true, bad34]
  · refine thr 1 (by decide) ?_ ?_
    · simp only [fw_L_kin_0_120, t_X9_kin_0, needP_f b7 ho, orx]
    · simp only [f_X10_kin_67, bb_X10_kin_67_0, ltv_eq, w26, f_inI, hi, bd_some, if_true, i10, if_false, Bool.false_eq_true, bad34]
