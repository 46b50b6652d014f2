-- ===== the class lays who serves whom =====
def LSV : List (Nat × Nat) := [(27, 999), (28, 999)]
def SvI (σ : Sg) (t : Nat) (m : Bool) (M : Mm) (k : Nat) (a : Mm) : Prop := Fr LSV M a ∧ ∀ h, h < k → a.1 27 h = nI (SvN σ t m h) ∧ a.1 28 h = nI (orN (SvN σ t m) (h + 1))
theorem lt_nI {a b : Nat} (ha : a < 2 ^ 31) (hb : b < 2 ^ 31) : nI a < nI b ↔ ¬ b ≤ a := by
  rw [nI_ltI ha hb]
  omega
theorem layS_in {M a : Mm} {σ : Sg} {t k : Nat} {m : Int32} (k5 : Int32 → Int32 → Int32 → Int32 → Mm → Option Mm) (g : Good σ) (hC : C2 σ M) (ht : t ≤ 64) (hk : k < sH σ) (hI : SvI σ t (decide (m ≠ 0)) M k a) : ∃ a', b_X1_layServing_24_25 k5 FU (nI t) m (nI (orN (SvN σ t (decide (m ≠ 0))) k)) (nI k) 0 (wI a 27 k 0) = k5 (nI t) m (nI (orN (SvN σ t (decide (m ≠ 0))) (k + 1))) (nI (k + 1)) a' ∧ SvI σ t (decide (m ≠ 0)) M (k + 1) a' := by
  have hH := g.2.2.2.2.1
  refine for_q (fun n i (b : Mm) => b_X1_layServing_24_25 k5 n (nI t) m (nI (orN (SvN σ t (decide (m ≠ 0))) k)) (nI k) (nI i) b) (sH σ) (fun i b => SvI σ t (decide (m ≠ 0)) M k b ∧ b.1 27 k = nI (mkB (fun o => decide (Apt (sHol σ k) (sHol σ o) (decide (m ≠ 0)) ≤ t)) i)) (fun o => ∃ a', o = k5 (nI t) m (nI (orN (SvN σ t (decide (m ≠ 0))) (k + 1))) (nI (k + 1)) a' ∧ SvI σ t (decide (m ≠ 0)) M (k + 1) a') ?_ ?_ (sH σ) 0 (wI a 27 k 0) FU (Nat.zero_add _) (by show _ < 200000; omega) ?_
  · rintro n i b hi ⟨hb, hv⟩
    right
    have c2 : C2 σ b := hC.fr hb.1 (by decide)
    have c24 : b.1 24 5 = nI (sH σ) := (show C20 σ b from c2).1
    have ha := apN_le (sHol σ k) (Cor (sHol σ i)) (if decide (m ≠ 0) then 8 else 4)
    show ∃ a', bb_X1_layServing_24_25 _ _ _ _ _ _ _ _ = _ ∧ _
    unfold bb_X1_layServing_24_25
    rw [c24, if_neg (nI_ge hi (by omega)), apart_c m g c2 hk hi, bd_some]
    by_cases q : Apt (sHol σ k) (sHol σ i) (decide (m ≠ 0)) ≤ t
    · refine ⟨wI b 27 k (nI (mkB (fun o => decide (Apt (sHol σ k) (sHol σ o) (decide (m ≠ 0)) ≤ t)) (i + 1))), ?_, ⟨Fr.tr hb.1 (Fr.wIa rfl), fun h hh => ?_⟩, wI_at⟩
      · rw [if_neg (fun z => (lt_nI (by omega) (by unfold Apt; omega)).mp z q), gd_of (inb_nI (by omega) (by decide)), gd_of (inb_nI (by omega) (by decide)), ltv_eq, ltv_eq, nI_1, ix_nI (by omega), hv, shI_c i (by omega), nI_or, mkB_t (P := fun o => decide (Apt (sHol σ k) (sHol σ o) (decide (m ≠ 0)) ≤ t)) (decide_eq_true q)]
      · obtain ⟨h1, h2⟩ := hb.2 h hh
        have e1 : ∀ v, (wI b 27 k v).1 27 h = b.1 27 h := fun v => if_neg (fun q => by omega)
        rw [e1]
        exact ⟨h1, h2⟩
    · refine ⟨b, ?_, hb, ?_⟩
      · rw [if_pos ((lt_nI (by omega) (by unfold Apt; omega)).mpr q), ltv_eq, nI_1]
      · rw [hv, mkB_f (P := fun o => decide (Apt (sHol σ k) (sHol σ o) (decide (m ≠ 0)) ≤ t)) (decide_eq_false q)]
  · rintro n b ⟨hb, hv⟩
    have c24 : b.1 24 5 = nI (sH σ) := (show C20 σ b from hC.fr hb.1 (by decide)).1
    have hv' : b.1 27 k = nI (SvN σ t (decide (m ≠ 0)) k) := hv
    show ∃ a', bb_X1_layServing_24_25 _ _ _ _ _ _ _ _ = _ ∧ _
    unfold bb_X1_layServing_24_25
    refine ⟨wI b 28 k (nI (orN (SvN σ t (decide (m ≠ 0))) (k + 1))), ?_, Fr.tr hb.1 (Fr.wIa rfl), ?_⟩
    · rw [c24, if_pos (nI_le (Nat.le_refl _) (by omega)), gd_of (inb_nI (by omega) (by decide)), ltv_eq, gd_of (inb_nI (by omega) (by decide)), ltv_eq, ltv_eq, nI_1, ix_nI (by omega), hv', nI_or]
      rfl
    · intro h hh
      by_cases e : h = k
      · subst e
        exact ⟨hv', wI_at⟩
      · obtain ⟨h1, h2⟩ := hb.2 h (by omega)
        have e1 : ∀ v, (wI b 28 k v).1 28 h = b.1 28 h := fun v => if_neg (fun q => by omega)
        rw [e1]
        exact ⟨h1, h2⟩
  · refine ⟨⟨Fr.tr hI.1 (Fr.wIa rfl), fun h hh => ?_⟩, wI_at⟩
    obtain ⟨h1, h2⟩ := hI.2 h hh
    have e1 : ∀ v, (wI a 27 k v).1 27 h = a.1 27 h := fun v => if_neg (fun q => by omega)
    rw [e1]
    exact ⟨h1, h2⟩
theorem layS_c {M : Mm} {σ : Sg} {t : Nat} (m : Int32) (g : Good σ) (hC : C2 σ M) (ht : t ≤ 64) : ∃ M', f_X1_layServing_24 (nI t) m M = some M' ∧ SvI σ t (decide (m ≠ 0)) M (sH σ) M' := by
  have hH := g.2.2.2.2.1
  refine for_q (fun n k (b : Mm) => b_X1_layServing_24_5 n (nI t) m (nI (orN (SvN σ t (decide (m ≠ 0))) k)) (nI k) b) (sH σ) (fun k b => SvI σ t (decide (m ≠ 0)) M k b) (fun o => ∃ M', o = some M' ∧ SvI σ t (decide (m ≠ 0)) M (sH σ) M') ?_ ?_ (sH σ) 0 M FU (Nat.zero_add _) (by show _ < 200000; omega) ⟨Fr.refl, fun h hh => absurd hh (Nat.not_lt_zero _)⟩
  · intro n k b hk hI
    right
    have c24 : b.1 24 5 = nI (sH σ) := (show C20 σ b from hC.fr hI.1 (by decide)).1
    obtain ⟨a', e1, e2⟩ := layS_in (b_X1_layServing_24_5 n) g hC ht hk hI
    refine ⟨a', ?_, e2⟩
    show bb_X1_layServing_24_5 _ _ _ _ _ _ = _
    unfold bb_X1_layServing_24_5
    rw [c24, if_neg (nI_ge hk (by omega)), gd_of (inb_nI (by omega) (by decide)), ltv_eq, ix_nI (by omega), e1]
  · intro n b hI
    have c24 : b.1 24 5 = nI (sH σ) := (show C20 σ b from hC.fr hI.1 (by decide)).1
    show ∃ M', bb_X1_layServing_24_5 _ _ _ _ _ _ = _ ∧ _
    unfold bb_X1_layServing_24_5
    rw [c24, if_pos (nI_le (Nat.le_refl _) (by omega))]
    exact ⟨b, rfl, hI⟩
theorem C3_set0 {M : Mm} {σ : Sg} {t S : Nat} (h : C30 σ M) (hS : IsPun σ t false S) : C30 σ (wI M 29 (2 * t) (nI S)) := by
  intro t' ht'
  refine ⟨?_, ?_⟩
  · by_cases e : t' = t
    · subst e
      exact Or.inr ⟨S, hS, wI_at⟩
    · have : (wI M 29 (2 * t) (nI S)).1 29 (2 * t') = M.1 29 (2 * t') := if_neg (fun q => by omega)
      rw [this]
      exact (h t' ht').1
  · have : (wI M 29 (2 * t) (nI S)).1 29 (2 * t' + 1) = M.1 29 (2 * t' + 1) := if_neg (fun q => by omega)
    rw [this]
    exact (h t' ht').2
theorem C3_set1 {M : Mm} {σ : Sg} {t S : Nat} (h : C30 σ M) (hS : IsPun σ t true S) : C30 σ (wI M 29 (2 * t + 1) (nI S)) := by
  intro t' ht'
  refine ⟨?_, ?_⟩
  · have : (wI M 29 (2 * t + 1) (nI S)).1 29 (2 * t') = M.1 29 (2 * t') := if_neg (fun q => by omega)
    rw [this]
    exact (h t' ht').1
  · by_cases e : t' = t
    · subst e
      exact Or.inr ⟨S, hS, wI_at⟩
    · have : (wI M 29 (2 * t + 1) (nI S)).1 29 (2 * t' + 1) = M.1 29 (2 * t' + 1) := if_neg (fun q => by omega)
      rw [this]
      exact (h t' ht').2
def LLS : List (Nat × Nat) := [(27, 999), (28, 999), (29, 999)]
theorem IsPun.lt {σ : Sg} {t : Nat} {m : Bool} {S : Nat} (g : Good σ) (h : IsPun σ t m S) : S < 2 ^ 16 := Nat.lt_of_lt_of_le h.1 (Nat.pow_le_pow_right (by decide) g.2.2.2.2.1)
theorem least_c {M : Mm} {σ : Sg} {t : Nat} (m : Int32) (g : Good σ) (hC : C2 σ M) (h3 : C3 σ M) (ht : t ≤ 64) : ∃ M1 S, f_X1_leastSet_24 (nI t) m M = some (nI S, M1) ∧ IsPun σ t (decide (m ≠ 0)) S ∧ Fr LLS M M1 ∧ C3 σ M1 := by
  have hH := g.2.2.2.2.1
  have key : ∀ (x : Int32) (j : Nat), (nI (2 * t) + x = nI j) → j < 130 → (M.1 29 j = -2 ∨ ∃ S, IsPun σ t (decide (m ≠ 0)) S ∧ M.1 29 j = nI S) → (∀ M' S, C30 σ M' → IsPun σ t (decide (m ≠ 0)) S → C30 σ (wI M' 29 j (nI S))) → ∃ M1 S, bb_X1_leastSet_24_12 (nI t) m (nI (2 * t)) x M = some (nI S, M1) ∧ IsPun σ t (decide (m ≠ 0)) S ∧ Fr LLS M M1 ∧ C3 σ M1 := by
    intro x j hj hj2 hk hset
    unfold bb_X1_leastSet_24_12
    rw [ltv_eq, hj, if_neg (nI_pos (by omega)), if_pos (show nI j < (130 : Int32) from nI_lt (b := 130) hj2 (by decide)), gd_of (inb_nI hj2 (by decide)), ix_nI (by omega)]
    rcases hk with hk | ⟨S, hS, hk⟩
    · obtain ⟨M', e1, i1, i2⟩ := layS_c m g hC ht
      obtain ⟨v, e2, S, hS, rfl⟩ := findLeast_ok (M := M') (t := t) (m := decide (m ≠ 0)) hH (show C20 σ M' from hC.fr i1 (by decide)).1 (fun h hh => (i2 h hh).1) (fun h hh => (i2 h hh).2)
      refine ⟨wI M' 29 j (nI S), S, ?_, hS, Fr.tr (Fr.sub i1 (by decide)) (Fr.wIa rfl), hset M' S (h3.fr i1 (by decide)) hS⟩
      rw [if_pos hk, e1, bd_some, e2, bd_some, gd_of (inb_nI hj2 (by decide)), ltv_eq, gd_of (inb_nI hj2 (by decide)), wI_at]
    · have := hS.lt g
      refine ⟨M, S, ?_, hS, Fr.refl, h3⟩
      rw [hk, if_neg, gd_of (inb_nI hj2 (by decide))]
      intro q
      have := congrArg Int32.toInt q
      rw [nI_toInt (by omega), show (-2 : Int32).toInt = -2 from rfl] at this
      omega
  unfold f_X1_leastSet_24 bb_X1_leastSet_24_0
  rw [show (2 : Int32) * nI t = nI (2 * t) from pk_mul 2 t]
  obtain ⟨c0, c1⟩ := (show C30 σ M from h3) t ht
  by_cases hm : m = 0
  · subst hm
    rw [if_pos rfl]
    exact key 0 (2 * t) (nI_add (2 * t) 0) (by omega) c0 (fun M' S h hS => C3_set0 h hS)
  · rw [if_neg hm]
    have e : decide (m ≠ 0) = true := decide_eq_true hm
    rw [e] at key ⊢
    exact key 1 (2 * t + 1) (nI_add (2 * t) 1) (by omega) c1 (fun M' S h hS => C3_set1 h hS)
def srvB (σ : Sg) (t : Nat) (m : Bool) (S o h : Nat) : Bool := S.testBit h && decide (Apt (sHol σ h) (sHol σ o) m ≤ t)
theorem server_c {M : Mm} {σ : Sg} {t o : Nat} (m : Int32) (g : Good σ) (hC : C2 σ M) (h3 : C3 σ M) (ht : t ≤ 64) (ho : o < sH σ) : ∃ M1 S v, f_X1_serverOf_24 (nI o) (nI t) m M = some (v, M1) ∧ IsPun σ t (decide (m ≠ 0)) S ∧ IsFst (srvB σ t (decide (m ≠ 0)) S o) (sH σ) v ∧ Fr LLS M M1 ∧ C3 σ M1 := by
  have hH := g.2.2.2.2.1
  obtain ⟨M1, S, e1, hS, f1, c3⟩ := least_c m g hC h3 ht
  have c2 : C2 σ M1 := hC.fr f1 (by decide)
  have c24 : M1.1 24 5 = nI (sH σ) := (show C20 σ M1 from c2).1
  have hS16 := hS.lt g
  have key : ∃ v, b_X1_serverOf_24_11 FU (nI o) (nI t) m (nI S) 0 M1 = some (v, M1) ∧ IsFst (srvB σ t (decide (m ≠ 0)) S o) (sH σ) v := by
    refine for_q (fun n i (_ : Unit) => b_X1_serverOf_24_11 n (nI o) (nI t) m (nI S) (nI i) M1) (sH σ) (fun i _ => ∀ h, h < i → srvB σ t (decide (m ≠ 0)) S o h = false) (fun q => ∃ v, q = some (v, M1) ∧ IsFst (srvB σ t (decide (m ≠ 0)) S o) (sH σ) v) ?_ ?_ (sH σ) 0 () FU (Nat.zero_add _) (by show _ < 200000; omega) (fun h hh => absurd hh (Nat.not_lt_zero _))
    · intro n i _ hi hI
      have ha := apN_le (sHol σ i) (Cor (sHol σ o)) (if decide (m ≠ 0) then 8 else 4)
      show (∃ v, bb_X1_serverOf_24_11 _ _ _ _ _ _ _ = _ ∧ _) ∨ ∃ a', bb_X1_serverOf_24_11 _ _ _ _ _ _ _ = _ ∧ _
      unfold bb_X1_serverOf_24_11
      rw [c24, if_neg (nI_ge hi (by omega))]
      cases hb : S.testBit i with
      | false =>
        right
        refine ⟨(), ?_, fun h hh => ?_⟩
        · rw [if_pos ((bitT (by omega) (by omega)).mpr hb), ltv_eq, nI_1]
        · by_cases e : h = i
          · subst e
            unfold srvB
            rw [hb]
            rfl
          · exact hI h (by omega)
      | true =>
        have nb : ¬ (nI S &&& shI 1 (nI i)) = 0 := fun q => by
          rw [(bitT (by omega) (by omega)).mp q] at hb
          cases hb
        rw [if_neg nb, apart_c m g c2 hi ho, bd_some]
        by_cases q : Apt (sHol σ i) (sHol σ o) (decide (m ≠ 0)) ≤ t
        · left
          rw [if_neg (fun z => (lt_nI (by omega) (by unfold Apt; omega)).mp z q)]
          refine ⟨_, rfl, Or.inr ⟨i, hi, ?_, hI, rfl⟩⟩
          unfold srvB
          rw [hb, decide_eq_true q]
          rfl
        · right
          refine ⟨(), ?_, fun h hh => ?_⟩
          · rw [if_pos ((lt_nI (by omega) (by unfold Apt; omega)).mpr q), ltv_eq, nI_1]
          · by_cases e : h = i
            · subst e
              unfold srvB
              rw [decide_eq_false q, Bool.and_false]
            · exact hI h (by omega)
    · intro n _ hI
      show ∃ v, bb_X1_serverOf_24_11 _ _ _ _ _ _ _ = _ ∧ _
      unfold bb_X1_serverOf_24_11
      rw [c24, if_pos (nI_le (Nat.le_refl _) (by omega))]
      exact ⟨-1, rfl, Or.inl ⟨rfl, hI⟩⟩
  obtain ⟨v, e2, hv⟩ := key
  refine ⟨M1, S, v, ?_, hS, hv, f1, c3⟩
  unfold f_X1_serverOf_24 bb_X1_serverOf_24_0
  rw [e1, bd2_some, e2]
-- ===== the least set: the model's way =====
def SrN (σ : Sg) (t : Nat) (m : Bool) (o : Nat) : Nat := mkB (fun h => decide (Apt (sHol σ h) (sHol σ o) m ≤ t)) (sH σ)
theorem SrN_bit {σ : Sg} {t : Nat} {m : Bool} {h o : Nat} : (SrN σ t m o).testBit h = true ↔ h < sH σ ∧ Apt (sHol σ h) (sHol σ o) m ≤ t := by
  unfold SrN
  rw [mkB_bit, Bool.and_eq_true, decide_eq_true_eq, decide_eq_true_eq]
theorem SrN_lt {σ : Sg} {t : Nat} {m : Bool} {o : Nat} (g : Good σ) : SrN σ t m o < 2 ^ 16 := Nat.lt_of_lt_of_le (mkB_lt _ _) (Nat.pow_le_pow_right (by decide) g.2.2.2.2.1)
theorem Srv_iff {σ : Sg} {t : Nat} {m : Bool} {S : Nat} : Srv σ t m S ↔ ∀ o, o < sH σ → ¬ SrN σ t m o &&& S = 0 := by
  constructor
  · intro h o ho q
    obtain ⟨k, k1, k2, k3⟩ := h o ho
    have := congrArg (fun z => Nat.testBit z k) q
    simp only [Nat.testBit_and, Nat.zero_testBit, SrN_bit.mpr ⟨k1, k3⟩, k2] at this
    cases this
  · intro h o ho
    obtain ⟨k, hk⟩ := bit_ex (h o ho)
    rw [Nat.testBit_and, Bool.and_eq_true] at hk
    obtain ⟨k1, k2⟩ := SrN_bit.mp hk.1
    exact ⟨k, k1, hk.2, k2⟩
def SrI (σ : Sg) (t : Nat) (m : Bool) (N : Mm) (k : Nat) (a : Mm) : Prop := Fr [(108, 999)] N a ∧ ∀ o, o < k → a.1 108 o = nI (SrN σ t m o)
theorem srN_self {σ : Sg} {t : Nat} {m : Bool} {o : Nat} (ho : o < sH σ) : 2 ^ o ||| SrN σ t m o = SrN σ t m o := by
  apply Nat.eq_of_testBit_eq
  intro i
  rw [Nat.testBit_or, Nat.testBit_two_pow]
  by_cases e : o = i
  · subst e
    rw [SrN_bit.mpr ⟨ho, by rw [Apt_self]; omega⟩, Bool.or_true]
  · simp [e]
theorem srv_in {N a : Mm} {σ : Sg} {t o : Nat} {m : Int32} (k2 : Int32 → Int32 → Int32 → Mm → Option (Int32 × Mm)) (g : Good σ) (hM : SM σ N) (ht : t ≤ 64) (ho : o < sH σ) (hI : SrI σ t (decide (m ≠ 0)) N o a) : ∃ a', b_X10_findSet_67_22 k2 FU (nI t) m (nI o) 0 (wI a 108 o (nI (2 ^ o))) = k2 (nI t) m (nI (o + 1)) a' ∧ SrI σ t (decide (m ≠ 0)) N (o + 1) a' := by
  have hH := g.2.2.2.2.1
  refine for_q (fun n i (b : Mm) => b_X10_findSet_67_22 k2 n (nI t) m (nI o) (nI i) b) (sH σ) (fun i b => SrI σ t (decide (m ≠ 0)) N o b ∧ b.1 108 o = nI (2 ^ o ||| mkB (fun h => decide (Apt (sHol σ h) (sHol σ o) (decide (m ≠ 0)) ≤ t)) i)) (fun q => ∃ a', q = k2 (nI t) m (nI (o + 1)) a' ∧ SrI σ t (decide (m ≠ 0)) N (o + 1) a') ?_ ?_ (sH σ) 0 _ FU (Nat.zero_add _) (by show _ < 200000; omega) ?_
  · rintro n i b hi ⟨hb, hv⟩
    right
    have s : SM0 σ b := hM.fr hb.1 (by decide)
    have ha := apN_le (sHol σ i) (Cor (sHol σ o)) (if decide (m ≠ 0) then 8 else 4)
    show ∃ a', bb_X10_findSet_67_22 _ _ _ _ _ _ _ = _ ∧ _
    unfold bb_X10_findSet_67_22
    rw [s.2.2.1, if_neg (nI_ge hi (by omega)), gd_of (inb_nI (by omega) (by decide)), gd_of (inb_nI (by omega) (by decide)), ix_nI (show i < 2 ^ 31 by omega), ix_nI (show o < 2 ^ 31 by omega), (s.2.2.2.2.2.2 i hi).1, (s.2.2.2.2.2.2 o ho).1, apart_m, bd_some]
    by_cases q : Apt (sHol σ i) (sHol σ o) (decide (m ≠ 0)) ≤ t
    · refine ⟨wI b 108 o (nI (2 ^ o ||| mkB (fun h => decide (Apt (sHol σ h) (sHol σ o) (decide (m ≠ 0)) ≤ t)) (i + 1))), ?_, ⟨Fr.tr hb.1 (Fr.wIa rfl), fun h hh => ?_⟩, wI_at⟩
      · rw [if_neg (fun z => (lt_nI (by omega) (by unfold Apt; omega)).mp z q), gd_of (inb_nI (by omega) (by decide)), gd_of (inb_nI (by omega) (by decide)), ltv_eq, ltv_eq, nI_1, hv, shI_c i (by omega), nI_or, Nat.or_assoc]
        show _ = b_X10_findSet_67_22 k2 n (nI t) m (nI o) (nI (i + 1)) (wI b 108 o (nI (2 ^ o ||| (if decide (Apt (sHol σ i) (sHol σ o) (decide (m ≠ 0)) ≤ t) then mkB (fun h => decide (Apt (sHol σ h) (sHol σ o) (decide (m ≠ 0)) ≤ t)) i ||| 2 ^ i else mkB (fun h => decide (Apt (sHol σ h) (sHol σ o) (decide (m ≠ 0)) ≤ t)) i))))
        rw [if_pos (decide_eq_true q)]
      · have e1 : ∀ v, (wI b 108 o v).1 108 h = b.1 108 h := fun v => if_neg (fun q => by omega)
        rw [e1]
        exact hb.2 h hh
    · refine ⟨b, ?_, hb, ?_⟩
      · rw [if_pos ((lt_nI (by omega) (by unfold Apt; omega)).mpr q), ltv_eq, nI_1]
      · rw [hv]
        show _ = nI (2 ^ o ||| (if decide (Apt (sHol σ i) (sHol σ o) (decide (m ≠ 0)) ≤ t) then mkB (fun h => decide (Apt (sHol σ h) (sHol σ o) (decide (m ≠ 0)) ≤ t)) i ||| 2 ^ i else mkB (fun h => decide (Apt (sHol σ h) (sHol σ o) (decide (m ≠ 0)) ≤ t)) i))
        rw [if_neg (by rw [decide_eq_false q]; decide)]
  · rintro n b ⟨hb, hv⟩
    have s : SM0 σ b := hM.fr hb.1 (by decide)
    have hv' : b.1 108 o = nI (2 ^ o ||| SrN σ t (decide (m ≠ 0)) o) := hv
    rw [srN_self ho] at hv'
    show ∃ a', bb_X10_findSet_67_22 _ _ _ _ _ _ _ = _ ∧ _
    unfold bb_X10_findSet_67_22
    rw [s.2.2.1, if_pos (nI_le (Nat.le_refl _) (by omega)), ltv_eq, nI_1]
    refine ⟨b, rfl, hb.1, fun h hh => ?_⟩
    by_cases e : h = o
    · subst e
      exact hv'
    · exact hb.2 h (by omega)
  · refine ⟨⟨Fr.tr hI.1 (Fr.wIa rfl), fun h hh => ?_⟩, ?_⟩
    · have e1 : ∀ v, (wI a 108 o v).1 108 h = a.1 108 h := fun v => if_neg (fun q => by omega)
      rw [e1]
      exact hI.2 h hh
    · rw [wI_at]
      show nI (2 ^ o) = nI (2 ^ o ||| 0)
      rw [Nat.or_zero]
theorem all_in {N : Mm} {σ : Sg} {t n B : Nat} {m : Bool} (k89 : Int32 → Int32 → Mm → Option (Int32 × Mm)) (g : Good σ) (h19 : N.1 67 19 = nI (sH σ)) (hI : ∀ o, o < sH σ → N.1 108 o = nI (SrN σ t m o)) : (Srv σ t m n → b_X10_findSet_67_123 k89 FU (nI B) (nI n) 1 0 N = k89 (nI n) (nI (n + 1)) N) ∧ (¬ Srv σ t m n → b_X10_findSet_67_123 k89 FU (nI B) (nI n) 1 0 N = k89 (nI B) (nI (n + 1)) N) := by
  have hH := g.2.2.2.2.1
  have i01 : ¬ (1 : Int32) = 0 := by decide
  have key : (fun q => (Srv σ t m n → q = k89 (nI n) (nI (n + 1)) N) ∧ (¬ Srv σ t m n → q = k89 (nI B) (nI (n + 1)) N)) (b_X10_findSet_67_123 k89 FU (nI B) (nI n) 1 (nI 0) N) := by
    refine for_q (fun q i (a : Int32) => b_X10_findSet_67_123 k89 q (nI B) (nI n) a (nI i) N) (sH σ) (fun i a => (a = 1 ∧ ∀ o, o < i → ¬ SrN σ t m o &&& n = 0) ∨ (a = 0 ∧ ∃ o, o < sH σ ∧ SrN σ t m o &&& n = 0)) (fun q => (Srv σ t m n → q = k89 (nI n) (nI (n + 1)) N) ∧ (¬ Srv σ t m n → q = k89 (nI B) (nI (n + 1)) N)) ?_ ?_ (sH σ) 0 1 FU (Nat.zero_add _) (by show _ < 200000; omega) (Or.inl ⟨rfl, fun o ho => absurd ho (Nat.not_lt_zero _)⟩)
    · rintro q i a hi (⟨rfl, hA⟩ | ⟨rfl, o, o1, o2⟩)
      · right
        have hs := SrN_lt (t := t) (m := m) (o := i) g
        have hz := nI_z0 (show SrN σ t m i &&& n < 2 ^ 31 from Nat.lt_of_le_of_lt Nat.and_le_left (by omega))
        show ∃ a', bb_X10_findSet_67_123 _ _ _ _ _ _ _ = _ ∧ _
        unfold bb_X10_findSet_67_123
        rw [h19, if_neg (nI_ge hi (by omega)), if_neg i01, gd_of (inb_nI (by omega) (by decide)), ix_nI (by omega), hI i hi, nI_and]
        by_cases z : SrN σ t m i &&& n = 0
        · refine ⟨0, ?_, Or.inr ⟨rfl, i, hi, z⟩⟩
          rw [if_pos (hz.mpr z), ltv_eq, nI_1]
        · refine ⟨1, ?_, Or.inl ⟨rfl, fun o ho => ?_⟩⟩
          · rw [if_neg (fun w => z (hz.mp w)), ltv_eq, nI_1]
          · by_cases e : o = i
            · subst e
              exact z
            · exact hA o (by omega)
      · left
        have ns : ¬ Srv σ t m n := fun w => Srv_iff.mp w o o1 o2
        refine ⟨fun w => absurd w ns, fun _ => ?_⟩
        show bb_X10_findSet_67_123 _ _ _ _ _ _ _ = _
        unfold bb_X10_findSet_67_123
        rw [h19, if_neg (nI_ge hi (by omega)), if_pos rfl, if_pos rfl, ltv_eq, nI_1]
    · rintro q a (⟨rfl, hA⟩ | ⟨rfl, o, o1, o2⟩)
      · have ys : Srv σ t m n := Srv_iff.mpr hA
        refine ⟨fun _ => ?_, fun w => absurd ys w⟩
        show bb_X10_findSet_67_123 _ _ _ _ _ _ _ = _
        unfold bb_X10_findSet_67_123
        rw [h19, if_pos (nI_le (Nat.le_refl _) (by omega)), if_neg i01, ltv_eq, nI_1]
      · have ns : ¬ Srv σ t m n := fun w => Srv_iff.mp w o o1 o2
        refine ⟨fun w => absurd w ns, fun _ => ?_⟩
        show bb_X10_findSet_67_123 _ _ _ _ _ _ _ = _
        unfold bb_X10_findSet_67_123
        rw [h19, if_pos (nI_le (Nat.le_refl _) (by omega)), if_pos rfl, ltv_eq, nI_1]
  exact key
theorem bcn_all {f : Nat → Bool} : ∀ {n : Nat}, bcn f n = n → ∀ i, i < n → f i = true
  | 0, _, i, hi => absurd hi (Nat.not_lt_zero _)
  | n + 1, h, i, hi => by
    have h' : bcn f n + (if f n then 1 else 0) = n + 1 := h
    have hle := bcn_le f n
    cases hf : f n with
    | false =>
      rw [hf] at h'
      have : bcn f n = n + 1 := h'
      omega
    | true =>
      rw [hf] at h'
      have : bcn f n + 1 = n + 1 := h'
      by_cases e : i = n
      · rw [e]
        exact hf
      · exact bcn_all (n := n) (by omega) i (by omega)
theorem pop_is_full {n H : Nat} (h : n < 2 ^ H) (hH : H ≤ 16) (hp : popN n = H) : n = 2 ^ H - 1 := by
  have e : bcn n.testBit H = H := by
    have : bcn n.testBit (H + (32 - H)) = bcn n.testBit H := bcn_hi (fun i h1 _ => Nat.testBit_lt_two_pow (Nat.lt_of_lt_of_le h (Nat.pow_le_pow_right (by decide) h1)))
    rw [← this, show H + (32 - H) = 32 by omega]
    exact hp
  apply Nat.eq_of_testBit_eq
  intro i
  rw [Nat.testBit_two_pow_sub_one]
  by_cases hi : i < H
  · rw [bcn_all e i hi]
    simp [hi]
  · rw [Nat.testBit_lt_two_pow (Nat.lt_of_lt_of_le h (Nat.pow_le_pow_right (by decide) (by omega)))]
    simp [hi]
theorem sets_m {N : Mm} {σ : Sg} {t : Nat} {m : Bool} (g : Good σ) (h19 : N.1 67 19 = nI (sH σ)) (hI : ∀ o, o < sH σ → N.1 108 o = nI (SrN σ t m o)) : ∃ S, IsPun σ t m S ∧ b_X10_findSet_67_89 FU (nI (2 ^ sH σ - 1)) 0 N = some (nI S, N) := by
  have hH := g.2.2.2.2.1
  have hp : 2 ^ sH σ ≤ 2 ^ 16 := Nat.pow_le_pow_right (by decide) hH
  have h1 : 0 < 2 ^ sH σ := Nat.two_pow_pos _
  refine for_q (fun q n (B : Nat) => b_X10_findSet_67_89 q (nI B) (nI n) N) (2 ^ sH σ) (fun n B => B < 2 ^ sH σ ∧ Srv σ t m B ∧ (B < n ∨ B = 2 ^ sH σ - 1) ∧ ∀ T, T < n → Srv σ t m T → popN B ≤ popN T ∧ (popN T = popN B → B ≤ T)) (fun q => ∃ S, IsPun σ t m S ∧ q = some (nI S, N)) ?_ ?_ (2 ^ sH σ) 0 (2 ^ sH σ - 1) FU (Nat.zero_add _) (by show _ < 200000; omega) ⟨by omega, Srv_full σ t m, Or.inr rfl, fun T hT => absurd hT (Nat.not_lt_zero _)⟩
  · rintro q n B hn ⟨b1, b2, b3, b4⟩
    right
    show ∃ a', bb_X10_findSet_67_89 _ _ _ _ = _ ∧ _
    unfold bb_X10_findSet_67_89
    have p1 := popN_le n
    have p2 := popN_le B
    rw [h19, shI_c _ (by omega), if_neg (nI_ge hn (by omega)), f_ones, bd_some, f_ones, bd_some, pop_nI (by omega), pop_nI (by omega)]
    by_cases c : popN n < popN B
    · obtain ⟨a1, a2⟩ := all_in (n := n) (B := B) (b_X10_findSet_67_89 q) g h19 hI
      rw [if_pos (nI_lt c (by omega))]
      by_cases s : Srv σ t m n
      · refine ⟨n, a1 s, hn, s, Or.inl (by omega), fun T hT hs => ?_⟩
        by_cases e : T = n
        · subst e
          exact ⟨Nat.le_refl _, fun _ => Nat.le_refl _⟩
        · have := b4 T (by omega) hs
          exact ⟨by omega, fun z => by omega⟩
      · refine ⟨B, a2 s, b1, b2, ?_, fun T hT hs => ?_⟩
        · rcases b3 with z | z
          · exact Or.inl (by omega)
          · exact Or.inr z
        · by_cases e : T = n
          · subst e
            exact absurd hs s
          · exact b4 T (by omega) hs
    · rw [if_neg (fun z => c ((nI_ltI (by omega) (by omega)).mp z)), ltv_eq, nI_1]
      refine ⟨B, rfl, b1, b2, ?_, fun T hT hs => ?_⟩
      · rcases b3 with z | z
        · exact Or.inl (by omega)
        · exact Or.inr z
      · by_cases e : T = n
        · subst e
          refine ⟨by omega, fun z => ?_⟩
          rcases b3 with w | w
          · omega
          · rw [w, popN_full _ hH] at z
            rw [w, pop_is_full hn hH z]
            exact Nat.le_refl _
        · exact b4 T (by omega) hs
  · rintro q B ⟨b1, b2, _, b4⟩
    refine ⟨B, ⟨b1, b2, fun T hT hs => (b4 T hT hs).1, fun T hT hs => (b4 T hT hs).2⟩, ?_⟩
    show bb_X10_findSet_67_89 _ _ _ _ = _
    unfold bb_X10_findSet_67_89
    rw [h19, shI_c _ (by omega), if_pos (nI_le (Nat.le_refl _) (by omega))]
theorem find_m {N : Mm} {σ : Sg} {t : Nat} (m : Int32) (g : Good σ) (hM : SM σ N) (ht : t ≤ 64) : ∃ N' S, f_X10_findSet_67 (nI t) m N = some (nI S, N') ∧ IsPun σ t (decide (m ≠ 0)) S ∧ SrI σ t (decide (m ≠ 0)) N (sH σ) N' := by
  have hH := g.2.2.2.2.1
  have h1 : 0 < 2 ^ sH σ := Nat.two_pow_pos _
  refine for_q (fun n k (b : Mm) => b_X10_findSet_67_2 n (nI t) m (nI k) b) (sH σ) (fun k b => SrI σ t (decide (m ≠ 0)) N k b) (fun o => ∃ N' S, o = some (nI S, N') ∧ IsPun σ t (decide (m ≠ 0)) S ∧ SrI σ t (decide (m ≠ 0)) N (sH σ) N') ?_ ?_ (sH σ) 0 N FU (Nat.zero_add _) (by show _ < 200000; omega) ⟨Fr.refl, fun h hh => absurd hh (Nat.not_lt_zero _)⟩
  · intro n k b hk hI
    right
    have s : SM0 σ b := hM.fr hI.1 (by decide)
    obtain ⟨a', e1, e2⟩ := srv_in (b_X10_findSet_67_2 n) g hM ht hk hI
    refine ⟨a', ?_, e2⟩
    show bb_X10_findSet_67_2 _ _ _ _ _ = _
    unfold bb_X10_findSet_67_2
    rw [s.2.2.1, if_neg (nI_ge hk (by omega)), gd_of (inb_nI (by omega) (by decide)), ltv_eq, ix_nI (by omega), shI_c k (by omega), e1]
  · intro n b hI
    have s : SM0 σ b := hM.fr hI.1 (by decide)
    obtain ⟨S, hS, e⟩ := sets_m g s.2.2.1 hI.2
    refine ⟨b, S, ?_, hS, hI⟩
    show bb_X10_findSet_67_2 _ _ _ _ _ = _
    unfold bb_X10_findSet_67_2
    rw [s.2.2.1, if_pos (nI_le (Nat.le_refl _) (by omega)), ltv_eq, shI_c _ (by omega), show (1 : Int32) = nI 1 from rfl, nI_sub h1, e]
theorem Rl.c3 {σ : Sg} {β : Bn} {M M1 : Mm} (h : Rl σ β M) (hf : Fr LLS M M1) (h3 : C3 σ M1) : Rl σ β M1 := by
  obtain ⟨c1, c2, c3, c4, c5, c6⟩ := h.2.2.1
  exact h.cls hf (by decide) ⟨c1.fr hf (by decide), c2.fr hf (by decide), c3.fr hf (by decide), h3, c5.fr hf (by decide), c6.fr hf (by decide)⟩
theorem inI_64 {y : Int32} (h : inI y 0 64 = true) : ∃ t, y = nI t ∧ t ≤ 64 := by
  obtain ⟨k, e, _, hk⟩ := inI_nI (b := 0) (c := 64) (by decide) h (by decide)
  exact ⟨k, e, hk⟩
theorem c_punches {M : Mm} (x z y : Int32) (h : Rel M) : AnsI (fw_L_punches_0_120 x z y M) (f_X10_punches_67 x z y) := by
  obtain ⟨σ, β, hR⟩ := id h
  obtain ⟨g, gB, hC, hM, hb, hm, hT, hI⟩ := id hR
  have bad : ∀ N : Mm, bb_X10_punches_67_25 x z y (wI N 67 0 0) = some (0, wI (wI N 67 0 0) 67 0 1) := by
    intro N
    simp only [bb_X10_punches_67_25, bb_X10_punches_67_30, bad1 (M := wI N 67 0 0) (k := 1) rfl (by decide), bd2_some, i10, if_false]
  cases hx : inI x 0 64 with
  | false =>
    refine ans_t (c := 1) (w := 0) h (by decide) ?_ ?_
    · simp only [fw_L_punches_0_120, t_X9_punches_0, t_needR_f hx, orx]
    · simp only [f_X10_punches_67, bb_X10_punches_67_0, ltv_eq, f_inI, hx, bd_some, Bool.false_eq_true, if_false, if_true, bad]
  | true =>
    cases hy : inI y 0 1 with
    | false =>
      refine ans_t (c := 1) (w := 0) h (by decide) ?_ ?_
      · simp only [fw_L_punches_0_120, t_X9_punches_0, t_needR_t hx, f_needR hx, bd_some, t_needR_f hy, orx]
      · simp only [f_X10_punches_67, bb_X10_punches_67_0, ltv_eq, f_inI, hx, hy, bd_some, Bool.false_eq_true, if_false, if_true, i10, bad]
    | true =>
      obtain ⟨t, rfl, ht⟩ := inI_64 hx
      obtain ⟨M1, S, e1, hS, f1, c3⟩ := least_c z g hC.2.2.1 hC.2.2.2.1 ht
      have hS16 := hS.lt g
      have hR1 := hR.c3 f1 c3
      refine ans_g (L := [(108, 999)]) (M1 := M1) (v := if y = 0 then nI (popN S) else nI S) ⟨σ, β, hR1⟩ ?_ ?_ rfl rfl rfl
      · have cl : f_X9_punches_0 (nI t) z y M = some (if y = 0 then nI (popN S) else nI S, M1) := by
          unfold f_X9_punches_0 bb_X9_punches_0_0
          rw [f_needR hx, bd_some, f_needR hy, bd_some, e1, bd2_some, f_bits32 (by omega)]
          by_cases y0 : y = 0
          · rw [if_pos y0, if_pos y0]
            rfl
          · rw [if_neg y0, if_neg y0]
        simp only [fw_L_punches_0_120, t_X9_punches_0, t_needR_t hx, f_needR hx, bd_some, t_needR_t hy, orx, f_L_punches_0_120, bb_L_punches_0_120_0, cl, bd2_some, ltv_eq]
      · generalize ho : (if y = 0 then nI (popN S) else nI S).toInt64 = o
        obtain ⟨hM', _⟩ := hR1.md o
        generalize hN : wI (wJ M1 120 0 o) 67 0 0 = N at hM' ⊢
        have N0 : N.1 67 0 = 0 := by rw [← hN]; rfl
        obtain ⟨N', S', e2, hS', i1, i2⟩ := find_m z g hM' ht
        have := hS.uniq hS'
        subst this
        refine ⟨N', ?_, i1⟩
        simp only [f_X10_punches_67, bb_X10_punches_67_0, ltv_eq, hN, f_inI, hx, hy, bd_some, if_true, i10, if_false, bb_X10_punches_67_30, bad0 N0, bd2_some, e2, f_ones, pop_nI (show S < 2 ^ 31 by omega)]
        by_cases y0 : y = 0
        · rw [if_pos y0, if_pos y0]
        · rw [if_neg y0, if_neg y0]
theorem c_served {M : Mm} (x y z : Int32) (h : Rel M) : AnsI (fw_L_served_0_120 x y z M) (f_X10_served_67 x y z) := by
  obtain ⟨σ, β, hR⟩ := id h
  obtain ⟨g, gB, hC, hM, hb, hm, hT, hI⟩ := id hR
  have s1 := hC.1.of
  have s2 := hM.of
  have hH := g.2.2.2.2.1
  have hH' : sH σ < 2 ^ 31 := by omega
  rcases idx x (n := sH σ) hH' with ⟨o, ho, rfl⟩ | ⟨ho, hi⟩
  · obtain ⟨n1, n2⟩ := needH_t s1.2.2.1 ho hH'
    cases hy : inI y 0 64 with
    | false =>
      refine ans_t (c := 2) (w := 0) h (by decide) ?_ ?_
      · simp only [fw_L_served_0_120, t_X9_served_0, n1, n2, bd_some, t_needR_f hy, orx]
      · simp only [f_X10_served_67, bb_X10_served_67_0, ltv_eq, isH_t (M := wI M 67 0 0) s2.2.2.1 ho hH', bd_some, i10, if_false, bb_X10_served_67_19, bad0 (M := wI M 67 0 0) rfl, bd2_some, if_true, f_inI, hy, Bool.false_eq_true, bb_X10_served_67_42, bad1 (M := wI M 67 0 0) (k := 2) rfl (by decide)]
    | true =>
      obtain ⟨t, rfl, ht⟩ := inI_64 hy
      obtain ⟨M1, S, v, e1, hS, hv, f1, c3⟩ := server_c z g hC.2.2.1 hC.2.2.2.1 ht ho
      have hS16 := hS.lt g
      have hR1 := hR.c3 f1 c3
      refine ans_g (L := [(108, 999)]) (M1 := M1) (v := v) ⟨σ, β, hR1⟩ ?_ ?_ rfl rfl rfl
      · simp only [fw_L_served_0_120, t_X9_served_0, n1, n2, bd_some, t_needR_t hy, orx, f_L_served_0_120, bb_L_served_0_120_0, f_X9_served_0, bb_X9_served_0_0, f_needR hy, e1, bd2_some, ltv_eq]
      · obtain ⟨hM', _⟩ := hR1.md v.toInt64
        generalize hN : wI (wJ M1 120 0 v.toInt64) 67 0 0 = N at hM' ⊢
        have N0 : N.1 67 0 = 0 := by rw [← hN]; rfl
        obtain ⟨N', S', e2, hS', i1, i2⟩ := find_m z g hM' ht
        have := hS.uniq hS'
        subst this
        have hs := SrN_lt (t := t) (m := decide (z ≠ 0)) (o := o) g
        have hW : S &&& SrN σ t (decide (z ≠ 0)) o < 2 ^ 16 := Nat.lt_of_le_of_lt Nat.and_le_left hS16
        have hbit : ∀ k, k < sH σ → (S &&& SrN σ t (decide (z ≠ 0)) o).testBit k = srvB σ t (decide (z ≠ 0)) S o k := by
          intro k hk
          unfold srvB SrN
          rw [Nat.testBit_and, mkB_bit]
          simp [hk]
        have lp : b_X10_served_67_69 FU (nI (S &&& SrN σ t (decide (z ≠ 0)) o)) 0 N' = some (v, N') := by
          refine for_q (fun n k (_ : Unit) => b_X10_served_67_69 n (nI (S &&& SrN σ t (decide (z ≠ 0)) o)) (nI k) N') (sH σ) (fun k _ => ∀ j, j < k → srvB σ t (decide (z ≠ 0)) S o j = false) (fun q => q = some (v, N')) ?_ ?_ (sH σ) 0 () FU (Nat.zero_add _) (by show _ < 200000; omega) (fun j hj => absurd hj (Nat.not_lt_zero _))
          · intro n k _ hk hI
            show bb_X10_served_67_69 _ _ _ _ = _ ∨ ∃ a', bb_X10_served_67_69 _ _ _ _ = _ ∧ _
            unfold bb_X10_served_67_69
            have hbk : (shrI (nI (S &&& SrN σ t (decide (z ≠ 0)) o)) (nI k) &&& 1 = 0) ↔ srvB σ t (decide (z ≠ 0)) S o k = false := by
              rw [← hbit k hk]
              exact srbit (by omega) (by omega)
            cases hb : srvB σ t (decide (z ≠ 0)) S o k with
            | false =>
              right
              refine ⟨(), ?_, fun j hj => ?_⟩
              · rw [if_pos (hbk.mpr hb), ltv_eq, nI_1]
              · by_cases e : j = k
                · subst e
                  exact hb
                · exact hI j (by omega)
            | true =>
              left
              rw [if_neg (fun q => by rw [hbk.mp q] at hb; cases hb)]
              rw [(show IsFst (srvB σ t (decide (z ≠ 0)) S o) (sH σ) (nI k) from Or.inr ⟨k, hk, hb, hI, rfl⟩).uniq hv]
          · intro n _ hI
            exfalso
            obtain ⟨q, q1, q2, q3⟩ := hS.2.1 o ho
            have := hI q q1
            unfold srvB at this
            rw [q2, decide_eq_true q3] at this
            cases this
        refine ⟨N', ?_, i1⟩
        simp only [f_X10_served_67, bb_X10_served_67_0, ltv_eq, hN, isH_t hM'.of.2.2.1 ho hH', bd_some, i10, if_false, bb_X10_served_67_19, bad0 N0, bd2_some, if_true, f_inI, hy, bb_X10_served_67_42, e2, gd_of (inb_nI (n := 16) (show o < 16 by omega) (by decide)), ix_nI (show o < 2 ^ 31 by omega), i2 o ho, nI_and, lp]
  · refine ans_t (c := 1) (w := 0) h (by decide) ?_ ?_
    · simp only [fw_L_served_0_120, t_X9_served_0, needH_f s1.2.2.1 ho, orx]
    · simp only [f_X10_served_67, bb_X10_served_67_0, ltv_eq, isH_f (M := wI M 67 0 0) s2.2.2.1 hi, bd_some, if_true, i10, if_false, bb_X10_served_67_19, bad1 (M := wI M 67 0 0) (k := 1) rfl (by decide), bd2_some]
-- ===== fount =====
theorem fount_g {a t : Nat} {m : Int32} {N : Mm} (ha : a < 512) (ht : t ≤ 99) : ∃ v : Int32, f_X6_sizeGroups (nI a) (nI t) = some v ∧ b_X10_fount_67_50 FU (nI a) (nI t) m 0 0 1 N = bd2 (f_X10_findSet_67 0 m N) fun v_11 M_10 => bd (f_X10_ones (v_11.toInt64)) fun v_13 => some (v * v_13, M_10) := by
  have key : ∀ (d k n n' : Nat) (G L : Nat), k + d = 10 → 1 ≤ k → d < n → d < n' → G ≤ k → L ≤ 9 → (G = 0 ∨ 1 ≤ L) → ∃ v : Int32, b_X6_sizeGroups_7 n (nI a) (nI t) (nI G) (nI L) (nI k) = some v ∧ b_X10_fount_67_50 n' (nI a) (nI t) m (nI G) (nI L) (nI k) N = bd2 (f_X10_findSet_67 0 m N) fun v_11 M_10 => bd (f_X10_ones (v_11.toInt64)) fun v_13 => some (v * v_13, M_10) := by
    intro d
    induction d with
    | zero =>
      intro k n n' G L hk h1k hn hn' hG hL _
      obtain ⟨n, rfl⟩ : ∃ q, n = q + 1 := ⟨n - 1, by omega⟩
      obtain ⟨n', rfl⟩ : ∃ q, n' = q + 1 := ⟨n' - 1, by omega⟩
      obtain rfl : k = 10 := by omega
      refine ⟨nI G, ?_, ?_⟩
      · show bb_X6_sizeGroups_7 _ _ _ _ _ _ = _
        unfold bb_X6_sizeGroups_7
        rw [if_pos (by decide)]
      · show bb_X10_fount_67_50 _ _ _ _ _ _ _ _ = _
        unfold bb_X10_fount_67_50
        rw [if_pos (by decide)]
    | succ d ih =>
      intro k n n' G L hk h1k hn hn' hG hL hGL
      obtain ⟨n, rfl⟩ : ∃ q, n = q + 1 := ⟨n - 1, by omega⟩
      obtain ⟨n', rfl⟩ : ∃ q, n' = q + 1 := ⟨n' - 1, by omega⟩
      obtain ⟨j, rfl⟩ : ∃ q, k = q + 1 := ⟨k - 1, by omega⟩
      show ∃ v, bb_X6_sizeGroups_7 _ _ _ _ _ _ = _ ∧ bb_X10_fount_67_50 _ _ _ _ _ _ _ _ = _
      unfold bb_X6_sizeGroups_7 bb_X10_fount_67_50
      have b1 := bitT (a := a) (k := j) (by omega) (by omega)
      have b2 := srbit (a := a) (j := j) (by omega) (by omega)
      rw [if_neg (show ¬ (9 : Int32) < nI (j + 1) from nI_nlt (a := 9) (by omega) (by decide)), if_neg (show ¬ (10 : Int32) ≤ nI (j + 1) from nI_ge (b := 10) (by omega) (by decide)), nI_pred]
      cases hb : a.testBit j with
      | false =>
        rw [if_pos (b1.mpr hb), if_pos (b2.mpr hb)]
        simp only [ltv_eq, nI_1]
        exact ih (j + 1 + 1) n n' G L (by omega) (by omega) (by omega) (by omega) (by omega) hL (by omega)
      | true =>
        have nb1 : ¬ nI a &&& shI 1 (nI j) = 0 := fun q => by rw [b1.mp q] at hb; cases hb
        have nb2 : ¬ shrI (nI a) (nI j) &&& 1 = 0 := fun q => by rw [b2.mp q] at hb; cases hb
        rw [if_neg nb1, if_neg nb2]
        by_cases g0 : G = 0
        · subst g0
          rw [if_pos nI_0, if_pos (by decide)]
          simp only [ltv_eq, nI_1]
          exact ih (j + 1 + 1) n n' 1 (j + 1) (by omega) (by omega) (by omega) (by omega) (by omega) (by omega) (by omega)
        · rw [if_neg (nI_ne0 (by omega) (by omega)), if_neg (nI_nle (by omega) (by omega))]
          by_cases c : ((16 : Int32) * nI (j + 1)) * nI (j + 1) ≤ ((16 + nI t) * nI L) * nI L
          · rw [if_pos c, if_neg (fun q => lt_nle q c)]
            simp only [ltv_eq, nI_1]
            exact ih (j + 1 + 1) n n' G L (by omega) (by omega) (by omega) (by omega) (by omega) hL (by omega)
          · rw [if_neg c, if_pos (nle_lt c)]
            simp only [ltv_eq, nI_1]
            exact ih (j + 1 + 1) n n' (G + 1) (j + 1) (by omega) (by omega) (by omega) (by omega) (by omega) (by omega) (by omega)
  exact key 9 1 FU FU 0 0 rfl (by decide) (by decide) (by decide) (by decide) (by decide) (by decide)
theorem c_fount {M : Mm} (x y z : Int32) (h : Rel M) : AnsI (fw_L_fount_0_120 x y z M) (f_X10_fount_67 x y z) := by
  obtain ⟨σ, β, hR⟩ := id h
  obtain ⟨g, gB, hC, hM, hb, hm, hT, hI⟩ := id hR
  have bad : ∀ N : Mm, bb_X10_fount_67_27 x y z (wI N 67 0 0) = some (0, wI (wI N 67 0 0) 67 0 1) := by
    intro N
    simp only [bb_X10_fount_67_27, bb_X10_fount_67_32, bad1 (M := wI N 67 0 0) (k := 1) rfl (by decide), bd2_some, i10, if_false]
  cases hx : inI x 1 511 with
  | false =>
    refine ans_t (c := 1) (w := 0) h (by decide) ?_ ?_
    · simp only [fw_L_fount_0_120, t_X9_fount_0, t_needR_f hx, orx]
    · simp only [f_X10_fount_67, bb_X10_fount_67_0, ltv_eq, f_inI, hx, bd_some, Bool.false_eq_true, if_false, if_true, bad]
  | true =>
    cases hy : inI y 0 99 with
    | false =>
      refine ans_t (c := 1) (w := 0) h (by decide) ?_ ?_
      · simp only [fw_L_fount_0_120, t_X9_fount_0, t_needR_t hx, f_needR hx, bd_some, t_needR_f hy, orx]
      · simp only [f_X10_fount_67, bb_X10_fount_67_0, ltv_eq, f_inI, hx, hy, bd_some, Bool.false_eq_true, if_false, if_true, i10, bad]
    | true =>
      obtain ⟨a, rfl, _, ha⟩ := inI_nI (b := 1) (c := 511) (by decide) hx (by decide)
      obtain ⟨t, rfl, _, ht⟩ := inI_nI (b := 0) (c := 99) (by decide) hy (by decide)
      obtain ⟨M1, S, e1, hS, f1, c3⟩ := least_c (t := 0) z g hC.2.2.1 hC.2.2.2.1 (by decide)
      have hS16 := hS.lt g
      have hR1 := hR.c3 f1 c3
      obtain ⟨v, v1, _⟩ := fount_g (a := a) (t := t) (m := z) (N := M) (by omega) ht
      refine ans_g (L := [(108, 999)]) (M1 := M1) (v := v * nI (popN S)) ⟨σ, β, hR1⟩ ?_ ?_ rfl rfl rfl
      · have cl : f_X9_fount_0 (nI a) (nI t) z M = some (v * nI (popN S), M1) := by
          unfold f_X9_fount_0 bb_X9_fount_0_0
          rw [f_needR hx, bd_some, f_needR hy, bd_some, v1, bd_some, show f_X1_leastSet_24 0 z M = some (nI S, M1) from e1, bd2_some, f_bits32 (by omega), bd_some]
        simp only [fw_L_fount_0_120, t_X9_fount_0, t_needR_t hx, f_needR hx, bd_some, t_needR_t hy, orx, f_L_fount_0_120, bb_L_fount_0_120_0, cl, bd2_some, ltv_eq]
      · generalize ho : (v * nI (popN S)).toInt64 = o
        obtain ⟨hM', _⟩ := hR1.md o
        generalize hN : wI (wJ M1 120 0 o) 67 0 0 = N at hM' ⊢
        have N0 : N.1 67 0 = 0 := by rw [← hN]; rfl
        obtain ⟨N', S', e2, hS', i1, i2⟩ := find_m (t := 0) z g hM' (by decide)
        have := hS.uniq hS'
        subst this
        obtain ⟨v', v1', v2⟩ := fount_g (a := a) (t := t) (m := z) (N := N) (by omega) ht
        have ev : v' = v := Option.some.inj (v1'.symm.trans v1)
        subst ev
        refine ⟨N', ?_, i1⟩
        simp only [f_X10_fount_67, bb_X10_fount_67_0, ltv_eq, hN, f_inI, hx, hy, bd_some, if_true, i10, if_false, bb_X10_fount_67_32, bad0 N0, bd2_some, v2, show f_X10_findSet_67 0 z N = some (nI S, N') from e2, f_ones, pop_nI (show S < 2 ^ 31 by omega)]
