-- ===== Integer.bitCount =====
theorem wI_c {M : Mm} {c i c' i' : Nat} {v : Int32} (h : c' ≠ c) : (wI M c i v).1 c' i' = M.1 c' i' := congrFun (wI_ne h) i'
theorem wI_i {M : Mm} {c i c' i' : Nat} {v : Int32} (h : i' ≠ i) : (wI M c i v).1 c' i' = M.1 c' i' := if_neg (fun z => h z.2)
theorem mkB_t {P : Nat → Bool} {n : Nat} (h : P n = true) : mkB P (n + 1) = mkB P n ||| 2 ^ n := by
  show (if P n then mkB P n ||| 2 ^ n else mkB P n) = _
  rw [h]
  rfl
theorem mkB_f {P : Nat → Bool} {n : Nat} (h : P n = false) : mkB P (n + 1) = mkB P n := by
  show (if P n then mkB P n ||| 2 ^ n else mkB P n) = _
  rw [h]
  rfl
theorem and_low {a m1 m2 n : Nat} (ha : a < 2 ^ n) (h : m1 % 2 ^ n = m2 % 2 ^ n) : a &&& m1 = a &&& m2 := by
  apply Nat.eq_of_testBit_eq
  intro i
  rw [Nat.testBit_and, Nat.testBit_and]
  by_cases hi : i < n
  · have h1 : (m1 % 2 ^ n).testBit i = m1.testBit i := by rw [Nat.testBit_mod_two_pow]; simp [hi]
    have h2 : (m2 % 2 ^ n).testBit i = m2.testBit i := by rw [Nat.testBit_mod_two_pow]; simp [hi]
    rw [← h1, ← h2, h]
  · rw [Nat.testBit_lt_two_pow (Nat.lt_of_lt_of_le ha (Nat.pow_le_pow_right (by decide) (by omega)))]
    rfl
theorem us_c : ∀ k, k < 32 → (((nI k).toUInt32 &&& Int32.toUInt32 31).toBitVec % 32).toNat = k ∧ ((nI k &&& 31).toBitVec.smod 32).toNat = k := by decide +kernel
theorem us_nI {n k : Nat} (hn : n < 2 ^ 32) (hk : k < 32) : ushI (nI n) (nI k) = nI (n / 2 ^ k) := pk_ushrN hn (nI k) k (us_c k hk).1
theorem sr_nI {n k : Nat} (hn : n < 2 ^ 31) (hk : k < 32) : shrI (nI n) (nI k) = nI (n / 2 ^ k) := pk_shrN hn (nI k &&& 31) k (us_c k hk).2
theorem bcn_hi {f : Nat → Bool} {a : Nat} : ∀ {b : Nat}, (∀ i, a ≤ i → i < a + b → f i = false) → bcn f (a + b) = bcn f a
  | 0, _ => rfl
  | b + 1, h => by
    show bcn f (a + b) + (if f (a + b) then 1 else 0) = _
    rw [h (a + b) (by omega) (by omega), bcn_hi (fun i h1 h2 => h i h1 (by omega))]
    rfl
theorem bcn_one {f g : Nat → Bool} {k : Nat} : ∀ {n : Nat}, k < n → (∀ i, i ≠ k → f i = g i) → f k = true → g k = false → bcn f n = bcn g n + 1
  | 0, h, _, _, _ => absurd h (Nat.not_lt_zero _)
  | n + 1, h, h1, h2, h3 => by
    show bcn f n + (if f n then 1 else 0) = bcn g n + (if g n then 1 else 0) + 1
    by_cases e : k = n
    · subst e
      rw [h2, h3, bcn_cong (g := g) (fun i hi => h1 i (by omega))]
      rfl
    · rw [bcn_one (by omega) h1 h2 h3, h1 n (fun q => e q.symm)]
      omega
theorem bcn_0 {f : Nat → Bool} : ∀ {n : Nat}, bcn f n = 0 → ∀ i, i < n → f i = false
  | 0, _, i, hi => absurd hi (Nat.not_lt_zero _)
  | n + 1, h, i, hi => by
    have h' : bcn f n + (if f n then 1 else 0) = 0 := h
    have z := Nat.eq_zero_of_add_eq_zero h'
    by_cases e : i = n
    · subst e
      cases hf : f i with
      | false => rfl
      | true =>
        rw [hf] at z
        exact absurd z.2 (by decide)
    · exact bcn_0 z.1 i (by omega)
theorem popN_le (n : Nat) : popN n ≤ 32 := bcn_le _ _
theorem f_bits32 {N : Nat} (hN : N < 2 ^ 31) : f_J6_bitCount_0f7a4 (nI N) = some (nI (popN N)) := by
  unfold f_J6_bitCount_0f7a4 bb_J6_bitCount_0f7a4_0
  simp only [ltv_eq]
  obtain ⟨hp, hle⟩ := pop_nat (b := fun k => (N.testBit k).toNat) (fun k => by cases N.testBit k <;> decide) (fun k hk => by
    show (N.testBit k).toNat = 0
    rw [Nat.testBit_lt_two_pow (Nat.lt_of_lt_of_le hN (Nat.pow_le_pow_right (by decide) (by omega)))]
    rfl) (dg_one N 64 (by omega)) rfl rfl rfl rfl rfl rfl
  have m1 : (N / 2 ^ 1) &&& 6148914691236517205 = (N / 2 ^ 1) &&& 1431655765 := and_low (n := 32) (by omega) (by decide)
  rw [m1] at hp hle
  have e1 : nI N - ((ushI (nI N) 1) &&& 1431655765) = nI (N - ((N / 2 ^ 1) &&& 1431655765)) := by
    rw [show ushI (nI N) 1 = nI (N / 2 ^ 1) from us_nI (by omega) (by decide), show (1431655765 : Int32) = nI 1431655765 from rfl, nI_and, nI_sub hle]
  rw [e1]
  generalize hN1 : N - ((N / 2 ^ 1) &&& 1431655765) = N1 at hp ⊢
  have b1 : N1 < 2 ^ 31 := by omega
  have m2 : N1 &&& 3689348814741910323 = N1 &&& 858993459 := and_low (n := 32) (by omega) (by decide)
  have m3 : (N1 / 2 ^ 2) &&& 3689348814741910323 = (N1 / 2 ^ 2) &&& 858993459 := and_low (n := 32) (by omega) (by decide)
  rw [m2, m3] at hp
  have e2 : (nI N1 &&& 858993459) + ((ushI (nI N1) 2) &&& 858993459) = nI ((N1 &&& 858993459) + ((N1 / 2 ^ 2) &&& 858993459)) := by
    rw [show ushI (nI N1) 2 = nI (N1 / 2 ^ 2) from us_nI (by omega) (by decide), show (858993459 : Int32) = nI 858993459 from rfl, nI_and, nI_and, nI_add]
  rw [e2]
  have b2 : (N1 &&& 858993459) + ((N1 / 2 ^ 2) &&& 858993459) < 2 ^ 31 := by
    have q1 : N1 &&& 858993459 ≤ 858993459 := Nat.and_le_right
    have q2 : (N1 / 2 ^ 2) &&& 858993459 ≤ 858993459 := Nat.and_le_right
    omega
  generalize hN2 : (N1 &&& 858993459) + ((N1 / 2 ^ 2) &&& 858993459) = N2 at hp b2 ⊢
  have m4 : (N2 + N2 / 2 ^ 4) &&& 1085102592571150095 = (N2 + N2 / 2 ^ 4) &&& 252645135 := and_low (n := 32) (by omega) (by decide)
  rw [m4] at hp
  have e3 : (nI N2 + (ushI (nI N2) 4)) &&& 252645135 = nI ((N2 + N2 / 2 ^ 4) &&& 252645135) := by
    rw [show ushI (nI N2) 4 = nI (N2 / 2 ^ 4) from us_nI (by omega) (by decide), show (252645135 : Int32) = nI 252645135 from rfl, nI_add, nI_and]
  rw [e3]
  have b3 : (N2 + N2 / 2 ^ 4) &&& 252645135 ≤ 252645135 := Nat.and_le_right
  generalize hN3 : (N2 + N2 / 2 ^ 4) &&& 252645135 = N3 at hp b3 ⊢
  have e4 : nI N3 + ushI (nI N3) 8 = nI (N3 + N3 / 2 ^ 8) := by
    rw [show ushI (nI N3) 8 = nI (N3 / 2 ^ 8) from us_nI (by omega) (by decide), nI_add]
  rw [e4]
  have e5 : nI (N3 + N3 / 2 ^ 8) + ushI (nI (N3 + N3 / 2 ^ 8)) 16 = nI ((N3 + N3 / 2 ^ 8) + (N3 + N3 / 2 ^ 8) / 2 ^ 16) := by
    rw [show ushI (nI (N3 + N3 / 2 ^ 8)) 16 = nI ((N3 + N3 / 2 ^ 8) / 2 ^ 16) from us_nI (by omega) (by decide), nI_add]
  rw [e5]
  generalize hN5 : (N3 + N3 / 2 ^ 8) + (N3 + N3 / 2 ^ 8) / 2 ^ 16 = N5 at hp ⊢
  have z : N5 / 2 ^ 32 = 0 := Nat.div_eq_of_lt (by omega)
  rw [z, Nat.add_zero] at hp
  rw [show nI N5 &&& 63 = nI (N5 % 2 ^ 6) from fa_mask _ 6]
  have pl : smN (fun k => (N.testBit k).toNat) 64 = popN N := by
    rw [← bcn_smN]
    exact bcn_hi (a := 32) (b := 32) (fun i h1 _ => Nat.testBit_lt_two_pow (Nat.lt_of_lt_of_le hN (Nat.pow_le_pow_right (by decide) (by omega))))
  have := popN_le N
  rw [pl] at hp
  congr 2
  omega
theorem pop_nI {n : Nat} (h : n < 2 ^ 31) : pop (nI n).toInt64 = popN n := by
  rw [nI_l h]
  unfold pop popN
  rw [bcn_cong (g := n.testBit) (fun i hi => lb_lN hi)]
  exact bcn_hi (a := 32) (b := 32) (fun i h1 _ => Nat.testBit_lt_two_pow (Nat.lt_of_lt_of_le h (Nat.pow_le_pow_right (by decide) (by omega))))
theorem popN_top {T k : Nat} (hT : T < 2 ^ k) (hk : k < 32) : popN (T + 2 ^ k) = popN T + 1 :=
  bcn_one hk (fun i hi => by rw [tb_add hT]; simp [hi]) (by rw [tb_add hT]; simp) (Nat.testBit_lt_two_pow hT)
theorem popN_0 : popN 0 = 0 := by decide
theorem bit_ex {n : Nat} (h : n ≠ 0) : ∃ i, n.testBit i = true := by
  apply Classical.byContradiction
  intro hc
  apply h
  apply Nat.eq_of_testBit_eq
  intro i
  rw [Nat.zero_testBit]
  cases hb : n.testBit i with
  | false => rfl
  | true => exact absurd ⟨i, hb⟩ hc
theorem bit_hi {n k i : Nat} (h : n < 2 ^ k) (hb : n.testBit i = true) : i < k := by
  apply Classical.byContradiction
  intro hc
  rw [Nat.testBit_lt_two_pow (Nat.lt_of_lt_of_le h (Nat.pow_le_pow_right (by decide) (by omega)))] at hb
  cases hb
theorem popN_z {T k : Nat} (hT : T < 2 ^ k) (hk : k ≤ 32) (h : popN T = 0) : T = 0 := by
  apply Classical.byContradiction
  intro hc
  obtain ⟨i, hi⟩ := bit_ex hc
  rw [bcn_0 h i (by have := bit_hi hT hi; omega)] at hi
  cases hi
theorem nI_z0 {n : Nat} (h : n < 2 ^ 31) : nI n = 0 ↔ n = 0 := nI_eq h (by decide)
theorem srbit {a j : Nat} (ha : a < 2 ^ 31) (hj : j < 31) : (shrI (nI a) (nI j) &&& 1 = 0) ↔ a.testBit j = false := by
  rw [sr_nI ha (by omega), show (1 : Int32) = nI 1 from rfl, nI_and, nI_z0 (Nat.lt_of_le_of_lt Nat.and_le_right (by decide)), Nat.testBit_eq_decide_div_mod_eq, Nat.and_one_is_mod, decide_eq_false_iff_not]
  omega
def orN (f : Nat → Nat) : Nat → Nat
  | 0 => 0
  | n + 1 => orN f n ||| f n
theorem orN_bit {f : Nat → Nat} {o : Nat} : ∀ {n : Nat}, (orN f n).testBit o = true ↔ ∃ h, h < n ∧ (f h).testBit o = true
  | 0 => by
    show (Nat.testBit 0 o) = true ↔ _
    rw [Nat.zero_testBit]
    constructor
    · intro h
      cases h
    · rintro ⟨h, h1, _⟩
      omega
  | n + 1 => by
    show (orN f n ||| f n).testBit o = true ↔ _
    rw [Nat.testBit_or, Bool.or_eq_true, orN_bit]
    constructor
    · rintro (⟨h, h1, h2⟩ | h)
      · exact ⟨h, by omega, h2⟩
      · exact ⟨n, by omega, h⟩
    · rintro ⟨h, h1, h2⟩
      by_cases e : h = n
      · subst e
        exact Or.inr h2
      · exact Or.inl ⟨h, by omega, h2⟩
theorem orN_lt {f : Nat → Nat} {k : Nat} : ∀ {n : Nat}, (∀ i, i < n → f i < 2 ^ k) → orN f n < 2 ^ k
  | 0, _ => Nat.two_pow_pos k
  | n + 1, h => or_lt (orN_lt (fun i hi => h i (by omega))) (h n (by omega))
-- ===== the least set: the class's way =====
def CvS (Sv : Nat → Nat) (k T mis : Nat) : Prop := ∀ o, mis.testBit o = true → ∃ h, h < k ∧ T.testBit h = true ∧ (Sv h).testBit o = true
def IsCh (Sv : Nat → Nat) (k mis s : Nat) (v : Int32) : Prop := (v = -1 ∧ ∀ T, T < 2 ^ k → CvS Sv k T mis → s < popN T) ∨ ∃ S, v = nI S ∧ S < 2 ^ k ∧ CvS Sv k S mis ∧ popN S ≤ s ∧ ∀ T, T < 2 ^ k → CvS Sv k T mis → popN T ≤ s → S ≤ T
theorem top_cases {T k : Nat} (h : T < 2 ^ (k + 1)) : T < 2 ^ k ∨ ∃ T', T' < 2 ^ k ∧ T = T' + 2 ^ k := by
  have e : 2 ^ (k + 1) = 2 ^ k + 2 ^ k := by rw [Nat.pow_succ]; omega
  rcases Nat.lt_or_ge T (2 ^ k) with q | q
  · exact Or.inl q
  · exact Or.inr ⟨T - 2 ^ k, by omega, by omega⟩
theorem CvS.low {Sv : Nat → Nat} {k T mis : Nat} (hT : T < 2 ^ k) (h : CvS Sv (k + 1) T mis) : CvS Sv k T mis := by
  intro o ho
  obtain ⟨q, _, q2, q3⟩ := h o ho
  exact ⟨q, bit_hi hT q2, q2, q3⟩
theorem CvS.up {Sv : Nat → Nat} {k T mis : Nat} (h : CvS Sv k T mis) : CvS Sv (k + 1) T mis := by
  intro o ho
  obtain ⟨q, q1, q2, q3⟩ := h o ho
  exact ⟨q, by omega, q2, q3⟩
theorem CvS.drop {Sv : Nat → Nat} {k T mis : Nat} (hT : T < 2 ^ k) (h : CvS Sv (k + 1) (T + 2 ^ k) mis) : CvS Sv k T (andn mis (Sv k)) := by
  intro o ho
  rw [andn_bit, Bool.and_eq_true] at ho
  obtain ⟨q, q1, q2, q3⟩ := h o ho.1
  rw [tb_add hT, Bool.or_eq_true] at q2
  rcases q2 with q2 | q2
  · exact ⟨q, bit_hi hT q2, q2, q3⟩
  · have e : q = k := of_decide_eq_true q2
    rw [e] at q3
    rw [q3] at ho
    simp at ho
theorem CvS.add {Sv : Nat → Nat} {k T mis : Nat} (hT : T < 2 ^ k) (h : CvS Sv k T (andn mis (Sv k))) : CvS Sv (k + 1) (T + 2 ^ k) mis := by
  intro o ho
  cases hb : (Sv k).testBit o with
  | true => exact ⟨k, by omega, by rw [tb_add hT]; simp, hb⟩
  | false =>
    obtain ⟨q, q1, q2, q3⟩ := h o (by rw [andn_bit, ho, hb]; rfl)
    exact ⟨q, by omega, by rw [tb_add hT, q2]; rfl, q3⟩
theorem or_top {S k : Nat} (h : S < 2 ^ k) : S ||| 2 ^ k = S + 2 ^ k := by
  have e := Nat.two_pow_add_eq_or_of_lt h 1
  rw [Nat.mul_one] at e
  rw [Nat.or_comm, ← e, Nat.add_comm]
theorem chosen_ok {M : Mm} {Sv : Nat → Nat} {H : Nat} (hH : H ≤ 16) (hS : ∀ h, h < H → Sv h < 2 ^ 16) (h27 : ∀ h, h < H → M.1 27 h = nI (Sv h)) (h28 : ∀ h, h < H → M.1 28 h = nI (orN Sv (h + 1))) : ∀ (k d mis s : Nat), k ≤ H → k < d → mis < 2 ^ 16 → s ≤ 16 → Gv (IsCh Sv k mis s) (fr_X1_chosen_27_28 d (nI k - 1) (nI mis) (nI s) M) := by
  intro k
  induction k with
  | zero =>
    intro d mis s _ hd hm hs
    obtain ⟨d, rfl⟩ : ∃ m, d = m + 1 := ⟨d - 1, by omega⟩
    show Gv _ (bb_X1_chosen_27_28_0 (fr_X1_chosen_27_28 d) (nI 0 - 1) (nI mis) (nI s) M)
    unfold bb_X1_chosen_27_28_0
    by_cases e : mis = 0
    · subst e
      rw [if_pos nI_0]
      exact Gv.ret (Or.inr ⟨0, rfl, by decide, fun o ho => (by rw [Nat.zero_testBit] at ho; cases ho), by rw [popN_0]; omega, fun T _ _ _ => Nat.zero_le T⟩)
    · rw [if_neg (nI_ne0 (by omega) (by omega)), if_pos (by decide)]
      refine Gv.ret (Or.inl ⟨rfl, fun T hT hc => ?_⟩)
      obtain ⟨o, ho⟩ := bit_ex e
      obtain ⟨q, q1, _⟩ := hc o ho
      omega
  | succ k ih =>
    intro d mis s hk hd hm hs
    obtain ⟨d, rfl⟩ : ∃ m, d = m + 1 := ⟨d - 1, by omega⟩
    show Gv _ (bb_X1_chosen_27_28_0 (fr_X1_chosen_27_28 d) (nI (k + 1) - 1) (nI mis) (nI s) M)
    unfold bb_X1_chosen_27_28_0
    by_cases e : mis = 0
    · subst e
      rw [if_pos nI_0]
      exact Gv.ret (Or.inr ⟨0, rfl, Nat.two_pow_pos _, fun o ho => (by rw [Nat.zero_testBit] at ho; cases ho), by rw [popN_0]; omega, fun T _ _ _ => Nat.zero_le T⟩)
    · have hb28 : orN Sv (k + 1) < 2 ^ 16 := orN_lt (fun i hi => hS i (by omega))
      rw [if_neg (nI_ne0 (by omega) (by omega)), nI_pred, if_neg (nI_pos (by omega)), if_neg (show ¬ (16 : Int32) ≤ nI k from nI_ge (b := 16) (by omega) (by decide))]
      by_cases e2 : s = 0
      · subst e2
        rw [if_pos (by decide)]
        refine Gv.ret (Or.inl ⟨rfl, fun T hT hc => ?_⟩)
        rcases Nat.eq_zero_or_pos (popN T) with z | z
        · have : T = 0 := popN_z hT (by omega) z
          subst this
          obtain ⟨o, ho⟩ := bit_ex e
          obtain ⟨q, _, q2, _⟩ := hc o ho
          rw [Nat.zero_testBit] at q2
          cases q2
        · exact z
      · rw [if_neg (nI_nle (by omega) (by omega)), gd_of (inb_nI (by omega) (by decide)), ix_nI (by omega), h28 k (by omega), nI_andn]
        have hu1 : andn mis (orN Sv (k + 1)) < 2 ^ 31 := Nat.lt_of_lt_of_le (andn_lt hm) (by decide)
        by_cases hu : andn mis (orN Sv (k + 1)) = 0
        · rw [if_pos ((nI_z0 hu1).mpr hu)]
          obtain ⟨v, ev, hv⟩ := ih d mis s (by omega) (by omega) hm hs
          rw [ev, bd_some]
          rcases hv with ⟨rfl, hv⟩ | ⟨S, rfl, s1, s2, s3, s4⟩
          · obtain ⟨s, rfl⟩ : ∃ m, s = m + 1 := ⟨s - 1, by omega⟩
            rw [if_pos rfl, gd_of (inb_nI (by omega) (by decide)), h27 k (by omega), nI_andn, nI_pred]
            obtain ⟨w, ew, hw⟩ := ih d (andn mis (Sv k)) s (by omega) (by omega) (andn_lt hm) (by omega)
            rw [ew, bd_some]
            rcases hw with ⟨rfl, hw⟩ | ⟨S, rfl, s1, s2, s3, s4⟩
            · rw [if_pos rfl]
              refine Gv.ret (Or.inl ⟨rfl, fun T hT hc => ?_⟩)
              rcases top_cases hT with q | ⟨T', q, rfl⟩
              · exact hv T q (hc.low q)
              · have := hw T' q (hc.drop q)
                rw [popN_top q (by omega)]
                omega
            · have sb : S < 2 ^ 16 := Nat.lt_of_lt_of_le s1 (Nat.pow_le_pow_right (by decide) (by omega))
              rw [if_neg (m1_ne (by omega)), shI_c k (by omega), nI_or, or_top s1]
              have e3 : 2 ^ (k + 1) = 2 ^ k + 2 ^ k := by rw [Nat.pow_succ]; omega
              refine Gv.ret (Or.inr ⟨S + 2 ^ k, rfl, by omega, s2.add s1, by rw [popN_top s1 (by omega)]; omega, fun T hT hc hp => ?_⟩)
              rcases top_cases hT with q | ⟨T', q, rfl⟩
              · have := hv T q (hc.low q)
                omega
              · rw [popN_top q (by omega)] at hp
                have := s4 T' q (hc.drop q) (by omega)
                omega
          · have sb : S < 2 ^ 16 := Nat.lt_of_lt_of_le s1 (Nat.pow_le_pow_right (by decide) (by omega))
            rw [if_neg (m1_ne (by omega))]
            have e3 : 2 ^ (k + 1) = 2 ^ k + 2 ^ k := by rw [Nat.pow_succ]; omega
            refine Gv.ret (Or.inr ⟨S, rfl, by omega, s2.up, s3, fun T hT hc hp => ?_⟩)
            rcases top_cases hT with q | ⟨T', q, rfl⟩
            · exact s4 T q (hc.low q) hp
            · omega
        · rw [if_neg (fun q => hu ((nI_z0 hu1).mp q))]
          refine Gv.ret (Or.inl ⟨rfl, fun T hT hc => ?_⟩)
          obtain ⟨o, ho⟩ := bit_ex hu
          rw [andn_bit, Bool.and_eq_true] at ho
          obtain ⟨q, q1, q2, q3⟩ := hc o ho.1
          have := orN_bit.mpr ⟨q, q1, q3⟩
          rw [this] at ho
          simp at ho
/-- whom hollow h serves -/
def SvN (σ : Sg) (t : Nat) (m : Bool) (h : Nat) : Nat := mkB (fun o => decide (Apt (sHol σ h) (sHol σ o) m ≤ t)) (sH σ)
theorem SvN_bit {σ : Sg} {t : Nat} {m : Bool} {h o : Nat} : (SvN σ t m h).testBit o = true ↔ o < sH σ ∧ Apt (sHol σ h) (sHol σ o) m ≤ t := by
  unfold SvN
  rw [mkB_bit, Bool.and_eq_true, decide_eq_true_eq, decide_eq_true_eq]
theorem CvS_Srv {σ : Sg} {t : Nat} {m : Bool} {S : Nat} : CvS (SvN σ t m) (sH σ) S (2 ^ sH σ - 1) ↔ Srv σ t m S := by
  constructor
  · intro h o ho
    obtain ⟨q, q1, q2, q3⟩ := h o (by rw [Nat.testBit_two_pow_sub_one]; exact decide_eq_true ho)
    exact ⟨q, q1, q2, (SvN_bit.mp q3).2⟩
  · intro h o ho
    rw [Nat.testBit_two_pow_sub_one, decide_eq_true_eq] at ho
    obtain ⟨q, q1, q2, q3⟩ := h o ho
    exact ⟨q, q1, q2, SvN_bit.mpr ⟨ho, q3⟩⟩
theorem pop_0 : pop 0 = 0 := by decide
theorem xor_s (x : Int64) : x ^^^ x = 0 := by
  apply lb_ext
  intro i hi
  rw [lb_xor, lb_0]
  cases lb x i <;> rfl
theorem apN_z {x : Int64} : ∀ n, apN x (Cor x) (n + 1) = 0
  | 0 => by
    show min 64 (pop (tur x 0 ^^^ Cor x)) = 0
    have : tur x 0 = Cor x := rfl
    rw [this, xor_s, pop_0]
    rfl
  | n + 1 => by
    show min (apN x (Cor x) (n + 1)) _ = 0
    rw [apN_z n]
    exact Nat.zero_min _
theorem Apt_self (x : Int64) (m : Bool) : Apt x x m = 0 := by
  unfold Apt
  cases m
  · exact apN_z 3
  · exact apN_z 7
theorem full_bit {H i : Nat} (h : i < H) : (2 ^ H - 1).testBit i = true := by
  rw [Nat.testBit_two_pow_sub_one]
  exact decide_eq_true h
theorem Srv_full (σ : Sg) (t : Nat) (m : Bool) : Srv σ t m (2 ^ sH σ - 1) := fun o ho => ⟨o, ho, full_bit ho, by rw [Apt_self]; omega⟩
theorem popN_full : ∀ H, H ≤ 16 → popN (2 ^ H - 1) = H := by decide
theorem findLeast_ok {M : Mm} {σ : Sg} {t : Nat} {m : Bool} (hH : sH σ ≤ 16) (h24 : M.1 24 5 = nI (sH σ)) (h27 : ∀ h, h < sH σ → M.1 27 h = nI (SvN σ t m h)) (h28 : ∀ h, h < sH σ → M.1 28 h = nI (orN (SvN σ t m) (h + 1))) : Gv (fun v => ∃ S, IsPun σ t m S ∧ v = nI S) (f_X1_findLeastSet_24 M) := by
  have hS : ∀ h, h < sH σ → SvN σ t m h < 2 ^ 16 := fun h _ => Nat.lt_of_lt_of_le (mkB_lt _ _) (Nat.pow_le_pow_right (by decide) hH)
  have hp : 2 ^ sH σ ≤ 2 ^ 16 := Nat.pow_le_pow_right (by decide) hH
  have h1 : 0 < 2 ^ sH σ := Nat.two_pow_pos _
  unfold f_X1_findLeastSet_24 bb_X1_findLeastSet_24_0
  rw [ltv_eq, h24, shI_c _ (by omega), show (1 : Int32) = nI 1 from rfl, nI_sub h1]
  refine for_q (fun n k (_ : Unit) => b_X1_findLeastSet_24_11 n (nI (2 ^ sH σ - 1)) (nI k) M) (sH σ + 1) (fun k _ => ∀ T, T < 2 ^ sH σ → Srv σ t m T → k ≤ popN T) (Gv (fun v => ∃ S, IsPun σ t m S ∧ v = nI S)) ?_ ?_ (sH σ + 1) 0 () FU (by omega) (by show _ < 200000; omega) (fun T _ _ => Nat.zero_le _)
  · intro n k _ hk hI
    show Gv _ (bb_X1_findLeastSet_24_11 _ _ _ _) ∨ ∃ a', bb_X1_findLeastSet_24_11 _ _ _ _ = _ ∧ _
    unfold bb_X1_findLeastSet_24_11
    obtain ⟨v, ev, hv⟩ := chosen_ok hH hS h27 h28 (sH σ) 20 (2 ^ sH σ - 1) k (Nat.le_refl _) (by omega) (by omega) (by omega)
    rw [h24, if_neg (nI_nlt (by omega) (by omega)), show f_X1_chosen_27_28 (nI (sH σ) - 1) (nI (2 ^ sH σ - 1)) (nI k) M = some v from ev, bd_some]
    rcases hv with ⟨rfl, hv⟩ | ⟨S, rfl, s1, s2, s3, s4⟩
    · right
      refine ⟨(), ?_, fun T hT hc => hv T hT (CvS_Srv.mpr hc)⟩
      rw [if_pos rfl, ltv_eq, nI_1]
    · left
      rw [if_neg (m1_ne (by omega))]
      have k0 := hI S s1 (CvS_Srv.mp s2)
      refine Gv.ret ⟨S, ⟨s1, CvS_Srv.mp s2, fun T hT hc => ?_, fun T hT hc hp => ?_⟩, rfl⟩
      · have := hI T hT hc
        omega
      · exact s4 T hT (CvS_Srv.mpr hc) (by omega)
  · intro n _ hI
    have := hI _ (by omega) (Srv_full σ t m)
    rw [popN_full _ hH] at this
    omega
