-- ===== shapes and turns: a twin of a twin =====
def Tq (x y : Int64) (a a' b b' : Nat) : Prop := (∀ i j, i < 8 → j < 8 → lb x (8 * i + j) = true → ∃ i' j', i' < 8 ∧ j' < 8 ∧ i' + a = i + a' ∧ j' + b = j + b' ∧ lb y (8 * i' + j') = true) ∧ (∀ i' j', i' < 8 → j' < 8 → lb y (8 * i' + j') = true → ∃ i j, i < 8 ∧ j < 8 ∧ i' + a = i + a' ∧ j' + b = j + b' ∧ lb x (8 * i + j) = true)
theorem Tq_cor (x : Int64) : ∃ r c, Tq x (Cor x) r 0 c 0 := by
  obtain ⟨r, c, hr, hc, a1, a2, a3, a4⟩ := Cor_is x
  refine ⟨r, c, fun i j hi hj hb => ?_, fun i j hi hj hb => ?_⟩
  · have h1 : r ≤ i := by
      apply Classical.byContradiction
      intro q
      rw [a1 (8 * i + j) (by omega) (by omega)] at hb
      cases hb
    have h2 : c ≤ j := by
      apply Classical.byContradiction
      intro q
      rw [a2 (8 * i + j) (by omega) (by omega)] at hb
      cases hb
    refine ⟨i - r, j - c, by omega, by omega, by omega, by omega, ?_⟩
    rw [a4 _ (by omega), show 8 * (i - r) + (j - c) + 8 * r + c = 8 * i + j by omega, hb]
    have : (8 * (i - r) + (j - c)) % 8 + c < 8 := by omega
    rw [decide_eq_true this]
    rfl
  · rw [a4 _ (by omega), Bool.and_eq_true, decide_eq_true_eq] at hb
    have h64 : 8 * i + j + 8 * r + c < 64 := by
      apply Classical.byContradiction
      intro q
      rw [lb_big (by omega)] at hb
      cases hb.2
    refine ⟨i + r, j + c, by omega, by omega, by omega, by omega, ?_⟩
    rw [show 8 * (i + r) + (j + c) = 8 * i + j + 8 * r + c by omega]
    exact hb.2
theorem Tq.cor {x y : Int64} {a a' b b' : Nat} (h : Tq x y a a' b b') : Cor x = Cor y := by
  have at8 : ∀ {z : Int64} {i : Nat}, lb z i = true → lb z (8 * (i / 8) + i % 8) = true := fun {z i} q => by
    rw [show 8 * (i / 8) + i % 8 = i by omega]
    exact q
  obtain ⟨r, c, hr, hc, a1, a2, a3, a4⟩ := Cor_is x
  refine IsCor.uniq (x := y) ?_ (Cor_is y)
  by_cases e : x = 0
  · have ey : y = 0 := by
      apply lb_zero.mpr
      intro i hi
      cases hb : lb y i with
      | false => rfl
      | true =>
        obtain ⟨i0, j0, _, _, _, _, q⟩ := h.2 (i / 8) (i % 8) (by omega) (by omega) (at8 hb)
        rw [e, lb_0] at q
        cases q
    rw [e, ey]
    exact Cor_is 0
  · obtain ⟨⟨i1, p1, p2, p3⟩, ⟨i2, q1, q2, q3⟩⟩ := a3 e
    obtain ⟨r', s', s1, s2, s3, s4, s5⟩ := h.1 r (i1 % 8) hr (by omega) (by rw [show 8 * r + i1 % 8 = i1 by omega]; exact p3)
    obtain ⟨t', c', t1, t2, t3, t4, t5⟩ := h.1 (i2 / 8) c (by omega) hc (by rw [show 8 * (i2 / 8) + c = i2 by omega]; exact q3)
    refine ⟨r', c', s1, t2, ?_, ?_, ?_, ?_⟩
    · intro i hi hlt
      cases hb : lb y i with
      | false => rfl
      | true =>
        obtain ⟨i0, j0, u1, u2, u3, u4, u5⟩ := h.2 (i / 8) (i % 8) (by omega) (by omega) (at8 hb)
        rw [a1 (8 * i0 + j0) (by omega) (by omega)] at u5
        cases u5
    · intro i hi hlt
      cases hb : lb y i with
      | false => rfl
      | true =>
        obtain ⟨i0, j0, u1, u2, u3, u4, u5⟩ := h.2 (i / 8) (i % 8) (by omega) (by omega) (at8 hb)
        rw [a2 (8 * i0 + j0) (by omega) (by omega)] at u5
        cases u5
    · intro _
      exact ⟨⟨8 * r' + s', by omega, by omega, s5⟩, ⟨8 * t' + c', by omega, by omega, t5⟩⟩
    · intro j hj
      rw [a4 j hj]
      apply bool_ext
      rw [Bool.and_eq_true, Bool.and_eq_true, decide_eq_true_eq, decide_eq_true_eq]
      constructor
      · rintro ⟨k1, k2⟩
        have h64 : j + 8 * r + c < 64 := by
          apply Classical.byContradiction
          intro q
          rw [lb_big (by omega)] at k2
          cases k2
        obtain ⟨i', j', u1, u2, u3, u4, u5⟩ := h.1 (j / 8 + r) (j % 8 + c) (by omega) k1 (by rw [show 8 * (j / 8 + r) + (j % 8 + c) = j + 8 * r + c by omega]; exact k2)
        refine ⟨by omega, ?_⟩
        rw [show j + 8 * r' + c' = 8 * i' + j' by omega]
        exact u5
      · rintro ⟨k1, k2⟩
        have h64 : j + 8 * r' + c' < 64 := by
          apply Classical.byContradiction
          intro q
          rw [lb_big (by omega)] at k2
          cases k2
        obtain ⟨i', j', u1, u2, u3, u4, u5⟩ := h.2 (j / 8 + r') (j % 8 + c') (by omega) k1 (by rw [show 8 * (j / 8 + r') + (j % 8 + c') = j + 8 * r' + c' by omega]; exact k2)
        refine ⟨by omega, ?_⟩
        rw [show j + 8 * r + c = 8 * i' + j' by omega]
        exact u5
theorem q_at (x : Int64) {R C : Nat} (hR : R < 8) (hC : C < 8) : lb (Qrt x) (8 * R + C) = lb x (8 * (7 - C) + R) := by
  rw [lb_Qrt x (by omega)]
  unfold qbS
  rw [show 8 * (7 - (8 * R + C) % 8) + (8 * R + C) / 8 = 8 * (7 - C) + R by omega]
theorem m_at (x : Int64) {R C : Nat} (hR : R < 8) (hC : C < 8) : lb (Mir x) (8 * R + C) = lb x (8 * R + (7 - C)) := by
  rw [lb_Mir x (by omega)]
  unfold mrS
  rw [show 8 * R + C - (8 * R + C) % 8 + 7 - (8 * R + C) % 8 = 8 * R + (7 - C) by omega]
theorem Tq.qrt {x y : Int64} {a a' b b' : Nat} (h : Tq x y a a' b b') : Tq (Qrt x) (Qrt y) b b' a' a := by
  refine ⟨fun i j hi hj hb => ?_, fun i j hi hj hb => ?_⟩
  · rw [q_at x hi hj] at hb
    obtain ⟨i', j', u1, u2, u3, u4, u5⟩ := h.1 (7 - j) i (by omega) hi hb
    refine ⟨j', 7 - i', u2, by omega, u4, by omega, ?_⟩
    rw [q_at y u2 (by omega), show 7 - (7 - i') = i' by omega]
    exact u5
  · rw [q_at y hi hj] at hb
    obtain ⟨i', j', u1, u2, u3, u4, u5⟩ := h.2 (7 - j) i (by omega) hi hb
    refine ⟨j', 7 - i', u2, by omega, u4, by omega, ?_⟩
    rw [q_at x u2 (by omega), show 7 - (7 - i') = i' by omega]
    exact u5
theorem Tq.mir {x y : Int64} {a a' b b' : Nat} (h : Tq x y a a' b b') : Tq (Mir x) (Mir y) a a' b' b := by
  refine ⟨fun i j hi hj hb => ?_, fun i j hi hj hb => ?_⟩
  · rw [m_at x hi hj] at hb
    obtain ⟨i', j', u1, u2, u3, u4, u5⟩ := h.1 i (7 - j) hi (by omega) hb
    refine ⟨i', 7 - j', u1, by omega, u3, by omega, ?_⟩
    rw [m_at y u1 (by omega), show 7 - (7 - j') = j' by omega]
    exact u5
  · rw [m_at y hi hj] at hb
    obtain ⟨i', j', u1, u2, u3, u4, u5⟩ := h.2 i (7 - j) hi (by omega) hb
    refine ⟨i', 7 - j', u1, by omega, u3, by omega, ?_⟩
    rw [m_at x u1 (by omega), show 7 - (7 - j') = j' by omega]
    exact u5
theorem cor_q {x y : Int64} (h : Cor x = Cor y) : Cor (Qrt x) = Cor (Qrt y) := by
  obtain ⟨r, c, t1⟩ := Tq_cor x
  obtain ⟨r', c', t2⟩ := Tq_cor y
  rw [t1.qrt.cor, t2.qrt.cor, h]
theorem cor_m {x y : Int64} (h : Cor x = Cor y) : Cor (Mir x) = Cor (Mir y) := by
  obtain ⟨r, c, t1⟩ := Tq_cor x
  obtain ⟨r', c', t2⟩ := Tq_cor y
  rw [t1.mir.cor, t2.mir.cor, h]
theorem cor_trn {x y : Int64} (h : Cor x = Cor y) : ∀ k, Cor (trn x k) = Cor (trn y k)
  | 0 => h
  | k + 1 => cor_q (cor_trn h k)
theorem trn_add (x : Int64) (a : Nat) : ∀ b, trn (trn x a) b = trn x (a + b)
  | 0 => rfl
  | b + 1 => by
    show Qrt (trn (trn x a) b) = Qrt (trn x (a + b))
    rw [trn_add x a b]
theorem trn_back (x : Int64) {k : Nat} (h : k < 4) : trn (trn x k) ((4 - k) % 4) = x := by
  rw [trn_add]
  rcases k with _ | _ | _ | _ | k
  · rfl
  · exact trn_4 x
  · exact trn_4 x
  · exact trn_4 x
  · omega
theorem mq_ix : ∀ j, j < 64 → mrS j < 64 ∧ qbS j < 64 ∧ qbS (qbS j) < 64 ∧ qbS (qbS (qbS j)) < 64 ∧ qbS (mrS j) = mrS (qbS (qbS (qbS j))) := by decide +kernel
theorem Mir_Qrt (x : Int64) : Mir (Qrt x) = Qrt (Qrt (Qrt (Mir x))) := by
  apply lb_ext
  intro j hj
  obtain ⟨h1, h2, h3, h4, h5⟩ := mq_ix j hj
  rw [lb_Mir _ hj, lb_Qrt _ h1, lb_Qrt _ hj, lb_Qrt _ h2, lb_Qrt _ h3, lb_Mir _ h4, h5]
theorem Mir_trn (x : Int64) {s : Nat} (h : s < 4) : Mir (trn x s) = trn (Mir x) ((4 - s) % 4) := by
  rcases s with _ | _ | _ | _ | s
  · rfl
  · exact Mir_Qrt x
  · show Mir (Qrt (Qrt x)) = Qrt (Qrt (Mir x))
    rw [Mir_Qrt, Mir_Qrt, Qrt4]
  · show Mir (Qrt (Qrt (Qrt x))) = Qrt (Mir x)
    rw [Mir_Qrt, Mir_Qrt, Mir_Qrt, Qrt4, Qrt4]
  · omega
theorem pop_z {x : Int64} : pop x = 0 ↔ x = 0 := by
  constructor
  · intro h
    exact lb_zero.mpr (bcn_0 h)
  · rintro rfl
    exact pop_0
theorem xor_z {x y : Int64} : x ^^^ y = 0 ↔ x = y := by
  constructor
  · intro h
    apply lb_ext
    intro i hi
    have := congrArg (fun z => lb z i) h
    simp only [lb_xor, lb_0] at this
    cases h1 : lb x i <;> cases h2 : lb y i <;> simp [h1, h2] at this ⊢
  · rintro rfl
    exact xor_s x
theorem apN_0 {a s : Int64} : ∀ {n : Nat}, apN a s n = 0 ↔ ∃ k, k < n ∧ tur a k = s
  | 0 => by
    constructor
    · intro h
      have : (64 : Nat) = 0 := h
      omega
    · rintro ⟨k, hk, _⟩
      omega
  | n + 1 => by
    have hm : apN a s (n + 1) = 0 ↔ apN a s n = 0 ∨ pop (tur a n ^^^ s) = 0 := by
      show min (apN a s n) (pop (tur a n ^^^ s)) = 0 ↔ _
      omega
    rw [hm, apN_0, pop_z, xor_z]
    constructor
    · rintro (⟨k, h1, h2⟩ | h)
      · exact ⟨k, by omega, h2⟩
      · exact ⟨n, by omega, h⟩
    · rintro ⟨k, h1, h2⟩
      by_cases e : k = n
      · subst e
        exact Or.inr h2
      · exact Or.inl ⟨k, by omega, h2⟩
theorem twin_sym {a b : Int64} {m : Bool} (h : Apt a b m = 0) : Apt b a m = 0 := by
  unfold Apt at h ⊢
  obtain ⟨k, hk, e⟩ := apN_0.mp h
  apply apN_0.mpr
  by_cases h4 : k < 4
  · have e' : Cor (trn a k) = Cor b := by
      unfold tur at e
      rw [if_pos h4] at e
      exact e
    refine ⟨(4 - k) % 4, by split <;> omega, ?_⟩
    unfold tur
    rw [if_pos (by omega), ← cor_trn e' ((4 - k) % 4), trn_back a h4]
  · have e' : Cor (trn (Mir a) (k - 4)) = Cor b := by
      unfold tur at e
      rw [if_neg h4] at e
      exact e
    have h8 : k < 8 := by
      cases m
      · have : k < 4 := hk
        omega
      · exact hk
    refine ⟨k, hk, ?_⟩
    unfold tur
    rw [if_neg h4]
    have e1 : Cor (Mir a) = Cor (trn b ((4 - (k - 4)) % 4)) := by
      rw [← cor_trn e' ((4 - (k - 4)) % 4), trn_back (Mir a) (by omega)]
    have e2 := cor_m e1
    rw [Mir_Mir, Mir_trn b (by omega)] at e2
    rw [e2]
    congr 2
    omega
theorem Cor_0 {x : Int64} : Cor x = 0 ↔ x = 0 := by
  constructor
  · intro h
    obtain ⟨r, c, t1, _⟩ := Tq_cor x
    apply lb_zero.mpr
    intro i hi
    cases hb : lb x i with
    | false => rfl
    | true =>
      obtain ⟨i', j', _, _, _, _, q⟩ := t1 (i / 8) (i % 8) (by omega) (by omega) (by rw [show 8 * (i / 8) + i % 8 = i by omega]; exact hb)
      rw [h, lb_0] at q
      cases q
  · rintro rfl
    obtain ⟨r, c, _, _, _, _, _, a4⟩ := Cor_is 0
    apply lb_zero.mpr
    intro i hi
    rw [a4 i hi, lb_0, Bool.and_false]
-- ===== originals =====
def twB (σ : Sg) (m : Bool) (k o : Nat) : Bool := !decide (sInk σ o = 0) && decide (Apt (sInk σ k) (sInk σ o) m = 0)
def orgB (σ : Sg) (m : Bool) (k : Nat) : Bool := !decide (sInk σ k = 0) && !anB (twB σ m k) k
theorem anB_f {f : Nat → Bool} {n : Nat} (h : ∀ i, i < n → f i = false) : anB f n = false := by
  apply Bool.eq_false_iff.mpr
  intro q
  obtain ⟨s, h1, h2⟩ := anB_iff.mp q
  rw [h s h1] at h2
  cases h2
theorem twin_c {M : Mm} {σ : Sg} {k : Nat} (m : Int32) (g : Good σ) (hC : SC σ M) (hk : k < sL σ) : ∃ M', f_X1_hasLesserTwin_24_11 (nI k) m M = some (if anB (twB σ (decide (m ≠ 0)) k) k then 1 else 0, M') ∧ Fr [(26, 999)] M M' := by
  have hL := g.1
  obtain ⟨M', e1, f1, t1, _⟩ := turnsInto_26 (M := M) (h := 0) (sInk σ k) (by omega)
  have hC' : SC σ M' := hC.fr f1 (by decide)
  refine ⟨M', ?_, f1⟩
  unfold f_X1_hasLesserTwin_24_11 bb_X1_hasLesserTwin_24_11_0
  rw [inkOf_c g hC hk, bd_some, show f_X4_turnsInto_26 (sInk σ k) 0 M = some M' from e1, bd_some]
  refine for_q (fun n i (_ : Unit) => b_X1_hasLesserTwin_24_11_16 n (nI k) m (nI i) M') k (fun i _ => ∀ j, j < i → twB σ (decide (m ≠ 0)) k j = false) (fun q => q = some (if anB (twB σ (decide (m ≠ 0)) k) k then 1 else 0, M')) ?_ ?_ k 0 () FU (Nat.zero_add _) (by show _ < 200000; omega) (fun j hj => absurd hj (Nat.not_lt_zero _))
  · intro n i _ hi hI
    show bb_X1_hasLesserTwin_24_11_16 _ _ _ _ _ = _ ∨ ∃ a', bb_X1_hasLesserTwin_24_11_16 _ _ _ _ _ = _ ∧ _
    unfold bb_X1_hasLesserTwin_24_11_16
    have ha := apN_le (sInk σ k) (Cor (sInk σ i)) (tnN m)
    rw [if_neg (nI_ge hi (by omega)), inkOf_c g hC' (show i < sL σ by omega), bd_some, f_corner, bd_some]
    have nx : twB σ (decide (m ≠ 0)) k i = false → ∀ j, j < i + 1 → twB σ (decide (m ≠ 0)) k j = false := by
      intro q j hj
      by_cases e : j = i
      · rw [e]
        exact q
      · exact hI j (by omega)
    by_cases h0 : sInk σ i = 0
    · right
      refine ⟨(), ?_, nx (by unfold twB; simp [h0])⟩
      rw [if_pos (Cor_0.mpr h0), ltv_eq, nI_1]
    · rw [if_neg (fun q => h0 (Cor_0.mp q)), show f_X4_apartBy_26 0 (Cor (sInk σ i)) m M' = some (nI (apN (sInk σ k) (Cor (sInk σ i)) (tnN m))) from apartBy_26 (h := 0) m (by omega) t1, bd_some]
      by_cases q : Apt (sInk σ k) (sInk σ i) (decide (m ≠ 0)) = 0
      · left
        have q' := q
        rw [apt_tn] at q'
        rw [q', if_pos nI_0]
        have : anB (twB σ (decide (m ≠ 0)) k) k = true := anB_iff.mpr ⟨i, hi, by unfold twB; rw [decide_eq_false h0, decide_eq_true q]; rfl⟩
        rw [this]
        rfl
      · right
        have q' := q
        rw [apt_tn] at q'
        refine ⟨(), ?_, nx (by unfold twB; rw [decide_eq_false q, Bool.and_false])⟩
        rw [if_neg (nI_ne0 (by omega) (by omega)), ltv_eq, nI_1]
  · intro n _ hI
    show bb_X1_hasLesserTwin_24_11_16 _ _ _ _ _ = _
    unfold bb_X1_hasLesserTwin_24_11_16
    rw [if_pos (nI_le (Nat.le_refl _) (by omega)), anB_f hI]
    rfl
theorem orig_c {M : Mm} {σ : Sg} (m : Int32) (g : Good σ) (hC : SC σ M) : ∃ M', f_X1_originalLetters_24_11 m M = some (nI (mkB (orgB σ (decide (m ≠ 0))) (sL σ)), M') ∧ Fr [(26, 999)] M M' := by
  have hL := g.1
  refine for_q (fun n k (b : Mm) => b_X1_originalLetters_24_11_5 n m (nI (mkB (orgB σ (decide (m ≠ 0))) k)) (nI k) b) (sL σ) (fun k b => Fr [(26, 999)] M b) (fun q => ∃ M', q = some (nI (mkB (orgB σ (decide (m ≠ 0))) (sL σ)), M') ∧ Fr [(26, 999)] M M') ?_ ?_ (sL σ) 0 M FU (Nat.zero_add _) (by show _ < 200000; omega) Fr.refl
  · intro n k b hk hb
    right
    have hC' : SC σ b := hC.fr hb (by decide)
    show ∃ a', bb_X1_originalLetters_24_11_5 _ _ _ _ _ = b_X1_originalLetters_24_11_5 n m (nI (if orgB σ (decide (m ≠ 0)) k then mkB (orgB σ (decide (m ≠ 0))) k ||| 2 ^ k else mkB (orgB σ (decide (m ≠ 0))) k)) (nI (k + 1)) a' ∧ _
    unfold bb_X1_originalLetters_24_11_5
    rw [hC'.of.1, if_neg (nI_ge hk (by omega)), inkOf_c g hC' hk, bd_some]
    by_cases h0 : sInk σ k = 0
    · refine ⟨b, ?_, hb⟩
      have : orgB σ (decide (m ≠ 0)) k = false := by unfold orgB; simp [h0]
      rw [if_pos h0, ltv_eq, nI_1, this]
      rfl
    · obtain ⟨b', e1, f1⟩ := twin_c m g hC' hk
      refine ⟨b', ?_, Fr.tr hb f1⟩
      rw [if_neg h0, e1, bd2_some]
      cases ht : anB (twB σ (decide (m ≠ 0)) k) k with
      | true =>
        have : orgB σ (decide (m ≠ 0)) k = false := by unfold orgB; rw [ht, Bool.not_true, Bool.and_false]
        rw [this]
        simp only [if_true, i10, if_false, ltv_eq, nI_1, Bool.false_eq_true]
      | false =>
        have : orgB σ (decide (m ≠ 0)) k = true := by unfold orgB; rw [ht, decide_eq_false h0]; rfl
        rw [this]
        simp only [if_true, if_false, ltv_eq, nI_1, Bool.false_eq_true, shI_c k (show k < 31 by omega), nI_or]
  · intro n b hb
    have hC' : SC σ b := hC.fr hb (by decide)
    show ∃ M', bb_X1_originalLetters_24_11_5 _ _ _ _ _ = _ ∧ _
    unfold bb_X1_originalLetters_24_11_5
    rw [hC'.of.1, if_pos (nI_le (Nat.le_refl _) (by omega))]
    exact ⟨b, rfl, hb⟩
theorem origm_in {N : Mm} {σ : Sg} {k : Nat} {m y S : Int32} (k34 : Int32 → Int32 → Int32 → Int32 → Mm → Option (Int32 × Mm)) (g : Good σ) (hM : SM σ N) (hk : k < sL σ) : b_X10_originals_67_67 k34 FU m y S (nI k) (if sInk σ k = 0 then 0 else 1) 0 N = k34 m y (if orgB σ (decide (m ≠ 0)) k then S ||| shI 1 (nI k) else S) (nI (k + 1)) N := by
  have hL := g.1
  have s := hM.of
  have i01 : ¬ (1 : Int32) = 0 := by decide
  have orz : S ||| 0 = S := by simp
  have e125 : ∀ a : Int32, (a = 0 → orgB σ (decide (m ≠ 0)) k = false) → (¬ a = 0 → orgB σ (decide (m ≠ 0)) k = true) → bb_X10_originals_67_125 k34 m y S (nI k) a N = k34 m y (if orgB σ (decide (m ≠ 0)) k then S ||| shI 1 (nI k) else S) (nI (k + 1)) N := by
    intro a h1 h2
    unfold bb_X10_originals_67_125
    by_cases a0 : a = 0
    · rw [if_pos a0, h1 a0, ltv_eq, ltv_eq, nI_1, orz]
      rfl
    · rw [if_neg a0, h2 a0, ltv_eq, ltv_eq, nI_1]
      rfl
  refine for_q (fun n i (a : Int32) => b_X10_originals_67_67 k34 n m y S (nI k) a (nI i) N) k (fun i a => (a = 0 ∧ orgB σ (decide (m ≠ 0)) k = false) ∨ (a = 1 ∧ ¬ sInk σ k = 0 ∧ ∀ j, j < i → twB σ (decide (m ≠ 0)) k j = false)) (fun q => q = k34 m y (if orgB σ (decide (m ≠ 0)) k then S ||| shI 1 (nI k) else S) (nI (k + 1)) N) ?_ ?_ k 0 _ FU (Nat.zero_add _) (by show _ < 200000; omega) ?_
  · rintro n i a hi (⟨rfl, ho⟩ | ⟨rfl, h0, hI⟩)
    · left
      show bb_X10_originals_67_67 _ _ _ _ _ _ _ _ _ = _
      unfold bb_X10_originals_67_67
      rw [if_neg (nI_ge hi (by omega)), if_pos rfl, e125 0 (fun _ => ho) (fun q => absurd rfl q)]
    · right
      have ha := apN_le (sInk σ i) (Cor (sInk σ k)) (if decide (m ≠ 0) then 8 else 4)
      show ∃ a', bb_X10_originals_67_67 _ _ _ _ _ _ _ _ _ = _ ∧ _
      unfold bb_X10_originals_67_67
      have nx : twB σ (decide (m ≠ 0)) k i = false → ∀ j, j < i + 1 → twB σ (decide (m ≠ 0)) k j = false := by
        intro q j hj
        by_cases e : j = i
        · rw [e]
          exact q
        · exact hI j (by omega)
      rw [if_neg (nI_ge hi (by omega)), if_neg i01, gd_of (inb_nI (by omega) (by decide)), ix_nI (show i < 2 ^ 31 by omega), s.2.2.2.1 i (by omega)]
      by_cases z : sInk σ i = 0
      · refine ⟨1, ?_, Or.inr ⟨rfl, h0, nx (by unfold twB; simp [z])⟩⟩
        rw [if_pos z, ltv_eq, nI_1]
      · rw [if_neg z, gd_of (inb_nI (by omega) (by decide)), gd_of (inb_nI (by omega) (by decide)), ix_nI (show k < 2 ^ 31 by omega), s.2.2.2.1 k hk, apart_m, bd_some]
        by_cases q : Apt (sInk σ i) (sInk σ k) (decide (m ≠ 0)) = 0
        · refine ⟨0, ?_, Or.inl ⟨rfl, ?_⟩⟩
          · rw [q, if_pos (by decide), ltv_eq, nI_1]
          · unfold orgB
            rw [anB_iff.mpr ⟨i, hi, by unfold twB; rw [decide_eq_false z, decide_eq_true (twin_sym q)]; rfl⟩, Bool.not_true, Bool.and_false]
        · refine ⟨1, ?_, Or.inr ⟨rfl, h0, nx ?_⟩⟩
          · rw [if_neg (nI_nle (by omega) (by unfold Apt; omega)), ltv_eq, nI_1]
          · unfold twB
            rw [decide_eq_false (fun w => q (twin_sym w)), Bool.and_false]
  · rintro n a (⟨rfl, ho⟩ | ⟨rfl, h0, hI⟩)
    · show bb_X10_originals_67_67 _ _ _ _ _ _ _ _ _ = _
      unfold bb_X10_originals_67_67
      rw [if_pos (nI_le (Nat.le_refl _) (by omega)), e125 0 (fun _ => ho) (fun q => absurd rfl q)]
    · show bb_X10_originals_67_67 _ _ _ _ _ _ _ _ _ = _
      unfold bb_X10_originals_67_67
      rw [if_pos (nI_le (Nat.le_refl _) (by omega)), e125 1 (fun q => absurd q i01) (fun _ => by unfold orgB; rw [anB_f hI]; simp [h0])]
  · by_cases h0 : sInk σ k = 0
    · rw [if_pos h0]
      exact Or.inl ⟨rfl, by unfold orgB; simp [h0]⟩
    · rw [if_neg h0]
      exact Or.inr ⟨rfl, h0, fun j hj => absurd hj (Nat.not_lt_zero _)⟩
theorem orig_m {N : Mm} {σ : Sg} {m y : Int32} (g : Good σ) (hM : SM σ N) : b_X10_originals_67_34 FU m y 0 0 N = some (if y = 0 then nI (popN (mkB (orgB σ (decide (m ≠ 0))) (sL σ))) else nI (mkB (orgB σ (decide (m ≠ 0))) (sL σ)), N) := by
  have hL := g.1
  have s := hM.of
  have hlt : mkB (orgB σ (decide (m ≠ 0))) (sL σ) < 2 ^ 31 := Nat.lt_of_lt_of_le (mkB_lt _ _) (Nat.pow_le_pow_right (by decide) (by omega))
  refine for_q (fun n k (_ : Unit) => b_X10_originals_67_34 n m y (nI (mkB (orgB σ (decide (m ≠ 0))) k)) (nI k) N) (sL σ) (fun _ _ => True) (fun q => q = some (if y = 0 then nI (popN (mkB (orgB σ (decide (m ≠ 0))) (sL σ))) else nI (mkB (orgB σ (decide (m ≠ 0))) (sL σ)), N)) ?_ ?_ (sL σ) 0 () FU (Nat.zero_add _) (by show _ < 200000; omega) trivial
  · intro n k _ hk _
    right
    refine ⟨(), ?_, trivial⟩
    show bb_X10_originals_67_34 _ _ _ _ _ _ = b_X10_originals_67_34 n m y (nI (if orgB σ (decide (m ≠ 0)) k then mkB (orgB σ (decide (m ≠ 0))) k ||| 2 ^ k else mkB (orgB σ (decide (m ≠ 0))) k)) (nI (k + 1)) N
    unfold bb_X10_originals_67_34
    rw [s.1, if_neg (nI_ge hk (by omega)), gd_of (inb_nI (by omega) (by decide)), ix_nI (by omega), s.2.2.2.1 k hk]
    have fin : b_X10_originals_67_34 n m y (if orgB σ (decide (m ≠ 0)) k then nI (mkB (orgB σ (decide (m ≠ 0))) k) ||| shI 1 (nI k) else nI (mkB (orgB σ (decide (m ≠ 0))) k)) (nI (k + 1)) N = b_X10_originals_67_34 n m y (nI (if orgB σ (decide (m ≠ 0)) k then mkB (orgB σ (decide (m ≠ 0))) k ||| 2 ^ k else mkB (orgB σ (decide (m ≠ 0))) k)) (nI (k + 1)) N := by
      rw [shI_c k (by omega), nI_or]
      cases orgB σ (decide (m ≠ 0)) k <;> rfl
    rw [← fin, ← origm_in (S := nI (mkB (orgB σ (decide (m ≠ 0))) k)) (b_X10_originals_67_34 n) g hM hk]
    by_cases h0 : sInk σ k = 0
    · rw [if_pos h0, if_pos h0]
    · rw [if_neg h0, if_neg h0]
  · intro n _ _
    show bb_X10_originals_67_34 _ _ _ _ _ _ = _
    unfold bb_X10_originals_67_34
    rw [s.1, if_pos (nI_le (Nat.le_refl _) (by omega)), f_ones, bd_some, pop_nI hlt]
    by_cases y0 : y = 0
    · rw [if_pos y0, if_pos y0]
    · rw [if_neg y0, if_neg y0]
theorem c_originals {M : Mm} (z y : Int32) (h : Rel M) : AnsI (fw_L_originals_0_120 z y M) (f_X10_originals_67 z y) := by
  obtain ⟨σ, β, hR⟩ := id h
  obtain ⟨g, gB, hC, hM, hb, hm, hT, hI⟩ := id hR
  have hL := g.1
  cases hy : inI y 0 1 with
  | false =>
    refine ans_t (c := 1) (w := 0) h (by decide) ?_ ?_
    · simp only [fw_L_originals_0_120, t_X9_originals_0, t_needR_f hy, orx]
    · simp only [f_X10_originals_67, bb_X10_originals_67_0, ltv_eq, f_inI, hy, bd_some, Bool.false_eq_true, if_false, if_true, bb_X10_originals_67_20, bad1 (M := wI M 67 0 0) (k := 1) rfl (by decide), bd2_some, i10]
  | true =>
    obtain ⟨M1, e1, f1⟩ := orig_c z g hC.1
    have hlt : mkB (orgB σ (decide (z ≠ 0))) (sL σ) < 2 ^ 31 := Nat.lt_of_lt_of_le (mkB_lt _ _) (Nat.pow_le_pow_right (by decide) (by omega))
    have hR1 : Rl σ β M1 := hR.fr f1 (by decide)
    refine ans_g (L := []) (M1 := M1) (v := if y = 0 then nI (popN (mkB (orgB σ (decide (z ≠ 0))) (sL σ))) else nI (mkB (orgB σ (decide (z ≠ 0))) (sL σ))) ⟨σ, β, hR1⟩ ?_ ?_ rfl rfl rfl
    · have cl : f_X9_originals_0 z y M = some (if y = 0 then nI (popN (mkB (orgB σ (decide (z ≠ 0))) (sL σ))) else nI (mkB (orgB σ (decide (z ≠ 0))) (sL σ)), M1) := by
        unfold f_X9_originals_0 bb_X9_originals_0_0
        rw [f_needR hy, bd_some, e1, bd2_some, f_bits32 hlt]
        by_cases y0 : y = 0
        · rw [if_pos y0, if_pos y0]
          rfl
        · rw [if_neg y0, if_neg y0]
      simp only [fw_L_originals_0_120, t_X9_originals_0, t_needR_t hy, orx, f_L_originals_0_120, bb_L_originals_0_120_0, cl, bd2_some, ltv_eq]
    · generalize ho : (if y = 0 then nI (popN (mkB (orgB σ (decide (z ≠ 0))) (sL σ))) else nI (mkB (orgB σ (decide (z ≠ 0))) (sL σ))).toInt64 = o
      obtain ⟨hM', _⟩ := hR1.md o
      generalize hN : wI (wJ M1 120 0 o) 67 0 0 = N at hM' ⊢
      have N0 : N.1 67 0 = 0 := by rw [← hN]; rfl
      refine ⟨N, ?_, Fr.refl⟩
      simp only [f_X10_originals_67, bb_X10_originals_67_0, ltv_eq, hN, f_inI, hy, bd_some, if_true, i10, if_false, bb_X10_originals_67_20, bad0 N0, bd2_some, orig_m g hM']
