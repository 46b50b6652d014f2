-- ===== what is open, along a line =====
def slD (d i j : Nat) : Prop := (d < 2 → i / 8 = j / 8) ∧ (2 ≤ d → i % 8 = j % 8)
theorem opn_pos {ink : Int64} {d i : Nat} (hd : d < 4) (hi : i < 64) : opn ink d i = true ↔ ∀ j, j < 64 → slD d i j → tD d j ≤ tD d i → lb ink j = false := by
  have key : ∀ t i, i < 64 → tD d i = t → (opn ink d i = true ↔ ∀ j, j < 64 → slD d i j → tD d j ≤ t → lb ink j = false) := by
    intro t
    induction t with
    | zero =>
      intro i hi ht
      rw [opn_0 ht]
      constructor
      · intro h j hj hs hle
        have e : j = i := by
          obtain ⟨h1, h2⟩ := hs
          rcases (show d = 0 ∨ d = 1 ∨ d = 2 ∨ d = 3 by omega) with rfl | rfl | rfl | rfl <;> (simp only [tD] at *; omega)
        rw [e]
        simpa using h
      · intro h
        have := h i hi ⟨fun _ => rfl, fun _ => rfl⟩ (by omega)
        rw [this]
        rfl
    | succ t ih =>
      intro i hi ht
      obtain ⟨p1, p2⟩ := tD_p d hd i hi (by omega)
      rw [opn_s hd hi (by omega), Bool.and_eq_true, ih (pD d i) p1 (by omega)]
      constructor
      · rintro ⟨h0, h⟩ j hj hs hle
        by_cases e : j = i
        · rw [e]
          simpa using h0
        · refine h j hj ?_ ?_
          · obtain ⟨h1, h2⟩ := hs
            clear h0 h ih
            rcases (show d = 0 ∨ d = 1 ∨ d = 2 ∨ d = 3 by omega) with rfl | rfl | rfl | rfl <;> (simp only [tD, pD, slD] at *; omega)
          · obtain ⟨h1, h2⟩ := hs
            clear h0 h ih
            rcases (show d = 0 ∨ d = 1 ∨ d = 2 ∨ d = 3 by omega) with rfl | rfl | rfl | rfl <;> (simp only [tD, pD] at *; omega)
      · intro h
        constructor
        · rw [h i hi ⟨fun _ => rfl, fun _ => rfl⟩ (by omega)]
          rfl
        · intro j hj hs hle
          refine h j hj ?_ (by omega)
          obtain ⟨h1, h2⟩ := hs
          clear h ih
          rcases (show d = 0 ∨ d = 1 ∨ d = 2 ∨ d = 3 by omega) with rfl | rfl | rfl | rfl <;> (simp only [tD, pD, slD] at *; omega)
  rw [key (tD d i) i hi rfl]
theorem rwL_or (ink : Int64) {i : Nat} (hi : i < 64) : rwL ink i < 16 ∨ rwL ink i = 99 := by
  unfold rwL
  split
  · omega
  · split <;> omega
theorem clL_or (ink : Int64) {i : Nat} (hi : i < 64) : (16 ≤ clL ink i ∧ clL ink i < 32) ∨ clL ink i = 99 := by
  unfold clL
  split
  · omega
  · split <;> omega
def tkB (ink : Int64) (l i : Nat) : Bool := decide (rwL ink i = l) || decide (clL ink i = l)
/-- what line l takes -/
def Tk (ink : Int64) (l : Nat) : Int64 := ofB (tkB ink l) 64
theorem lb_Tk (ink : Int64) (l : Nat) {i : Nat} (hi : i < 64) : lb (Tk ink l) i = tkB ink l i := lb_ofB _ hi
-- ===== the greedy way to the least set =====
theorem sub_le {a b : Nat} (h : ∀ l, a.testBit l = true → b.testBit l = true) : a ≤ b := by
  have e : a &&& b = a := by
    apply Nat.eq_of_testBit_eq
    intro l
    rw [Nat.testBit_and]
    cases ha : a.testBit l with
    | false => rfl
    | true => rw [h l ha]; rfl
  rw [← e]
  exact Nat.and_le_right
theorem top_lt {a b k : Nat} (h : ∀ l, k < l → a.testBit l = true → b.testBit l = true) (ha : a.testBit k = false) (hb : b.testBit k = true) : a < b := by
  have h1 : a / 2 ^ k / 2 ≤ b / 2 ^ k / 2 := by
    apply sub_le
    intro l hl
    have e : ∀ x : Nat, (x / 2 ^ k / 2).testBit l = x.testBit (k + 1 + l) := by
      intro x
      rw [Nat.div_div_eq_div_mul, ← Nat.pow_succ, Nat.testBit_div_two_pow]
      congr 1
      omega
    rw [e] at hl ⊢
    exact h _ (by omega) hl
  have h2 : a / 2 ^ k % 2 = 0 := by
    rw [Nat.testBit_eq_decide_div_mod_eq, decide_eq_false_iff_not] at ha
    omega
  have h3 : b / 2 ^ k % 2 = 1 := by
    rw [Nat.testBit_eq_decide_div_mod_eq, decide_eq_true_eq] at hb
    exact hb
  have h4 : a / 2 ^ k < b / 2 ^ k := by omega
  apply Classical.byContradiction
  intro hc
  have := Nat.div_le_div_right (c := 2 ^ k) (show b ≤ a by omega)
  omega
/-- lines from k on are decided: T are taken, W are not -/
def Gr (S k W T : Nat) : Prop := T < 2 ^ 32 ∧ W < 2 ^ 32 ∧ (∀ l, k ≤ l → l < 32 → T.testBit l = S.testBit l ∧ W.testBit l = !S.testBit l) ∧ ∀ l, l < k → T.testBit l = false ∧ W.testBit l = false
theorem bit_or2 {a k l : Nat} : (a ||| 2 ^ k).testBit l = (a.testBit l || decide (k = l)) := by
  rw [Nat.testBit_or, Nat.testBit_two_pow]
theorem Gr.out {S k W T : Nat} (hk : k < 32) (h : Gr S (k + 1) W T) (hS : S.testBit k = false) : Gr S k (W ||| 2 ^ k) T := by
  obtain ⟨g1, g2, g3, g4⟩ := h
  refine ⟨g1, or_lt g2 (pow2_lt hk), fun l hl h32 => ?_, fun l hl => ?_⟩
  · rw [bit_or2]
    by_cases e : k = l
    · subst e
      obtain ⟨q1, q2⟩ := g4 k (by omega)
      rw [q1, q2, hS]
      simp
    · obtain ⟨q1, q2⟩ := g3 l (by omega) h32
      rw [q1, q2]
      simp [e]
  · rw [bit_or2]
    obtain ⟨q1, q2⟩ := g4 l (by omega)
    have e : ¬ k = l := by omega
    rw [q1, q2]
    simp [e]
theorem Gr.take {S k W T : Nat} (hk : k < 32) (h : Gr S (k + 1) W T) (hS : S.testBit k = true) : Gr S k W (T ||| 2 ^ k) := by
  obtain ⟨g1, g2, g3, g4⟩ := h
  refine ⟨or_lt g1 (pow2_lt hk), g2, fun l hl h32 => ?_, fun l hl => ?_⟩
  · rw [bit_or2]
    by_cases e : k = l
    · subst e
      obtain ⟨q1, q2⟩ := g4 k (by omega)
      rw [q1, q2, hS]
      simp
    · obtain ⟨q1, q2⟩ := g3 l (by omega) h32
      rw [q1, q2]
      simp [e]
  · rw [bit_or2]
    obtain ⟨q1, q2⟩ := g4 l (by omega)
    have e : ¬ k = l := by omega
    rw [q1, q2]
    simp [e]
theorem Gr.fin {S W T : Nat} (hS : S < 2 ^ 32) (h : Gr S 0 W T) : T = S := by
  apply Nat.eq_of_testBit_eq
  intro l
  by_cases h32 : l < 32
  · exact (h.2.2.1 l (Nat.zero_le _) h32).1
  · rw [Nat.testBit_lt_two_pow (Nat.lt_of_lt_of_le h.1 (Nat.pow_le_pow_right (by decide) (by omega))), Nat.testBit_lt_two_pow (Nat.lt_of_lt_of_le hS (Nat.pow_le_pow_right (by decide) (by omega)))]
theorem Gr.start (S : Nat) : Gr S 32 0 0 := ⟨by decide, by decide, fun l h1 h2 => by omega, fun l _ => ⟨Nat.zero_testBit l, Nat.zero_testBit l⟩⟩
section greedy
variable {ink : Int64} {S k W T Hd : Nat}
theorem gr_no (hL : IsLns ink S) (hk : k < 32) (h : Gr S (k + 1) W T) {U : Nat} (hU : Adm (Rch ink) (rwL ink) (clL ink) Hd (W ||| 2 ^ k) U) (hp : popN U = popN S) : S.testBit k = false := by
  cases hs : S.testBit k with
  | false => rfl
  | true =>
    exfalso
    obtain ⟨u1, u2, _, u4⟩ := hU
    have uk : U.testBit k = false := by
      cases q : U.testBit k with
      | false => rfl
      | true =>
        have := u4 k q
        rw [bit_or2] at this
        simp at this
    have lt : U < S := by
      refine top_lt (fun l hl hb => ?_) uk hs
      have := u4 l hb
      rw [bit_or2] at this
      have h32 := bit_hi u1 hb
      obtain ⟨q1, q2⟩ := h.2.2.1 l (by omega) h32
      rw [q2] at this
      cases hb2 : S.testBit l with
      | true => rfl
      | false =>
        rw [hb2] at this
        simp at this
    have := hL.2.2.2 U u1 u2 hp
    omega
theorem gr_yes (hL : IsLns ink S) (hk : k < 32) (h : Gr S (k + 1) W T) (hT : ∀ l, Hd.testBit l = true → T.testBit l = true) (hn : ¬ ∃ U, Adm (Rch ink) (rwL ink) (clL ink) Hd (W ||| 2 ^ k) U ∧ popN U = popN S) : S.testBit k = true := by
  cases hs : S.testBit k with
  | true => rfl
  | false =>
    exfalso
    apply hn
    refine ⟨S, ⟨hL.1, hL.2.1, fun l hl => ?_, fun l hl => ?_⟩, rfl⟩
    · have ht := hT l hl
      have h32 := bit_hi h.1 ht
      by_cases q : k + 1 ≤ l
      · rw [← (h.2.2.1 l q h32).1]
        exact ht
      · rw [(h.2.2.2 l (by omega)).1] at ht
        cases ht
    · rw [bit_or2]
      have e : ¬ k = l := by
        intro e
        rw [← e, hs] at hl
        cases hl
      have h32 := bit_hi hL.1 hl
      by_cases q : k + 1 ≤ l
      · rw [(h.2.2.1 l q h32).2, hl]
        simp [e]
      · rw [(h.2.2.2 l (by omega)).2]
        simp [e]
theorem gr_idle (hL : IsLns ink S) (hk : k < 32) (h0 : (Tk ink k &&& Rch ink) = 0) : S.testBit k = false := by
  cases hs : S.testBit k with
  | false => rfl
  | true =>
    exfalso
    have hp : popN S = popN (andn S (2 ^ k)) + 1 := by
      refine bcn_one (k := k) hk (fun i hi => ?_) hs ?_
      · rw [andn_bit, Nat.testBit_two_pow]
        have : ¬ k = i := fun q => hi q.symm
        simp [this]
      · rw [andn_bit, Nat.testBit_two_pow_self]
        simp
    have := hL.2.2.1 (andn S (2 ^ k)) (andn_lt hL.1) (fun i hi hb => ?_)
    · omega
    · have hz : tkB ink k i = false := by
        have := congrArg (fun z => lb z i) h0
        simp only [lb_and, lb_0, lb_Tk ink k hi, hb, Bool.and_true] at this
        exact this
      unfold tkB at hz
      simp only [Bool.or_eq_false_iff, decide_eq_false_iff_not] at hz
      rw [andn_bit, andn_bit, Nat.testBit_two_pow, Nat.testBit_two_pow]
      have e1 : ¬ k = rwL ink i := fun q => hz.1 q.symm
      have e2 : ¬ k = clL ink i := fun q => hz.2 q.symm
      rcases hL.2.1 i hi hb with q | q
      · left
        simp [q, e1]
      · right
        simp [q, e2]
end greedy
theorem Lns_ex (ink : Int64) : ∃ S, IsLns ink S := by
  have full : Cov ink (Rch ink) (2 ^ 32 - 1) := by
    intro i hi hb
    rw [lb_Rch ink hi] at hb
    unfold rchB at hb
    rw [Nat.testBit_two_pow_sub_one, Nat.testBit_two_pow_sub_one]
    unfold rwL clL
    cases h0 : opn ink 0 i with
    | true =>
      left
      rw [if_pos rfl]
      exact decide_eq_true (by omega)
    | false =>
      cases h1 : opn ink 1 i with
      | true =>
        left
        rw [if_neg (by decide), if_pos rfl]
        exact decide_eq_true (by omega)
      | false =>
        right
        cases h2 : opn ink 2 i with
        | true =>
          rw [if_pos rfl]
          exact decide_eq_true (by omega)
        | false =>
          cases h3 : opn ink 3 i with
          | true =>
            rw [if_neg (by decide), if_pos rfl]
            exact decide_eq_true (by omega)
          | false =>
            rw [h0, h1, h2, h3] at hb
            cases hb
  obtain ⟨n, _, ⟨S0, s1, s2, s3⟩, n3⟩ := least_ex (P := fun n => ∃ S, S < 2 ^ 32 ∧ Cov ink (Rch ink) S ∧ popN S = n) _ ⟨2 ^ 32 - 1, by decide, full, rfl⟩
  obtain ⟨S, _, ⟨t1, t2, t3⟩, t4⟩ := least_ex (P := fun S => S < 2 ^ 32 ∧ Cov ink (Rch ink) S ∧ popN S = n) S0 ⟨s1, s2, s3⟩
  exact ⟨S, t1, t2, fun T h1 h2 => by rw [t3]; exact n3 _ ⟨T, h1, h2, rfl⟩, fun T h1 h2 h3 => t4 T ⟨h1, h2, by rw [h3, t3]⟩⟩
/-- the fewest lines with Hd and without B, beside Hd -/
def MinN (ink sq : Int64) (Hd B n : Nat) : Prop := (∃ S, Adm sq (rwL ink) (clL ink) Hd B S ∧ popN S = n + popN Hd) ∧ ∀ S, Adm sq (rwL ink) (clL ink) Hd B S → n + popN Hd ≤ popN S
theorem MinN.few {ink sq : Int64} {n : Nat} (h : MinN ink sq 0 0 n) : IsFew ink sq n := by
  obtain ⟨⟨S, h1, h2⟩, h3⟩ := h
  rw [popN_0, Nat.add_zero] at h2
  refine ⟨⟨S, h1.1, h1.2.1, h2⟩, fun T t1 t2 => ?_⟩
  have := h3 T ⟨t1, t2, fun l hl => (by rw [Nat.zero_testBit] at hl; cases hl), fun l _ => Nat.zero_testBit l⟩
  rw [popN_0] at this
  omega
