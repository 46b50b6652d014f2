-- ===== the model's squares =====
theorem f_in {a b c : Nat} (ha : a < 2 ^ 31) (hb : b < 2 ^ 31) (hc : c < 2 ^ 31) : f_X10_in (nI a) (nI b) (nI c) = some (if b ≤ a ∧ a ≤ c then 1 else 0) := by
  show (if nI a < nI b then (some (0 : Int32)) else (if nI c < nI a then (some (0 : Int32)) else (some (1 : Int32)))) = _
  by_cases h1 : a < b
  · rw [if_pos (nI_lt h1 hb), if_neg (by omega)]
  · rw [if_neg (nI_nlt (by omega) ha)]
    by_cases h2 : c < a
    · rw [if_pos (nI_lt h2 ha), if_neg (by omega)]
    · rw [if_neg (nI_nlt (by omega) hc), if_pos (by omega)]
theorem in07 {a : Nat} (ha : a < 8) : f_X10_in (nI a) 0 7 = some 1 := by
  have := f_in (a := a) (b := 0) (c := 7) (by omega) (by decide) (by decide)
  rw [if_pos (by omega)] at this
  exact this
theorem in07m : f_X10_in (-1) 0 7 = some 0 := rfl
theorem in078 : f_X10_in 8 0 7 = some 0 := rfl
def dX : Nat → Int32
  | 0 => -1
  | 1 => 1
  | _ => 0
def dY : Nat → Int32
  | 2 => -1
  | 3 => 1
  | _ => 0
theorem nI_dec {x : Nat} (h : 0 < x) : nI x + (-1) = nI (x - 1) := sb_m1 h
theorem nI_z (x : Nat) : nI x + 0 = nI x := nI_add x 0
theorem step_in : ∀ d, d < 4 → ∀ x y, x < 8 → y < 8 → 0 < tD d (8 * y + x) → ∃ x' y', x' < 8 ∧ y' < 8 ∧ nI x + dX d = nI x' ∧ nI y + dY d = nI y' ∧ 8 * y' + x' = pD d (8 * y + x) := by
  refine d_lt4 ?_ ?_ ?_ ?_
  · intro x y hx hy h
    simp only [tD] at h
    exact ⟨x - 1, y, by omega, hy, nI_dec (by omega), nI_z y, by simp only [pD]; omega⟩
  · intro x y hx hy h
    simp only [tD] at h
    exact ⟨x + 1, y, by omega, hy, nI_1 x, nI_z y, by simp only [pD]; omega⟩
  · intro x y hx hy h
    simp only [tD] at h
    exact ⟨x, y - 1, hx, by omega, nI_z x, nI_dec (by omega), by simp only [pD]; omega⟩
  · intro x y hx hy h
    simp only [tD] at h
    exact ⟨x, y + 1, hx, by omega, nI_z x, nI_1 y, by simp only [pD]; omega⟩
theorem step_out : ∀ d, d < 4 → ∀ x y, x < 8 → y < 8 → tD d (8 * y + x) = 0 → f_X10_in (nI x + dX d) 0 7 = some 0 ∨ (f_X10_in (nI x + dX d) 0 7 = some 1 ∧ f_X10_in (nI y + dY d) 0 7 = some 0) := by
  refine d_lt4 ?_ ?_ ?_ ?_
  · intro x y hx hy h
    simp only [tD] at h
    obtain rfl : x = 0 := by omega
    exact Or.inl rfl
  · intro x y hx hy h
    simp only [tD] at h
    obtain rfl : x = 7 := by omega
    exact Or.inl rfl
  · intro x y hx hy h
    simp only [tD] at h
    obtain rfl : y = 0 := by omega
    refine Or.inr ⟨?_, rfl⟩
    rw [show nI x + dX 2 = nI x from nI_z x]
    exact in07 hx
  · intro x y hx hy h
    simp only [tD] at h
    obtain rfl : y = 7 := by omega
    refine Or.inr ⟨?_, rfl⟩
    rw [show nI x + dX 3 = nI x from nI_z x]
    exact in07 hx
theorem isOpen_n (ink : Int64) (d : Nat) (hd : d < 4) : ∀ t n x y, x < 8 → y < 8 → tD d (8 * y + x) = t → t + 1 < n → b_X10_isOpen_12 n ink (dX d) (dY d) (nI x) (nI y) = some (if opn ink d (8 * y + x) then 1 else 0) := by
  intro t
  induction t with
  | zero =>
    intro n x y hx hy ht hn
    obtain ⟨n, rfl⟩ : ∃ m, n = m + 2 := ⟨n - 2, by omega⟩
    show bb_X10_isOpen_12 _ _ _ _ _ _ = _
    unfold bb_X10_isOpen_12
    have e8 : (8 : Int32) * nI y + nI x = nI (8 * y + x) := by
      show nI 8 * nI y + nI x = _
      rw [pk_mul, nI_add]
    rw [in07 hx, bd_some, if_neg (by decide), in07 hy, bd_some, if_neg (by decide), e8, opn_0 ht]
    cases hb : lb ink (8 * y + x) with
    | true =>
      rw [is_t (by omega) hb]
      rfl
    | false =>
      rw [is_f (by omega) hb, bd_some, if_pos rfl, ltv_eq, ltv_eq]
      show bb_X10_isOpen_12 _ _ _ _ _ _ = _
      unfold bb_X10_isOpen_12
      rcases step_out d hd x y hx hy ht with h | ⟨h1, h2⟩
      · rw [h]
        rfl
      · rw [h1, bd_some, if_neg (by decide), h2]
        rfl
  | succ t ih =>
    intro n x y hx hy ht hn
    obtain ⟨n, rfl⟩ : ∃ m, n = m + 1 := ⟨n - 1, by omega⟩
    show bb_X10_isOpen_12 _ _ _ _ _ _ = _
    unfold bb_X10_isOpen_12
    have e8 : (8 : Int32) * nI y + nI x = nI (8 * y + x) := by
      show nI 8 * nI y + nI x = _
      rw [pk_mul, nI_add]
    rw [in07 hx, bd_some, if_neg (by decide), in07 hy, bd_some, if_neg (by decide), e8, opn_s hd (by omega) (by omega)]
    cases hb : lb ink (8 * y + x) with
    | true =>
      rw [is_t (by omega) hb]
      rfl
    | false =>
      rw [is_f (by omega) hb, bd_some, if_pos rfl, ltv_eq, ltv_eq]
      obtain ⟨x', y', h1, h2, h3, h4, h5⟩ := step_in d hd x y hx hy (by omega)
      rw [h3, h4, ← h5]
      have ht' : tD d (8 * y' + x') = t := by
        rw [h5, (tD_p d hd _ (by omega) (by omega)).2]
        omega
      rw [ih n x' y' h1 h2 ht' (by omega)]
      rfl
theorem isOpen_ok (ink : Int64) {d s : Nat} (hd : d < 4) (hs : s < 64) : f_X10_isOpen ink (nI s) (dX d) (dY d) = some (if opn ink d s then 1 else 0) := by
  show b_X10_isOpen_12 FU ink (dX d) (dY d) (rmI (nI s) (nI 8)) (nI s / nI 8) = _
  rw [rmI_nI (by omega) (by decide) (by decide), pk_div (by omega) (by decide) (by decide)]
  have e : 8 * (s / 8) + s % 8 = s := by omega
  have := isOpen_n ink d hd _ FU (s % 8) (s / 8) (by omega) (by omega) rfl (by
    rw [e]
    have := tD_le d hd s hs
    show _ < 200000
    omega)
  rw [e] at this
  exact this
theorem g_reached (ink : Int64) : f_X10_reached ink = some (Rch ink) := by
  have main : Gv (fun y => ∀ i, i < 64 → lb y i = rchB ink i) (f_X10_reached ink) := by
    show Gv _ (b_X10_reached_5 FU ink 0 (nI 0))
    refine for_q (fun n k a => b_X10_reached_5 n ink a (nI k)) 64 (fun k a => ∀ i, i < 64 → lb a i = (decide (i < k) && rchB ink i)) _ ?_ ?_ 64 0 _ FU rfl (by decide) ?_
    · intro n k a hk hI
      right
      have o0 : f_X10_isOpen ink (nI k) (-1) 0 = _ := isOpen_ok ink (d := 0) (by decide) hk
      have o1 : f_X10_isOpen ink (nI k) 1 0 = _ := isOpen_ok ink (d := 1) (by decide) hk
      have o2 : f_X10_isOpen ink (nI k) 0 (-1) = _ := isOpen_ok ink (d := 2) (by decide) hk
      have o3 : f_X10_isOpen ink (nI k) 0 1 = _ := isOpen_ok ink (d := 3) (by decide) hk
      have w1 : ∀ i, i < 64 → rchB ink k = false → lb a i = (decide (i < k + 1) && rchB ink i) := by
        intro i hi hr
        rw [hI i hi]
        by_cases e : i = k
        · subst e
          rw [hr]
          simp
        · congr 2
          apply propext
          omega
      have w2 : ∀ i, i < 64 → rchB ink k = true → lb (a ||| shL 1 (nI k)) i = (decide (i < k + 1) && rchB ink i) := by
        intro i hi hr
        rw [lb_set _ hk hi, hI i hi]
        by_cases e : i = k
        · subst e
          rw [hr]
          simp
        · have h1 : decide (i < k + 1) = decide (i < k) := by
            congr 1
            apply propext
            omega
          rw [h1]
          simp [e]
      show (∃ a', bb_X10_reached_5 (b_X10_reached_5 n) ink a (nI k) = _ ∧ _)
      unfold bb_X10_reached_5
      rw [if_neg (show ¬ (64 : Int32) ≤ nI k from nI_ge hk (by decide)), o1, bd_some]
      cases h1 : opn ink 1 k with
      | true =>
        refine ⟨_, ?_, fun i hi => w2 i hi (by unfold rchB; simp [h1])⟩
        rw [if_neg (by decide), ltv_eq, ltv_eq, nI_1]
      | false =>
        rw [if_pos (by decide), o0, bd_some]
        cases h0 : opn ink 0 k with
        | true =>
          refine ⟨_, ?_, fun i hi => w2 i hi (by unfold rchB; simp [h0])⟩
          rw [if_neg (by decide), ltv_eq, ltv_eq, nI_1]
        | false =>
          rw [if_pos (by decide), o3, bd_some]
          cases h3 : opn ink 3 k with
          | true =>
            refine ⟨_, ?_, fun i hi => w2 i hi (by unfold rchB; simp [h3])⟩
            rw [if_neg (by decide), ltv_eq, ltv_eq, nI_1]
          | false =>
            rw [if_pos (by decide), o2, bd_some]
            cases h2 : opn ink 2 k with
            | true =>
              refine ⟨_, ?_, fun i hi => w2 i hi (by unfold rchB; simp [h2])⟩
              rw [if_neg (by decide), ltv_eq, ltv_eq, nI_1]
            | false =>
              refine ⟨_, ?_, fun i hi => w1 i hi (by unfold rchB; simp [h0, h1, h2, h3])⟩
              rw [if_pos (by decide), ltv_eq, nI_1]
    · intro n a hI
      refine ⟨a, rfl, ?_⟩
      intro i hi
      rw [hI i hi]
      simp [hi]
    · intro i hi
      rw [lb_0]
      simp
  obtain ⟨v, e, h⟩ := main
  rw [e, ofB_lb h]
  rfl
theorem g_hidden (ink : Int64) : f_X10_hidden ink = some (Hid ink) := by
  unfold f_X10_hidden bb_X10_hidden_0
  rw [g_reached, bd_some]
  congr 1
  apply lb_ext
  intro i hi
  unfold Hid
  rw [lb_and, lb_not _ hi, lb_not _ hi, lb_not _ hi, lb_or]
  cases lb ink i <;> cases lb (Rch ink) i <;> rfl
/-- a loop of the model that puts bits: what it has put so far -/
def anB (f : Nat → Bool) : Nat → Bool
  | 0 => false
  | n + 1 => anB f n || f n
theorem anB_iff {f : Nat → Bool} : ∀ {n : Nat}, anB f n = true ↔ ∃ s, s < n ∧ f s = true
  | 0 => by
    constructor
    · intro h
      cases h
    · rintro ⟨s, h, _⟩
      omega
  | n + 1 => by
    show (anB f n || f n) = true ↔ _
    rw [Bool.or_eq_true, anB_iff]
    constructor
    · rintro (⟨s, h1, h2⟩ | h)
      · exact ⟨s, by omega, h2⟩
      · exact ⟨n, by omega, h⟩
    · rintro ⟨s, h1, h2⟩
      by_cases e : s = n
      · subst e
        exact Or.inr h2
      · exact Or.inl ⟨s, by omega, h2⟩
theorem anB_one {x : Int64} {g h : Nat → Nat} {j : Nat} (hj : h j < 64) (hg : g (h j) = j) (hu : ∀ s, s < 64 → g s = j → s = h j) : anB (fun s => lb x s && decide (j = g s)) 64 = lb x (h j) := by
  apply Bool.eq_iff_iff.mpr
  rw [anB_iff]
  constructor
  · rintro ⟨s, h1, h2⟩
    simp only [Bool.and_eq_true, decide_eq_true_eq] at h2
    rw [← hu s h1 h2.2.symm]
    exact h2.1
  · intro q
    exact ⟨h j, hj, by simp [q, hg]⟩
/-- the model's turns: bit s goes to g s -/
theorem put_loop (b : Nat → Nat → Int64 → Option Int64) (x : Int64) (g : Nat → Nat) (hg : ∀ s, s < 64 → g s < 64)
    (h1 : ∀ n k a, k < 64 → lb x k = true → b (n + 1) k a = b n (k + 1) (a ||| shL 1 (nI (g k))))
    (h0 : ∀ n k a, k < 64 → lb x k = false → b (n + 1) k a = b n (k + 1) a)
    (he : ∀ n a, b (n + 1) 64 a = some a) : Gv (fun y => ∀ j, j < 64 → lb y j = anB (fun s => lb x s && decide (j = g s)) 64) (b FU 0 0) := by
  refine for_q b 64 (fun k a => ∀ j, j < 64 → lb a j = anB (fun s => lb x s && decide (j = g s)) k) _ ?_ ?_ 64 0 _ FU rfl (by decide) ?_
  · intro n k a hk hI
    right
    cases hb : lb x k with
    | true =>
      refine ⟨_, h1 n k a hk hb, ?_⟩
      intro j hj
      rw [lb_set _ (hg k hk) hj, hI j hj]
      show _ = (anB _ k || (lb x k && decide (j = g k)))
      rw [hb, Bool.true_and]
    | false =>
      refine ⟨_, h0 n k a hk hb, ?_⟩
      intro j hj
      rw [hI j hj]
      show _ = (anB _ k || (lb x k && decide (j = g k)))
      rw [hb, Bool.false_and, Bool.or_false]
  · intro n a hI
    exact ⟨a, he n a, hI⟩
  · intro j hj
    rw [lb_0]
    rfl
/-- a mirrored square, a square turned by a quarter and back -/
def mrS (s : Nat) : Nat := s - s % 8 + 7 - s % 8
def qtS (s : Nat) : Nat := 8 * (s % 8) + 7 - s / 8
def qbS (j : Nat) : Nat := 8 * (7 - j % 8) + j / 8
def Mir (x : Int64) : Int64 := ofB (fun j => lb x (mrS j)) 64
def Qrt (x : Int64) : Int64 := ofB (fun j => lb x (qbS j)) 64
theorem g_mirrored (x : Int64) : f_X10_mirrored x = some (Mir x) := by
  have main := put_loop (fun n k a => b_X10_mirrored_5 n x a (nI k)) x mrS (fun s hs => by unfold mrS; omega) (by
    intro n k a hk hb
    show bb_X10_mirrored_5 _ _ _ _ = _
    unfold bb_X10_mirrored_5
    rw [if_neg (show ¬ (64 : Int32) ≤ nI k from nI_ge hk (by decide)), is_t hk hb, bd_some, if_neg (by decide), ltv_eq, ltv_eq, nI_1]
    have e : nI k - rmI (nI k) 8 + 7 - rmI (nI k) 8 = nI (mrS k) := by
      rw [show rmI (nI k) 8 = nI (k % 8) from rmI_nI (by omega) (by decide) (by decide), nI_sub (Nat.mod_le _ _), show nI (k - k % 8) + 7 = nI (k - k % 8 + 7) from nI_add _ 7, nI_sub (by omega)]
      rfl
    rw [e]) (by
    intro n k a hk hb
    show bb_X10_mirrored_5 _ _ _ _ = _
    unfold bb_X10_mirrored_5
    rw [if_neg (show ¬ (64 : Int32) ≤ nI k from nI_ge hk (by decide)), is_f hk hb, bd_some, if_pos rfl, ltv_eq, nI_1]) (fun n a => rfl)
  obtain ⟨v, e, h⟩ := main
  have e' : f_X10_mirrored x = some v := e
  rw [e']
  congr 1
  apply ofB_lb
  intro j hj
  rw [h j hj]
  exact anB_one (h := mrS) (by unfold mrS; omega) (by unfold mrS; omega) (fun s hs => by unfold mrS; omega)
theorem g_quarter (x : Int64) : f_X10_quarter x = some (Qrt x) := by
  have main := put_loop (fun n k a => b_X10_quarter_5 n x a (nI k)) x qtS (fun s hs => by unfold qtS; omega) (by
    intro n k a hk hb
    show bb_X10_quarter_5 _ _ _ _ = _
    unfold bb_X10_quarter_5
    rw [if_neg (show ¬ (64 : Int32) ≤ nI k from nI_ge hk (by decide)), is_t hk hb, bd_some, if_neg (by decide), ltv_eq, ltv_eq, nI_1]
    have e : (8 : Int32) * rmI (nI k) 8 + 7 - nI k / 8 = nI (qtS k) := by
      rw [show rmI (nI k) 8 = nI (k % 8) from rmI_nI (by omega) (by decide) (by decide), show nI k / 8 = nI (k / 8) from pk_div (d := 8) (by omega) (by decide) (by decide), show (8 : Int32) * nI (k % 8) = nI (8 * (k % 8)) from pk_mul 8 _, show nI (8 * (k % 8)) + 7 = nI (8 * (k % 8) + 7) from nI_add _ 7, nI_sub (by omega)]
      rfl
    rw [e]) (by
    intro n k a hk hb
    show bb_X10_quarter_5 _ _ _ _ = _
    unfold bb_X10_quarter_5
    rw [if_neg (show ¬ (64 : Int32) ≤ nI k from nI_ge hk (by decide)), is_f hk hb, bd_some, if_pos rfl, ltv_eq, nI_1]) (fun n a => rfl)
  obtain ⟨v, e, h⟩ := main
  have e' : f_X10_quarter x = some v := e
  rw [e']
  congr 1
  apply ofB_lb
  intro j hj
  rw [h j hj]
  exact anB_one (h := qbS) (by unfold qbS; omega) (by unfold qbS qtS; omega) (fun s hs => by unfold qbS qtS; omega)
