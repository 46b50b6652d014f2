-- ===== room: digits to the base 5 =====
theorem p5 (k : Nat) : 0 < 5 ^ k := Nat.pow_pos (by decide)
/-- room of lower letters added to a multiple -/
theorem dig_hi {R x t l : Nat} (hR : R % 5 ^ t = 0) (hx : x < 5 ^ t) (hl : t ≤ l) : (R + x) / 5 ^ l = R / 5 ^ l := by
  obtain ⟨q, rfl⟩ : ∃ q, R = 5 ^ t * q := ⟨R / 5 ^ t, by have := Nat.div_add_mod R (5 ^ t); omega⟩
  obtain ⟨e, rfl⟩ : ∃ e, l = t + e := ⟨l - t, by omega⟩
  rw [Nat.pow_add, ← Nat.div_div_eq_div_mul, ← Nat.div_div_eq_div_mul, Nat.mul_div_cancel_left _ (p5 t), Nat.add_comm, Nat.add_mul_div_left _ _ (p5 t), Nat.div_eq_of_lt hx, Nat.zero_add]
theorem dig_lo {R t l : Nat} (hR : R % 5 ^ t = 0) (hl : l < t) : R / 5 ^ l % 5 = 0 := by
  obtain ⟨q, rfl⟩ : ∃ q, R = 5 ^ t * q := ⟨R / 5 ^ t, by have := Nat.div_add_mod R (5 ^ t); omega⟩
  obtain ⟨e, rfl⟩ : ∃ e, t = l + (e + 1) := ⟨t - l - 1, by omega⟩
  rw [Nat.pow_add, Nat.mul_assoc, Nat.mul_div_cancel_left _ (p5 l), Nat.pow_succ, Nat.mul_comm (5 ^ e) 5, Nat.mul_assoc, Nat.mul_mod_right]
/-- one digit more -/
theorem dig_add {R t d l : Nat} (hR : R % 5 ^ (t + 1) = 0) (hd : d < 5) : (R + d * 5 ^ t) / 5 ^ l % 5 = R / 5 ^ l % 5 + (if l = t then d else 0) := by
  have hlt : d * 5 ^ t < 5 ^ (t + 1) := by
    rw [Nat.pow_succ, Nat.mul_comm (5 ^ t) 5]
    exact Nat.mul_lt_mul_of_pos_right hd (p5 t)
  by_cases h1 : t + 1 ≤ l
  · rw [dig_hi hR hlt h1, if_neg (by omega), Nat.add_zero]
  · rw [dig_lo hR (show l < t + 1 by omega), Nat.zero_add]
    obtain ⟨q, rfl⟩ : ∃ q, R = 5 ^ (t + 1) * q := ⟨R / 5 ^ (t + 1), by have := Nat.div_add_mod R (5 ^ (t + 1)); omega⟩
    by_cases e : l = t
    · subst e
      rw [if_pos rfl, Nat.pow_succ, Nat.mul_assoc, Nat.mul_comm d, ← Nat.mul_add, Nat.mul_div_cancel_left _ (p5 l)]
      omega
    · rw [if_neg e]
      obtain ⟨f, rfl⟩ : ∃ f, t = l + (f + 1) := ⟨t - l - 1, by omega⟩
      have e1 : 5 ^ (l + (f + 1) + 1) * q + d * 5 ^ (l + (f + 1)) = 5 ^ l * (5 * (5 ^ (f + 1) * q + d * 5 ^ f)) := by
        rw [show l + (f + 1) + 1 = l + (1 + (f + 1)) by omega, Nat.pow_add, Nat.pow_add 5 1, Nat.pow_one, Nat.pow_add 5 l (f + 1), Nat.pow_succ 5 f, Nat.mul_add, Nat.mul_add]
        congr 1
        · simp only [Nat.mul_assoc]
        · simp only [Nat.mul_comm, Nat.mul_left_comm, Nat.mul_assoc]
      rw [e1, Nat.mul_div_cancel_left _ (p5 l), Nat.mul_mod_right]
/-- numbers between, whose digits there are none -/
theorem gap {P : Nat → Bool} {r B : Nat} : ∀ (n t : Nat), (∀ l, t ≤ l → l < t + n → P l = false) → (∀ l, P l = false → r / 5 ^ l % 5 = 0) → B % 5 ^ (t + n) = 0 → B ≤ r → r < B + 5 ^ (t + n) → r < B + 5 ^ t
  | 0, t, _, _, _, _, h => h
  | n + 1, t, h1, h2, h3, h4, h5 => by
    have hz := h2 (t + n) (h1 (t + n) (by omega) (by omega))
    refine gap n t (fun l a b => h1 l a (by omega)) h2 ?_ h4 ?_
    · have e : 5 ^ (t + (n + 1)) = 5 ^ (t + n) * 5 := by rw [← Nat.pow_succ]; rfl
      rw [e] at h3
      have := Nat.mod_mul_right_mod B (5 ^ (t + n)) 5
      rw [h3] at this
      rw [← this]
      exact Nat.zero_mod _
    · obtain ⟨x, rfl⟩ : ∃ x, r = B + x := ⟨r - B, by omega⟩
      have e : 5 ^ (t + (n + 1)) = 5 ^ (t + n) * 5 := by rw [← Nat.pow_succ]; rfl
      obtain ⟨q, hq⟩ : ∃ q, B = 5 ^ (t + n) * (5 * q) := ⟨B / 5 ^ (t + (n + 1)), by
        have := Nat.div_add_mod B (5 ^ (t + (n + 1)))
        rw [h3, e, Nat.add_zero, Nat.mul_assoc] at this
        rw [e]
        exact this.symm⟩
      rw [hq, Nat.add_comm, Nat.add_mul_div_left _ _ (p5 (t + n)), Nat.add_mul_mod_self_left] at hz
      have hx : x / 5 ^ (t + n) < 5 := by
        rw [Nat.div_lt_iff_lt_mul (p5 _)]
        rw [e] at h5
        rw [Nat.mul_comm 5]
        omega
      have h0 : x / 5 ^ (t + n) = 0 := by
        rw [Nat.mod_eq_of_lt hx] at hz
        exact hz
      have := (Nat.div_eq_zero_iff).mp h0
      rcases this with z | z
      · have := p5 (t + n)
        omega
      · omega
-- ===== colours and room =====
theorem clB_mono {b s s' : Nat} (h0 : s = 0 → b = 0) (h : s ≤ s') : clB b s' ≤ clB b s := by
  unfold clB
  by_cases e : s = 0
  · rw [h0 e, if_pos e]
    split <;> simp
  · rw [if_neg e, if_neg (by omega)]
    exact Nat.div_le_div_left (by omega) (by omega)
theorem smN_0 {f : Nat → Nat} : ∀ {n : Nat}, smN f n = 0 → ∀ i, i < n → f i = 0
  | 0, _, i, hi => absurd hi (Nat.not_lt_zero _)
  | n + 1, h, i, hi => by
    have h' : smN f n + f n = 0 := h
    by_cases e : i = n
    · rw [e]
      omega
    · exact smN_0 (n := n) (by omega) i (by omega)
theorem black_0 {σ : Sg} {gr w r : Nat} (h : smW σ w (Wid σ r) = 0) : smW σ w (Blk σ gr) = 0 := by
  unfold smW at *
  rw [smN_cong (g := fun _ => 0) (fun k hk => ?_), smN_zero]
  have := smN_0 h k hk
  unfold Wid at this
  have e := brN_0 (show brN (sInk σ (sWl σ w k)) = 0 by omega)
  unfold Blk
  rw [e]
  have z : Bes 0 = 0 := by decide
  rw [z, pop_0]
  simp
theorem mxN_mono {f g : Nat → Nat} : ∀ {n : Nat}, (∀ i, i < n → f i ≤ g i) → mxN f n ≤ mxN g n
  | 0, _ => Nat.le_refl _
  | n + 1, h => by
    have h1 := mxN_mono (f := f) (g := g) (n := n) (fun i hi => h i (by omega))
    have h2 := h n (by omega)
    show max (mxN f n) (f n) ≤ max (mxN g n) (g n)
    omega
theorem mnN_mono {f g : Nat → Nat} : ∀ {n : Nat}, (∀ i, i < n → f i ≤ g i) → mnN f n ≤ mnN g n
  | 0, _ => Nat.le_refl _
  | 1, h => h 0 (by decide)
  | n + 2, h => by
    have h1 := mnN_mono (f := f) (g := g) (n := n + 1) (fun i hi => h i (by omega))
    have h2 := h (n + 1) (by omega)
    show min (mnN f (n + 1)) (f (n + 1)) ≤ min (mnN g (n + 1)) (g (n + 1))
    omega
/-- no room r with these spaces is less uneven -/
theorem lb_unv {σ : Sg} {gr R r : Nat} {wd : Nat → Nat} (h : ∀ w, w < sW σ → smW σ w (Wid σ R) ≤ smW σ w (Wid σ r) ∧ smW σ w (Wid σ r) ≤ smW σ w (Wid σ R) + wd w) : mxN (fun w => clB (smW σ w (Blk σ gr)) (smW σ w (Wid σ R) + wd w)) (sW σ) - mnN (fun w => clB (smW σ w (Blk σ gr)) (smW σ w (Wid σ R))) (sW σ) ≤ Unv σ gr r := by
  unfold Unv
  have h1 : mxN (fun w => clB (smW σ w (Blk σ gr)) (smW σ w (Wid σ R) + wd w)) (sW σ) ≤ mxN (fun w => Col σ gr w r) (sW σ) := mxN_mono (fun w hw => clB_mono (fun z => black_0 z) (h w hw).2)
  have h2 : mnN (fun w => Col σ gr w r) (sW σ) ≤ mnN (fun w => clB (smW σ w (Blk σ gr)) (smW σ w (Wid σ R))) (sW σ) := mnN_mono (fun w hw => clB_mono (fun z => black_0 z) (h w hw).1)
  omega
theorem Unv_le {σ : Sg} {gr r : Nat} (g : Good σ) (h : gr ≤ 16) : Unv σ gr r ≤ 128000 := by
  unfold Unv
  have := mxN_le (f := fun w => Col σ gr w r) (b := 128000) (n := sW σ) (fun _ _ => Col_le h)
  omega
-- ===== the best so far =====
def BstI (σ : Sg) (gr lo : Nat) (M : Mm) : Prop := (M.1 34 11 = 1000000 ∧ M.1 34 12 = 0 ∧ ∀ r, RmOk σ r → ¬ r < lo) ∨ ∃ b, M.1 34 12 = nI b ∧ M.1 34 11 = nI (Unv σ gr b) ∧ RmOk σ b ∧ b < lo ∧ ∀ r, RmOk σ r → r < lo → Unv σ gr b ≤ Unv σ gr r ∧ (Unv σ gr r = Unv σ gr b → b ≤ r)
theorem BstI.ext {σ : Sg} {gr lo lo' : Nat} {M : Mm} (h : BstI σ gr lo M) (hl : lo ≤ lo') (he : ∀ r, RmOk σ r → r < lo' → r < lo) : BstI σ gr lo' M := by
  rcases h with ⟨h1, h2, h3⟩ | ⟨b, h1, h2, h3, h4, h5⟩
  · exact Or.inl ⟨h1, h2, fun r hr hlt => h3 r hr (he r hr hlt)⟩
  · exact Or.inr ⟨b, h1, h2, h3, by omega, fun r hr hlt => h5 r hr (he r hr hlt)⟩
/-- the used letters, from the least on -/
def FrL (σ : Sg) (fl : Nat → Nat) (m : Nat) : Prop := (∀ i, i < m → fl i < 10 ∧ Use σ (fl i) = true) ∧ (∀ i j, i < j → j < m → fl i < fl j) ∧ ∀ l, l < 10 → Use σ l = true → ∃ i, i < m ∧ fl i = l
def tpF (fl : Nat → Nat) : Nat → Nat
  | 0 => 0
  | k + 1 => fl k + 1
theorem tp_gap {σ : Sg} {fl : Nat → Nat} {m k : Nat} (h : FrL σ fl m) (hk : k < m) : tpF fl k ≤ fl k ∧ ∀ l, tpF fl k ≤ l → l < fl k → Use σ l = false := by
  refine ⟨?_, fun l h1 h2 => ?_⟩
  · rcases k with _ | k
    · exact Nat.zero_le _
    · exact h.2.1 k (k + 1) (by omega) hk
  · cases hu : Use σ l with
    | false => rfl
    | true =>
      exfalso
      obtain ⟨i, i1, i2⟩ := h.2.2 l (by have := (h.1 k hk).1; omega) hu
      rcases Nat.lt_trichotomy i k with q | q | q
      · rcases k with _ | k
        · omega
        · have h1' : fl k + 1 ≤ l := h1
          by_cases e : i = k
          · rw [e] at i2
            omega
          · have := h.2.1 i k (by omega) (by omega)
            omega
      · rw [q] at i2
        omega
      · have := h.2.1 k i q i1
        omega
theorem tp_top {σ : Sg} {fl : Nat → Nat} {m : Nat} (h : FrL σ fl m) : tpF fl m ≤ 10 ∧ ∀ l, tpF fl m ≤ l → l < 10 → Use σ l = false := by
  refine ⟨?_, fun l h1 h2 => ?_⟩
  · rcases m with _ | m
    · exact Nat.zero_le _
    · exact (h.1 m (by omega)).1
  · cases hu : Use σ l with
    | false => rfl
    | true =>
      exfalso
      obtain ⟨i, i1, i2⟩ := h.2.2 l h2 hu
      rcases m with _ | m
      · omega
      · have h1' : fl m + 1 ≤ l := h1
        by_cases e : i = m
        · rw [e] at i2
          omega
        · have := h.2.1 i m (by omega) (by omega)
          omega
theorem RmOk.z {σ : Sg} {r : Nat} (h : RmOk σ r) : ∀ l, (Use σ l && decide (l < 10)) = false → r / 5 ^ l % 5 = 0 := by
  intro l hl
  by_cases q : l < 10
  · rw [decide_eq_true q, Bool.and_true] at hl
    exact h.2 l q hl
  · have : r / 5 ^ l = 0 := Nat.div_eq_of_lt (Nat.lt_of_lt_of_le h.1 (Nat.pow_le_pow_right (by decide) (by omega)))
    rw [this]
def wdN (σ : Sg) (fl : Nat → Nat) (w k : Nat) : Nat := smN (fun j => 4 * cntW σ w (fl j)) k
theorem cnt_ind {u : Nat → Nat} {f : Nat} : ∀ n, bcn (fun k => decide (u k = f)) n = smN (fun k => if u k = f then 1 else 0) n
  | 0 => rfl
  | n + 1 => by
    show bcn _ n + (if decide (u n = f) then 1 else 0) = smN _ n + (if u n = f then 1 else 0)
    rw [cnt_ind n]
    by_cases e : u n = f
    · rw [decide_eq_true e, if_pos e]
      rfl
    · rw [decide_eq_false e, if_neg e]
      rfl
theorem smN_mul (c : Nat) (f : Nat → Nat) : ∀ n, smN (fun i => c * f i) n = c * smN f n
  | 0 => (Nat.mul_zero c).symm
  | n + 1 => by
    show smN (fun i => c * f i) n + c * f n = c * (smN f n + f n)
    rw [smN_mul c f n, Nat.mul_add]
/-- a word's space grows by the digit of a letter -/
theorem wid_add {σ : Sg} {w R t d : Nat} (hR : R % 5 ^ (t + 1) = 0) (hd : d < 5) : smW σ w (Wid σ (R + d * 5 ^ t)) = smW σ w (Wid σ R) + d * cntW σ w t := by
  unfold smW cntW
  rw [cnt_ind, ← smN_mul, ← smN_add]
  apply smN_cong
  intro k _
  unfold Wid
  rw [dig_add hR hd]
  by_cases e : sWl σ w k = t
  · rw [if_pos e, if_pos e]
    omega
  · rw [if_neg e, if_neg e]
    omega
/-- and within what all free letters can give -/
theorem wid_ext {σ : Sg} {fl : Nat → Nat} {m w R r : Nat} (hF : FrL σ fl m) : ∀ k, k ≤ m → R % 5 ^ tpF fl k = 0 → RmOk σ r → R ≤ r → r < R + 5 ^ tpF fl k → smW σ w (Wid σ R) ≤ smW σ w (Wid σ r) ∧ smW σ w (Wid σ r) ≤ smW σ w (Wid σ R) + wdN σ fl w k := by
  intro k hk hR hr h1 h2
  obtain ⟨x, rfl⟩ : ∃ x, r = R + x := ⟨r - R, by omega⟩
  have hx : x < 5 ^ tpF fl k := by omega
  have hl : ∀ l, (R + x) / 5 ^ l % 5 ≥ R / 5 ^ l % 5 := by
    intro l
    by_cases q : tpF fl k ≤ l
    · rw [dig_hi hR hx q]
      exact Nat.le_refl _
    · rw [dig_lo hR (by omega)]
      exact Nat.zero_le _
  have hu : ∀ l, (R + x) / 5 ^ l % 5 ≤ R / 5 ^ l % 5 + smN (fun j => 4 * (if l = fl j then 1 else 0)) k := by
    intro l
    by_cases q : tpF fl k ≤ l
    · rw [dig_hi hR hx q]
      exact Nat.le_add_right _ _
    · cases hq : (Use σ l && decide (l < 10)) with
      | false =>
        rw [hr.z l hq]
        exact Nat.zero_le _
      | true =>
        rw [Bool.and_eq_true, decide_eq_true_eq] at hq
        obtain ⟨i, i1, i2⟩ := hF.2.2 l hq.2 hq.1
        have ik : i < k := by
          apply Classical.byContradiction
          intro z
          rcases k with _ | k
          · exact q (Nat.zero_le _)
          · have q' : ¬ fl k + 1 ≤ l := q
            have := hF.2.1 k i (by omega) i1
            omega
        have hm := Nat.mod_lt ((R + x) / 5 ^ l) (show 0 < 5 by decide)
        have : 4 ≤ smN (fun j => 4 * (if l = fl j then 1 else 0)) k := by
          have e := smN_mono (f := fun j => if j = i then 4 else 0) (g := fun j => 4 * (if l = fl j then 1 else 0)) (n := k) (fun j _ => by
            by_cases z : j = i
            · rw [if_pos z, z, if_pos i2.symm]
              exact Nat.le_refl _
            · rw [if_neg z]
              exact Nat.zero_le _)
          rw [smN_pt (T := fun _ => 4) ik] at e
          exact e
        omega
  constructor
  · unfold smW
    apply smN_mono
    intro j _
    unfold Wid
    have := hl (sWl σ w j)
    omega
  · unfold smW wdN cntW
    have e : smN (fun j => 4 * bcn (fun i => decide (sWl σ w i = fl j)) (sLen σ w)) k = smN (fun i => smN (fun j => 4 * (if sWl σ w i = fl j then 1 else 0)) k) (sLen σ w) := by
      rw [smN_swap]
      apply smN_cong
      intro j _
      rw [cnt_ind, smN_mul]
    rw [e, ← smN_add]
    apply smN_mono
    intro j _
    unfold Wid
    have := hu (sWl σ w j)
    omega
