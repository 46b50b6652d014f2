-- ===== what a text says, as a value =====
abbrev Oc (α : Type) : Type := (Nat × Nat) ⊕ α
abbrev Dr : Type := Nat × (Nat → Int64) × Nat × (Nat → Nat → Nat) × (Nat → Nat) × (Nat → Nat)
abbrev dL (δ : Dr) : Nat := δ.1
abbrev dI (δ : Dr) : Nat → Int64 := δ.2.1
abbrev dW (δ : Dr) : Nat := δ.2.2.1
abbrev dXw (δ : Dr) : Nat → Nat → Nat := δ.2.2.2.1
abbrev dN (δ : Dr) : Nat → Nat := δ.2.2.2.2.1
abbrev dS (δ : Dr) : Nat → Nat := δ.2.2.2.2.2
def GD (δ : Dr) : Prop := dL δ ≤ 10 ∧ dW δ ≤ 6 ∧ (∀ w, w < dW δ → 1 ≤ dN δ w ∧ dN δ w ≤ 8 ∧ ∀ k, k < dN δ w → dXw δ w k < dL δ) ∧ ∀ z, z < 10 → dS δ z ≤ 16
def dgt (h : Nat → Int32) (i : Nat) : Nat := (h i).toNatClampNeg - 48
theorem dgt_ok {h : Nat → Int32} {i : Nat} (hd : inI (h i) 48 57 = true) : h i = nI (48 + dgt h i) ∧ dgt h i ≤ 9 := by
  obtain ⟨k, e, h1, h2⟩ := inI_nI (b := 48) (c := 57) (by decide) hd (by decide)
  unfold dgt
  rw [e, nI_clamp (by omega)]
  exact ⟨by rw [show 48 + (k - 48) = k by omega], by omega⟩
def dgV (h : Nat → Int32) (s : Nat) : Nat → Nat
  | 0 => 0
  | k + 1 => 10 * dgV h s k + dgt h (s + k)
def nmP (h : Nat → Int32) (a lo hi : Nat) : Oc (Nat × Nat) := if dE h (sk h a) = sk h a then .inl (1, sk h a) else if lo ≤ dgV h (sk h a) (dE h (sk h a) - sk h a) ∧ dgV h (sk h a) (dE h (sk h a) - sk h a) < hi then .inr (dgV h (sk h a) (dE h (sk h a) - sk h a), dE h (sk h a)) else .inl (2, sk h a)
def smP (h : Nat → Int32) (a : Nat) : Oc Nat := if h (sk h a) = 59 then .inr (sk h a + 1) else .inl (1, sk h a)
theorem nmP_r {h : Nat → Int32} {n a lo hi w e : Nat} (t : Tx h n) (ha : a ≤ n) (q : nmP h a lo hi = .inr (w, e)) : lo ≤ w ∧ w < hi ∧ e ≤ n := by
  unfold nmP at q
  by_cases c1 : dE h (sk h a) = sk h a
  · rw [if_pos c1] at q
    cases q
  · rw [if_neg c1] at q
    by_cases c2 : lo ≤ dgV h (sk h a) (dE h (sk h a) - sk h a) ∧ dgV h (sk h a) (dE h (sk h a) - sk h a) < hi
    · rw [if_pos c2] at q
      cases q
      exact ⟨c2.1, c2.2, dE_le t (sk_le t ha)⟩
    · rw [if_neg c2] at q
      cases q
theorem le_pred {v hi : Nat} (hv : v < 2 ^ 31) (hh : hi < 2 ^ 31) : (nI v ≤ nI hi - 1) ↔ v < hi := by
  cases hi with
  | zero =>
    constructor
    · intro z
      exfalso
      apply nI_pos hv
      rw [Int32.le_iff_toInt_le] at z
      rw [Int32.lt_iff_toInt_lt]
      have : (nI 0 - 1 : Int32).toInt = -1 := by decide
      rw [this] at z
      have : (0 : Int32).toInt = 0 := by decide
      rw [this]
      omega
    · intro z
      omega
  | succ m =>
    rw [nI_pred, nI_leI hv (by omega)]
    omega
-- ===== the class: numbers =====
def L46 : List (Nat × Nat) := [(1, 4), (1, 5), (1, 6)]
def FS (n k p : Nat) (M : Mm) : Prop := M.1 1 5 = nI k ∧ M.1 1 6 = nI p ∧ 1 ≤ k ∧ k ≤ 3 ∧ ∃ a, a ≤ n ∧ M.1 1 4 = nI a
theorem FS.ne {n k p : Nat} {M : Mm} (f : FS n k p M) : ¬ M.1 1 5 = 0 := by
  rw [f.1]
  intro z
  have := (nI_eq (b := 0) (by have := f.2.2.2.1; omega) (by decide)).mp z
  have := f.2.2.1
  omega
theorem fail_c {M : Mm} {x y : Int32} (h : M.1 1 5 = 0) : f_X8_fail_1 x y M = some (wI (wI M 1 5 x) 1 6 y) := by
  unfold f_X8_fail_1 bb_X8_fail_1_0
  rw [if_pos h, ltv_eq, ltv_eq]
theorem TC.fr {h : Nat → Int32} {n : Nat} {L : List (Nat × Nat)} {M M' : Mm} (t : TC h n M) (f : Fr L M M') (h3 : inW L 1 3 = false) (h2 : ∀ i, i < 500 → inW L 2 i = false) (hn : n ≤ 500) : TC h n M' := ⟨((f 1 3 h3).1).trans t.1, fun i hi => ((f 2 i (h2 i (by omega))).1).trans (t.2 i hi)⟩
theorem digit_c {h : Nat → Int32} {n a : Nat} {M : Mm} (t : Tx h n) (hT : TC h n M) (ha : M.1 1 4 = nI a) (hl : a ≤ n) : f_X8_digitStands_1 M = some (if inI (h a) 48 57 then 1 else 0) := by
  unfold f_X8_digitStands_1 bb_X8_digitStands_1_0
  rw [here_c t hT ha hl, bd_some, bd_some]
  by_cases c1 : h a < 48
  · rw [if_pos c1, inI_f1 c1]
    rfl
  · rw [if_neg c1]
    by_cases c2 : 57 < h a
    · rw [if_pos c2, inI_f2 c2]
      rfl
    · rw [if_neg c2, inI_t c1 c2]
      rfl
theorem num_f {M : Mm} (x1 x2 : Int32) (h : ¬ M.1 1 5 = 0) : f_X8_readNumber_1 x1 x2 M = some (x1, M) := by
  unfold f_X8_readNumber_1 bb_X8_readNumber_1_0
  rw [if_neg h]
theorem num_c {h : Nat → Int32} {n a lo hi : Nat} {M : Mm} (t : Tx h n) (hT : TC h n M) (ha : M.1 1 4 = nI a) (hl : a ≤ n) (h0 : M.1 1 5 = 0) (hlo : lo ≤ 16) (hhi : hi ≤ 100) : ∃ M' v, f_X8_readNumber_1 (nI lo) (nI hi - 1) M = some (v, M') ∧ Fr L46 M M' ∧ ((∃ k p, nmP h a lo hi = .inl (k, p) ∧ FS n k p M') ∨ ∃ w e, nmP h a lo hi = .inr (w, e) ∧ v = nI w ∧ M'.1 1 4 = nI e ∧ M'.1 1 5 = 0 ∧ M'.1 1 6 = M.1 1 6) := by
  have h5 := t.1
  obtain ⟨M1, e1, f1, p1⟩ := skip_c t hT ha hl
  have hT1 := hT.f4 f1
  have sl := sk_le t hl
  have z1 : M1.1 1 5 = 0 := ((f1 1 5 rfl).1).trans h0
  unfold f_X8_readNumber_1 bb_X8_readNumber_1_0
  rw [if_pos h0, e1, bd_some, ltv_eq, p1]
  have fin : ∀ k (x : Mm), Fr [(1, 4)] M1 x ∧ sk h a + k ≤ n ∧ x.1 1 4 = nI (sk h a + k) ∧ (∀ i, sk h a ≤ i → i < sk h a + k → inI (h i) 48 57 = true) → inI (h (sk h a + k)) 48 57 = false → ∃ M' v, bb_X8_readNumber_1_76 (nI lo) (nI hi - 1) (nI (sk h a)) (nI (min (dgV h (sk h a) k) 1000)) x = some (v, M') ∧ Fr L46 M M' ∧ ((∃ k p, nmP h a lo hi = .inl (k, p) ∧ FS n k p M') ∨ ∃ w e, nmP h a lo hi = .inr (w, e) ∧ v = nI w ∧ M'.1 1 4 = nI e ∧ M'.1 1 5 = 0 ∧ M'.1 1 6 = M.1 1 6) := by
    rintro k x ⟨f2, l2, x4, hb⟩ hk
    have e : dE h (sk h a) = sk h a + k := rn_u t.1 t.d (by omega) hb hk
    have x0 : x.1 1 5 = 0 := ((f2 1 5 rfl).1).trans z1
    have fx : Fr L46 M x := Fr.tr (Fr.sub f1 (by decide)) (Fr.sub f2 (by decide))
    unfold bb_X8_readNumber_1_76
    rw [x4]
    have bad : ∀ c : Nat, 1 ≤ c → c ≤ 3 → nmP h a lo hi = .inl (c, sk h a) → ∃ M' v, (bd (f_X8_fail_1 (nI c) (nI (sk h a)) x) fun M_16 => some (nI (min (dgV h (sk h a) k) 1000), M_16)) = some (v, M') ∧ Fr L46 M M' ∧ ((∃ k p, nmP h a lo hi = .inl (k, p) ∧ FS n k p M') ∨ ∃ w e, nmP h a lo hi = .inr (w, e) ∧ v = nI w ∧ M'.1 1 4 = nI e ∧ M'.1 1 5 = 0 ∧ M'.1 1 6 = M.1 1 6) := by
      intro c c1 c3 hc
      rw [fail_c x0, bd_some]
      exact ⟨_, _, rfl, Fr.tr fx (Fr.tr (Fr.wrI rfl) (Fr.wrI rfl)), Or.inl ⟨c, sk h a, hc, rfl, wI_at, c1, c3, _, l2, x4⟩⟩
    by_cases k0 : k = 0
    · rw [if_pos (by rw [k0, Nat.add_zero])]
      exact bad 1 (by decide) (by decide) (by unfold nmP; rw [if_pos (by rw [e, k0, Nat.add_zero])])
    · rw [if_neg (fun z => k0 (by have := (nI_eq (by omega) (by omega)).mp z; omega))]
      have ke : dE h (sk h a) - sk h a = k := by omega
      have nk : ¬ dE h (sk h a) = sk h a := by omega
      by_cases c1 : dgV h (sk h a) k < lo
      · rw [if_pos (nI_lt (show min (dgV h (sk h a) k) 1000 < lo by omega) (by omega))]
        exact bad 2 (by decide) (by decide) (by unfold nmP; rw [if_neg nk, ke, if_neg (by omega)])
      · rw [if_neg (nI_nlt (by omega) (by omega))]
        by_cases c2 : dgV h (sk h a) k < hi
        · rw [if_pos ((le_pred (by omega) (by omega)).mpr (by omega))]
          exact ⟨x, _, rfl, fx, Or.inr ⟨dgV h (sk h a) k, sk h a + k, by unfold nmP; rw [if_neg nk, ke, if_pos ⟨by omega, c2⟩, e], by rw [Nat.min_eq_left (by omega)], x4, x0, ((f2 1 6 rfl).1).trans (f1 1 6 rfl).1⟩⟩
        · rw [if_neg (fun z => by have := (le_pred (by omega) (by omega)).mp z; omega)]
          exact bad 2 (by decide) (by decide) (by unfold nmP; rw [if_neg nk, ke, if_neg (by omega)])
  refine for_q (fun q k (x : Mm) => b_X8_readNumber_1_24 q (nI lo) (nI hi - 1) (nI (sk h a)) (nI (min (dgV h (sk h a) k) 1000)) (nI k) x) 500 (fun k x => Fr [(1, 4)] M1 x ∧ sk h a + k ≤ n ∧ x.1 1 4 = nI (sk h a + k) ∧ ∀ i, sk h a ≤ i → i < sk h a + k → inI (h i) 48 57 = true) (fun o => ∃ M' v, o = some (v, M') ∧ Fr L46 M M' ∧ ((∃ k p, nmP h a lo hi = .inl (k, p) ∧ FS n k p M') ∨ ∃ w e, nmP h a lo hi = .inr (w, e) ∧ v = nI w ∧ M'.1 1 4 = nI e ∧ M'.1 1 5 = 0 ∧ M'.1 1 6 = M.1 1 6)) ?_ ?_ 500 0 M1 FU rfl (by decide) ⟨Fr.refl, sl, p1, fun i h1 h2 => absurd h2 (by omega)⟩
  · intro q k x hk hI
    obtain ⟨f2, l2, x4, hb⟩ := id hI
    have hTx := hT1.f4 f2
    show (∃ M' v, bb_X8_readNumber_1_24 _ _ _ _ _ _ _ = _ ∧ _) ∨ ∃ a', bb_X8_readNumber_1_24 _ _ _ _ _ _ _ = _ ∧ _
    unfold bb_X8_readNumber_1_24
    rw [if_neg (show ¬ (500 : Int32) ≤ nI k from nI_ge (b := 500) hk (by decide)), digit_c t hTx x4 l2, bd_some]
    cases ct : inI (h (sk h a + k)) 48 57 with
    | false =>
      left
      rw [if_pos (by decide)]
      exact fin k x hI ct
    | true =>
      right
      have : sk h a + k < n := by
        apply Classical.byContradiction
        intro z
        rw [t.d _ (by omega)] at ct
        cases ct
      obtain ⟨d1, d9⟩ := dgt_ok ct
      rw [if_neg (by decide), here_c t hTx x4 l2, bd_some, d1]
      have ev : (10 : Int32) * nI (min (dgV h (sk h a) k) 1000) + nI (48 + dgt h (sk h a + k)) - 48 = nI (10 * min (dgV h (sk h a) k) 1000 + dgt h (sk h a + k)) := by
        rw [show (10 : Int32) * nI (min (dgV h (sk h a) k) 1000) = nI (10 * min (dgV h (sk h a) k) 1000) from pk_mul 10 _, nI_add, show (48 : Int32) = nI 48 from rfl, nI_sub (by omega)]
        congr 1
        omega
      have em : (if (1000 : Int32) < nI (10 * min (dgV h (sk h a) k) 1000 + dgt h (sk h a + k)) then (1000 : Int32) else nI (10 * min (dgV h (sk h a) k) 1000 + dgt h (sk h a + k))) = nI (min (dgV h (sk h a) (k + 1)) 1000) := by
        show _ = nI (min (10 * dgV h (sk h a) k + dgt h (sk h a + k)) 1000)
        by_cases c : 1000 < 10 * min (dgV h (sk h a) k) 1000 + dgt h (sk h a + k)
        · rw [if_pos (show (1000 : Int32) < nI _ from nI_lt (a := 1000) c (by omega)), show (1000 : Int32) = nI 1000 from rfl]
          congr 1
          omega
        · rw [if_neg (show ¬ (1000 : Int32) < nI _ from nI_nlt (a := 1000) (by omega) (by omega))]
          congr 1
          omega
      refine ⟨wI x 1 4 (nI (sk h a + (k + 1))), ?_, Fr.tr f2 (Fr.wrI rfl), by omega, wI_at, fun i h1 h2 => ?_⟩
      · rw [ev, em, ltv_eq, ltv_eq, ltv_eq, x4, nI_1, nI_1]
        rfl
      · by_cases z : i = sk h a + k
        · rw [z]
          exact ct
        · exact hb i h1 (by omega)
  · intro q x hI
    obtain ⟨f2, l2, x4, hb⟩ := id hI
    show ∃ M' v, bb_X8_readNumber_1_24 _ _ _ _ _ _ _ = _ ∧ _
    unfold bb_X8_readNumber_1_24
    rw [if_pos (by decide)]
    exact fin 500 x hI (t.d _ (by omega))
-- ===== the class: the draft =====
def LRD : List (Nat × Nat) := [(1, 4), (1, 5), (1, 6), (3, 7), (3, 8), (4, 999), (6, 999), (7, 999), (8, 999)]
def LDR : List (Nat × Nat) := [(3, 7), (3, 8), (4, 999), (6, 999), (7, 999), (8, 999)]
def DC0 (δ : Dr) (M : Mm) : Prop := M.1 3 7 = nI (dL δ) ∧ (∀ i, i < dL δ → M.2 4 i = dI δ i) ∧ M.1 3 8 = nI (dW δ) ∧ (∀ w, w < dW δ → M.1 7 w = nI (dN δ w) ∧ ∀ k, k < dN δ w → M.1 6 (8 * w + k) = nI (dXw δ w k)) ∧ ∀ z, z < 10 → M.1 8 z = nI (dS δ z)
def DC (δ : Dr) (M : Mm) : Prop := DC0 δ (vw LDR M)
theorem DC.fr {δ : Dr} {L : List (Nat × Nat)} {M M' : Mm} (h : DC δ M) (hf : Fr L M M') (hd : disjW L LDR = true) : DC δ M' := by
  unfold DC
  rw [vw_fr hf hd]
  exact h
theorem DC.of {δ : Dr} {M : Mm} (h : DC δ M) : DC0 δ M := h
theorem DC.mk {δ : Dr} {M : Mm} (h : DC0 δ M) : DC δ M := h
def CS (h : Nat → Int32) (n : Nat) (δ : Dr) (a : Nat) (M : Mm) : Prop := TC h n M ∧ DC δ M ∧ M.1 1 4 = nI a ∧ M.1 1 5 = 0 ∧ a ≤ n ∧ GD δ ∧ M.1 1 6 = -1
theorem TC.L46 {h : Nat → Int32} {n : Nat} {M M' : Mm} (t : TC h n M) (f : Fr L46 M M') : TC h n M' := ⟨((f 1 3 rfl).1).trans t.1, fun i hi => ((f 2 i rfl).1).trans (t.2 i hi)⟩
theorem TC.LRD {h : Nat → Int32} {n : Nat} {M M' : Mm} (t : TC h n M) (f : Fr LRD M M') : TC h n M' := ⟨((f 1 3 rfl).1).trans t.1, fun i hi => ((f 2 i rfl).1).trans (t.2 i hi)⟩
def addL (δ : Dr) (x : Int64) : Dr := (dL δ + 1, fun i => if i = dL δ then x else dI δ i, dW δ, dXw δ, dN δ, dS δ)
def setI (δ : Dr) (x : Int64) : Dr := (dL δ, fun i => if i = dL δ - 1 then x else dI δ i, dW δ, dXw δ, dN δ, dS δ)
def addW (δ : Dr) (f : Nat → Nat) (m : Nat) : Dr := (dL δ, dI δ, dW δ + 1, fun w => if w = dW δ then f else dXw δ w, fun w => if w = dW δ then m else dN δ w, dS δ)
def setS (δ : Dr) (z s : Nat) : Dr := (dL δ, dI δ, dW δ, dXw δ, dN δ, fun i => if i = z then s else dS δ i)
theorem GD.addL {δ : Dr} {x : Int64} (g : GD δ) (h : dL δ < 10) : GD (addL δ x) := ⟨h, g.2.1, fun w hw => ⟨(g.2.2.1 w hw).1, (g.2.2.1 w hw).2.1, fun k hk => Nat.lt_succ_of_lt ((g.2.2.1 w hw).2.2 k hk)⟩, g.2.2.2⟩
theorem GD.setI {δ : Dr} {x : Int64} (g : GD δ) : GD (setI δ x) := g
theorem GD.addW {δ : Dr} {f : Nat → Nat} {m : Nat} (g : GD δ) (h : dW δ < 6) (h1 : 1 ≤ m) (h8 : m ≤ 8) (hf : ∀ k, k < m → f k < dL δ) : GD (addW δ f m) := by
  refine ⟨g.1, h, fun w hw => ?_, g.2.2.2⟩
  show 1 ≤ (if w = dW δ then m else dN δ w) ∧ (if w = dW δ then m else dN δ w) ≤ 8 ∧ ∀ k, k < (if w = dW δ then m else dN δ w) → (if w = dW δ then f else dXw δ w) k < dL δ
  by_cases e : w = dW δ
  · rw [if_pos e, if_pos e]
    exact ⟨h1, h8, hf⟩
  · rw [if_neg e, if_neg e]
    have hw' : w < dW δ + 1 := hw
    exact g.2.2.1 w (by omega)
theorem GD.setS {δ : Dr} {z s : Nat} (g : GD δ) (h : s ≤ 16) : GD (setS δ z s) := by
  refine ⟨g.1, g.2.1, g.2.2.1, fun i hi => ?_⟩
  show (if i = z then s else dS δ i) ≤ 16
  by_cases e : i = z
  · rw [if_pos e]
    exact h
  · rw [if_neg e]
    exact g.2.2.2 i hi
theorem add_c {δ : Dr} {M : Mm} {x : Int64} (hD : DC δ M) (h : dL δ < 10) : f_X7_addLetter_3 x M = some (wI (wJ M 4 (dL δ) x) 3 7 (nI (dL δ + 1))) ∧ DC (addL δ x) (wI (wJ M 4 (dL δ) x) 3 7 (nI (dL δ + 1))) := by
  obtain ⟨d1, d2, d3, d4, d5⟩ := hD.of
  constructor
  · unfold f_X7_addLetter_3 bb_X7_addLetter_3_0
    rw [d1, if_neg (show ¬ (10 : Int32) ≤ nI (dL δ) from nI_ge (b := 10) h (by decide)), gd_of (inb_nI h (by decide)), ltv_eq, ltv_eq, ix_nI (by omega)]
    show some (wI (wJ M 4 (dL δ) x) 3 7 (M.1 3 7 + 1)) = _
    rw [d1, nI_1]
  · refine DC.mk ⟨wI_at, fun i hi => ?_, d3, d4, d5⟩
    show (wJ M 4 (dL δ) x).2 4 i = (if i = dL δ then x else dI δ i)
    by_cases e : i = dL δ
    · rw [if_pos e, e, wJ_at]
    · rw [if_neg e, wJ_i e]
      have hi' : i < dL δ + 1 := hi
      exact d2 i (by omega)
-- ===== the class: spread and copy =====
def spP (h : Nat → Int32) (δ : Dr) (a : Nat) : Oc (Dr × Nat) := match nmP h a 1 10 with
  | .inl f => .inl f
  | .inr (z, e) => match nmP h e 0 17 with
    | .inl f => .inl f
    | .inr (s, e') => .inr (setS δ z s, e')
def RsC (h : Nat → Int32) (n : Nat) (o : Oc (Dr × Nat)) (M M' : Mm) : Prop := Fr LRD M M' ∧ ((∃ k p, o = .inl (k, p) ∧ FS n k p M') ∨ ∃ δ a, o = .inr (δ, a) ∧ CS h n δ a M')
theorem spread_c {h : Nat → Int32} {n a : Nat} {δ : Dr} {M : Mm} (t : Tx h n) (c : CS h n δ a M) : ∃ M', f_X8_readSpread_1 M = some M' ∧ RsC h n (spP h δ a) M M' := by
  obtain ⟨hT, hD, p, h0, hl, g, pl⟩ := c
  obtain ⟨M1, v1, e1, f1, r1⟩ := num_c (lo := 1) (hi := 10) t hT p hl h0 (by decide) (by decide)
  unfold f_X8_readSpread_1 bb_X8_readSpread_1_0
  rw [show f_X8_readNumber_1 1 9 M = some (v1, M1) from e1, bd2_some]
  unfold RsC spP
  rcases r1 with ⟨k, q, n1, fs⟩ | ⟨z, e, n1, rfl, p1, z1, y1⟩
  · rw [num_f _ _ fs.ne, bd2_some, if_neg fs.ne, n1]
    exact ⟨M1, rfl, Fr.sub f1 (by decide), Or.inl ⟨k, q, rfl, fs⟩⟩
  obtain ⟨b1, b2, b3⟩ := nmP_r t hl n1
  obtain ⟨M2, v2, e2, f2, r2⟩ := num_c (lo := 0) (hi := 17) t (hT.L46 f1) p1 b3 z1 (by decide) (by decide)
  rw [show f_X8_readNumber_1 0 16 M1 = some (v2, M2) from e2, bd2_some, n1]
  rcases r2 with ⟨k, q, n2, fs⟩ | ⟨s, e', n2, rfl, p2, z2, y2⟩
  · rw [if_neg fs.ne]
    show ∃ M', some M2 = some M' ∧ Fr LRD M M' ∧ ((∃ k p, (match nmP h e 0 17 with | .inl f => .inl f | .inr (s, e') => .inr (setS δ z s, e') : Oc (Dr × Nat)) = .inl (k, p) ∧ FS n k p M') ∨ _)
    rw [n2]
    exact ⟨M2, rfl, Fr.tr (Fr.sub f1 (by decide)) (Fr.sub f2 (by decide)), Or.inl ⟨k, q, rfl, fs⟩⟩
  obtain ⟨q1, q2, q3⟩ := nmP_r t b3 n2
  have hD2 : DC δ M2 := (hD.fr f1 (by decide)).fr f2 (by decide)
  rw [if_pos z2, if_neg (show ¬ nI z < (1 : Int32) from nI_nlt (b := 1) (by omega) (by omega)), if_neg (show ¬ (10 : Int32) ≤ nI z from nI_ge (b := 10) (by omega) (by decide)), gd_of (inb_nI (by omega) (by decide)), ltv_eq, ix_nI (by omega)]
  show ∃ M', some (wI M2 8 z (nI s)) = some M' ∧ Fr LRD M M' ∧ (_ ∨ ∃ δ' a', (match nmP h e 0 17 with | .inl f => .inl f | .inr (s, e') => .inr (setS δ z s, e') : Oc (Dr × Nat)) = .inr (δ', a') ∧ CS h n δ' a' M')
  rw [n2]
  have fw : Fr LRD M (wI M2 8 z (nI s)) := Fr.tr (Fr.tr (Fr.sub f1 (by decide)) (Fr.sub f2 (by decide))) (Fr.wIa rfl)
  refine ⟨_, rfl, fw, Or.inr ⟨_, _, rfl, hT.LRD fw, ?_, p2, z2, q3, g.setS (by omega), y2.trans (y1.trans pl)⟩⟩
  obtain ⟨d1, d2, d3, d4, d5⟩ := hD2.of
  refine DC.mk ⟨d1, d2, d3, d4, fun i hi => ?_⟩
  show (wI M2 8 z (nI s)).1 8 i = nI (if i = z then s else dS δ i)
  by_cases e : i = z
  · rw [if_pos e, e, wI_at]
  · rw [if_neg e, wI_i e]
    exact d5 i hi
def cpP (h : Nat → Int32) (b : Bool) (δ : Dr) (a : Nat) : Oc (Dr × Nat) := match nmP h a 0 (dL δ) with
  | .inl f => .inl f
  | .inr (s, e) => .inr (addL δ (if b then Qrt (Qrt (dI δ s)) else Mir (dI δ s)), e)
theorem copy_c {h : Nat → Int32} {n a : Nat} {δ : Dr} {M : Mm} {x : Int32} (t : Tx h n) (c : CS h n δ a M) (h10 : dL δ < 10) : ∃ M', f_X8_readCopy_1 x M = some M' ∧ RsC h n (cpP h (decide (x = 1)) δ a) M M' := by
  obtain ⟨hT, hD, p, h0, hl, g, pl⟩ := c
  obtain ⟨d1, d2, d3, d4, d5⟩ := hD.of
  obtain ⟨M1, v1, e1, f1, r1⟩ := num_c (lo := 0) (hi := dL δ) t hT p hl h0 (by decide) (by omega)
  unfold f_X8_readCopy_1 bb_X8_readCopy_1_0
  rw [d1, show f_X8_readNumber_1 0 (nI (dL δ) - 1) M = some (v1, M1) from e1, bd2_some]
  unfold RsC cpP
  rcases r1 with ⟨k, q, n1, fs⟩ | ⟨s, e, n1, rfl, p1, z1, y1⟩
  · rw [if_neg fs.ne, n1]
    exact ⟨M1, rfl, Fr.sub f1 (by decide), Or.inl ⟨k, q, rfl, fs⟩⟩
  obtain ⟨b1, b2, b3⟩ := nmP_r t hl n1
  have hD1 : DC δ M1 := hD.fr f1 (by decide)
  have ink : f_X7_inkOf_3 (nI s) M1 = some (dI δ s) := by
    unfold f_X7_inkOf_3 bb_X7_inkOf_3_0
    rw [if_neg (nI_pos (by omega)), hD1.of.1, if_neg (nI_ge b2 (by omega)), gd_of (inb_nI (by omega) (by decide)), ix_nI (by omega), hD1.of.2.1 s b2]
  rw [if_pos z1, ink, bd_some, n1]
  have fin : ∀ y : Int64, ∃ M', (bd (f_X7_addLetter_3 y M1) fun M_13 => some M_13) = some M' ∧ Fr LRD M M' ∧ CS h n (addL δ y) e M' := by
    intro y
    obtain ⟨a1, a2⟩ := add_c (x := y) hD1 h10
    rw [a1, bd_some]
    have fw : Fr LRD M (wI (wJ M1 4 (dL δ) y) 3 7 (nI (dL δ + 1))) := Fr.tr (Fr.sub f1 (by decide)) (Fr.tr (Fr.wJa rfl) (Fr.wrI rfl))
    exact ⟨_, rfl, fw, hT.LRD fw, a2, p1, z1, b3, g.addL h10, y1.trans pl⟩
  by_cases hx : x = 1
  · rw [if_pos hx, f_half, bd_some, decide_eq_true hx]
    obtain ⟨M', k1, k2, k3⟩ := fin (Qrt (Qrt (dI δ s)))
    exact ⟨M', k1, k2, Or.inr ⟨_, _, rfl, k3⟩⟩
  · rw [if_neg hx, f_mirrored, bd_some, decide_eq_false hx]
    obtain ⟨M', k1, k2, k3⟩ := fin (Mir (dI δ s))
    exact ⟨M', k1, k2, Or.inr ⟨_, _, rfl, k3⟩⟩
