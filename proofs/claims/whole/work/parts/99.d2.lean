-- ===== the model's reader =====
def TM (h : Nat → Int32) (n : Nat) (N : Mm) : Prop := N.1 67 2 = nI n ∧ ∀ i, i < n → N.1 68 i = h i
def F46 : List (Nat × Nat) := [(67, 4), (67, 5), (67, 6)]
theorem TM.fr {h : Nat → Int32} {n : Nat} {L : List (Nat × Nat)} {N N' : Mm} (t : TM h n N) (f : Fr L N N') (h2 : inW L 67 2 = false) (h8 : ∀ i, inW L 68 i = false) : TM h n N' := ⟨((f 67 2 h2).1).trans t.1, fun i hi => ((f 68 i (h8 i)).1).trans (t.2 i hi)⟩
theorem at_m {h : Nat → Int32} {n a : Nat} {N : Mm} (t : Tx h n) (hT : TM h n N) (hl : a ≤ 2000) : f_X10_byteAt_67 (nI a) N = some (h a) := by
  have h5 := t.1
  unfold f_X10_byteAt_67 bb_X10_byteAt_67_0
  rw [hT.1]
  by_cases c : a < n
  · rw [if_pos (nI_lt c (by omega)), gd_of (inb_nI (by omega) (by decide)), ix_nI (by omega), hT.2 a c]
  · rw [if_neg (nI_nlt (by omega) (by omega)), t.2 a (by omega)]
theorem isDig (v : Int32) : f_X10_isDigit v = some (if inI v 48 57 then 1 else 0) := by
  unfold f_X10_isDigit bb_X10_isDigit_0
  by_cases c1 : v < 48
  · rw [if_pos c1, inI_f1 c1]
    rfl
  · rw [if_neg c1]
    by_cases c2 : 57 < v
    · rw [if_pos c2, inI_f2 c2]
      rfl
    · rw [if_neg c2, inI_t c1 c2]
      rfl
theorem blanks_m {h : Nat → Int32} {n a : Nat} {N : Mm} (t : Tx h n) (hT : TM h n N) (ha : N.1 67 4 = nI a) (hl : a ≤ n) : ∃ N', f_X10_blanks_67 N = some N' ∧ Fr [(67, 4)] N N' ∧ N'.1 67 4 = nI (sk h a) := by
  have h5 := t.1
  refine for_q (fun q k (x : Mm) => b_X10_blanks_67_0 q x) 501 (fun k x => Fr [(67, 4)] N x ∧ a + k ≤ n ∧ x.1 67 4 = nI (a + k) ∧ ∀ i, a ≤ i → i < a + k → h i = 32) (fun o => ∃ M', o = some M' ∧ Fr [(67, 4)] N M' ∧ M'.1 67 4 = nI (sk h a)) ?_ ?_ 501 0 N FU rfl (by decide) ⟨Fr.refl, hl, ha, fun i h1 h2 => absurd h2 (by omega)⟩
  · rintro q k x hk ⟨f1, l1, x4, hb⟩
    show (∃ M', bb_X10_blanks_67_0 _ _ = _ ∧ _) ∨ ∃ a', bb_X10_blanks_67_0 _ _ = _ ∧ _
    unfold bb_X10_blanks_67_0
    rw [x4, at_m t (hT.fr f1 rfl (fun _ => rfl)) (by omega), bd_some]
    by_cases c : h (a + k) = 32
    · right
      rw [if_pos c]
      have : a + k < n := by
        apply Classical.byContradiction
        intro z
        rw [t.2 _ (by omega)] at c
        exact absurd c (by decide)
      refine ⟨wI x 67 4 (nI (a + (k + 1))), ?_, Fr.tr f1 (Fr.wrI rfl), by omega, wI_at, fun i h1 h2 => ?_⟩
      · rw [ltv_eq, nI_1]
        rfl
      · by_cases z : i = a + k
        · rw [z]
          exact c
        · exact hb i h1 (by omega)
    · left
      rw [if_neg c]
      refine ⟨x, rfl, f1, ?_⟩
      rw [x4]
      congr 1
      exact (rn_u t.1 t.b (by omega) (fun i h1 h2 => decide_eq_true (hb i h1 h2)) (decide_eq_false c)).symm
  · rintro q x ⟨_, l1, _⟩
    omega
theorem blanks_id {h : Nat → Int32} {n a : Nat} {N : Mm} (t : Tx h n) (hT : TM h n N) (ha : N.1 67 4 = nI a) (hl : a ≤ n) (hb : ¬ h a = 32) : f_X10_blanks_67 N = some N := by
  have h5 := t.1
  show bb_X10_blanks_67_0 (b_X10_blanks_67_0 199999) N = some N
  unfold bb_X10_blanks_67_0
  rw [ha, at_m t hT (by omega), bd_some, if_neg hb]
def FSm (n k p : Nat) (N : Mm) : Prop := N.1 67 5 = nI k ∧ N.1 67 6 = nI p ∧ 1 ≤ k ∧ k ≤ 3 ∧ ∃ a, a ≤ n ∧ N.1 67 4 = nI a
theorem FSm.ne {n k p : Nat} {N : Mm} (f : FSm n k p N) : ¬ N.1 67 5 = 0 := by
  rw [f.1]
  intro z
  have := (nI_eq (b := 0) (by have := f.2.2.2.1; omega) (by decide)).mp z
  have := f.2.2.1
  omega
theorem wrong_m {N : Mm} {x y : Int32} (h : N.1 67 5 = 0) : f_X10_wrong_67 x y N = some (wI (wI N 67 5 x) 67 6 y) := by
  unfold f_X10_wrong_67 bb_X10_wrong_67_0
  rw [if_pos h, ltv_eq, ltv_eq]
theorem wrong_f {N : Mm} {x y : Int32} (h : ¬ N.1 67 5 = 0) : f_X10_wrong_67 x y N = some N := by
  unfold f_X10_wrong_67 bb_X10_wrong_67_0
  rw [if_neg h]
theorem inI_pr {v lo hi : Nat} (hv : v < 2 ^ 31) (hl : lo < 2 ^ 31) (hh : hi < 2 ^ 31) : inI (nI v) (nI lo) (nI hi - 1) = decide (lo ≤ v ∧ v < hi) := by
  unfold inI
  rw [show decide (nI lo ≤ nI v) = decide (lo ≤ v) from decide_eq_decide.mpr (nI_leI hl hv), show decide (nI v ≤ nI hi - 1) = decide (v < hi) from decide_eq_decide.mpr (le_pred hv hh)]
  exact (Bool.decide_and _ _).symm
theorem numm_f {N : Mm} (x1 x2 : Int32) (h : ¬ N.1 67 5 = 0) : f_X10_numberHere_67 x1 x2 N = some (0, N) := by
  unfold f_X10_numberHere_67 bb_X10_numberHere_67_0
  rw [if_neg h]
theorem num_m {h : Nat → Int32} {n a lo hi : Nat} {N : Mm} (t : Tx h n) (hT : TM h n N) (ha : N.1 67 4 = nI a) (hl : a ≤ n) (h0 : N.1 67 5 = 0) (hlo : lo ≤ 16) (hhi : hi ≤ 100) : ∃ N' v, f_X10_numberHere_67 (nI lo) (nI hi - 1) N = some (v, N') ∧ Fr F46 N N' ∧ ((∃ k p, nmP h a lo hi = .inl (k, p) ∧ v = 0 ∧ FSm n k p N') ∨ ∃ w e, nmP h a lo hi = .inr (w, e) ∧ v = nI w ∧ N'.1 67 4 = nI e ∧ N'.1 67 5 = 0 ∧ N'.1 67 6 = N.1 67 6) := by
  have h5 := t.1
  obtain ⟨N1, e1, f1, p1⟩ := blanks_m t hT ha hl
  have hT1 : TM h n N1 := hT.fr f1 rfl (fun _ => rfl)
  have sl := sk_le t hl
  have z1 : N1.1 67 5 = 0 := ((f1 67 5 rfl).1).trans h0
  unfold f_X10_numberHere_67 bb_X10_numberHere_67_0 nmP
  rw [if_pos h0, e1, bd_some, ltv_eq, p1, at_m t hT1 (by omega), bd_some, isDig, bd_some]
  generalize sk h a = s at *
  obtain ⟨de1, de2, de3⟩ := dE_ok t s
  cases cs : inI (h s) 48 57 with
  | false =>
    have e : dE h s = s := rn_u t.1 t.d (Nat.le_refl _) (fun i h1 h2 => absurd h2 (by omega)) cs
    rw [if_pos (by decide), show f_X10_wrong_67 1 (nI s) N1 = _ from wrong_m z1, bd_some, if_pos e]
    have hn : ¬ (wI (wI N1 67 5 1) 67 6 (nI s)).1 67 5 = 0 := show ¬ (1 : Int32) = 0 by decide
    have fw : Fr F46 N (wI (wI N1 67 5 1) 67 6 (nI s)) := Fr.tr (Fr.sub f1 (by decide)) (Fr.tr (Fr.wrI rfl) (Fr.wrI rfl))
    have p2 : (wI (wI N1 67 5 1) 67 6 (nI s)).1 67 4 = nI s := p1
    have hT2 : TM h n (wI (wI N1 67 5 1) 67 6 (nI s)) := hT1
    have fs : FSm n 1 s (wI (wI N1 67 5 1) 67 6 (nI s)) := ⟨rfl, wI_at, by decide, by decide, s, sl, p1⟩
    generalize wI (wI N1 67 5 1) 67 6 (nI s) = N2 at *
    refine ⟨N2, 0, ?_, fw, Or.inl ⟨1, s, rfl, rfl, fs⟩⟩
    show bb_X10_numberHere_67_44 (b_X10_numberHere_67_44 199999) (nI lo) (nI hi - 1) (nI s) 0 N2 = _
    unfold bb_X10_numberHere_67_44
    rw [p2, at_m t hT2 (by omega), bd_some, isDig, cs, bd_some, if_pos (by decide), f_inI, bd_some, wrong_f hn, bd_some, if_neg hn, ite_self]
  | true =>
    rw [if_neg (by decide)]
    have nk : ¬ dE h s = s := by
      intro z
      rw [z, cs] at de3
      cases de3
    rw [if_neg nk]
    have dl := dE_le t sl
    refine for_q (fun q k (x : Mm) => b_X10_numberHere_67_44 q (nI lo) (nI hi - 1) (nI s) (nI (min (dgV h s k) 100000)) x) (dE h s - s) (fun k x => Fr [(67, 4)] N1 x ∧ x.1 67 4 = nI (s + k)) (fun o => ∃ N' v, o = some (v, N') ∧ Fr F46 N N' ∧ ((∃ k p, (if lo ≤ dgV h s (dE h s - s) ∧ dgV h s (dE h s - s) < hi then .inr (dgV h s (dE h s - s), dE h s) else .inl (2, s) : Oc (Nat × Nat)) = .inl (k, p) ∧ v = 0 ∧ FSm n k p N') ∨ ∃ w e, (if lo ≤ dgV h s (dE h s - s) ∧ dgV h s (dE h s - s) < hi then .inr (dgV h s (dE h s - s), dE h s) else .inl (2, s) : Oc (Nat × Nat)) = .inr (w, e) ∧ v = nI w ∧ N'.1 67 4 = nI e ∧ N'.1 67 5 = 0 ∧ N'.1 67 6 = N.1 67 6)) ?_ ?_ (dE h s - s) 0 N1 FU (Nat.zero_add _) (by show _ < 200000; omega) ⟨Fr.refl, p1⟩
    · rintro q k x hk ⟨f2, x4⟩
      right
      have ct : inI (h (s + k)) 48 57 = true := de2 _ (by omega) (by omega)
      obtain ⟨d1, d9⟩ := dgt_ok ct
      show ∃ a', bb_X10_numberHere_67_44 _ _ _ _ _ _ = b_X10_numberHere_67_44 q (nI lo) (nI hi - 1) (nI s) (nI (min (10 * dgV h s k + dgt h (s + k)) 100000)) a' ∧ _
      unfold bb_X10_numberHere_67_44
      have ev : (10 : Int32) * nI (min (dgV h s k) 100000) + nI (48 + dgt h (s + k)) - 48 = nI (10 * min (dgV h s k) 100000 + dgt h (s + k)) := by
        rw [show (10 : Int32) * nI (min (dgV h s k) 100000) = nI (10 * min (dgV h s k) 100000) from pk_mul 10 _, nI_add, show (48 : Int32) = nI 48 from rfl, nI_sub (by omega)]
        congr 1
        omega
      rw [x4, at_m t (hT1.fr f2 rfl (fun _ => rfl)) (by omega), bd_some, isDig, ct, bd_some, if_neg (by decide), bd_some, d1, ev, ltv_eq]
      refine ⟨wI x 67 4 (nI (s + (k + 1))), ?_, Fr.tr f2 (Fr.wrI rfl), wI_at⟩
      by_cases c : 10 * min (dgV h s k) 100000 + dgt h (s + k) ≤ 100000
      · rw [if_pos (show nI _ ≤ (100000 : Int32) from nI_le (b := 100000) c (by decide)), ltv_eq, nI_1, show min (10 * dgV h s k + dgt h (s + k)) 100000 = 10 * min (dgV h s k) 100000 + dgt h (s + k) by omega]
        rfl
      · rw [if_neg (show ¬ nI _ ≤ (100000 : Int32) from nI_ge (a := 100000) (by omega) (by omega)), ltv_eq, nI_1, show min (10 * dgV h s k + dgt h (s + k)) 100000 = 100000 by omega]
        rfl
    · rintro q x ⟨f2, x4⟩
      rw [show s + (dE h s - s) = dE h s by omega] at x4
      have x0 : x.1 67 5 = 0 := ((f2 67 5 rfl).1).trans z1
      have fx : Fr F46 N x := Fr.tr (Fr.sub f1 (by decide)) (Fr.sub f2 (by decide))
      show ∃ N' v, bb_X10_numberHere_67_44 _ _ _ _ _ _ = _ ∧ _
      unfold bb_X10_numberHere_67_44
      generalize dgV h s (dE h s - s) = v at *
      rw [x4, at_m t (hT1.fr f2 rfl (fun _ => rfl)) (by omega), bd_some, isDig, de3, bd_some, if_pos (by decide), f_inI, bd_some, inI_pr (by omega) (by omega) (by omega)]
      by_cases c : lo ≤ v ∧ v < hi
      · rw [if_pos c, decide_eq_true (show lo ≤ min v 100000 ∧ min v 100000 < hi by omega), if_neg (by decide), if_pos x0]
        exact ⟨x, _, rfl, fx, Or.inr ⟨v, dE h s, rfl, by rw [Nat.min_eq_left (by omega)], x4, x0, ((f2 67 6 rfl).1).trans (f1 67 6 rfl).1⟩⟩
      · rw [if_neg c, decide_eq_false (show ¬ (lo ≤ min v 100000 ∧ min v 100000 < hi) by omega), if_pos (by decide), show f_X10_wrong_67 2 (nI s) x = _ from wrong_m x0, bd_some, if_neg (show ¬ (wI (wI x 67 5 2) 67 6 (nI s)).1 67 5 = 0 from show ¬ (2 : Int32) = 0 by decide)]
        exact ⟨_, _, rfl, Fr.tr fx (Fr.tr (Fr.wrI rfl) (Fr.wrI rfl)), Or.inl ⟨2, s, rfl, rfl, rfl, wI_at, by decide, by decide, _, dl, x4⟩⟩
-- ===== the model's words =====
def ltr (h : Nat → Int32) (i : Nat) : Nat := (h i).toNatClampNeg - 96
def hsN (h : Nat → Int32) (a : Nat) : Nat → Nat
  | 0 => 0
  | k + 1 => 27 * hsN h a k + ltr h (a + k)
theorem ltr_ok {h : Nat → Int32} {i : Nat} (hd : inI (h i) 97 122 = true) : h i = nI (96 + ltr h i) ∧ 1 ≤ ltr h i ∧ ltr h i ≤ 26 := by
  obtain ⟨k, e, h1, h2⟩ := inI_nI (b := 97) (c := 122) (by decide) hd (by decide)
  unfold ltr
  rw [e, nI_clamp (by omega)]
  exact ⟨by rw [show 96 + (k - 96) = k by omega], by omega, by omega⟩
theorem hsN_lt {h : Nat → Int32} {a : Nat} : ∀ {m : Nat}, (∀ i, i < m → ltr h (a + i) ≤ 26) → hsN h a m < 27 ^ m
  | 0, _ => Nat.one_pos
  | m + 1, hd => by
    have ih := hsN_lt (m := m) (fun i hi => hd i (by omega))
    have := hd m (Nat.lt_succ_self _)
    show 27 * hsN h a m + ltr h (a + m) < _
    rw [Nat.pow_succ]
    omega
theorem hsN_inj {h g : Nat → Int32} {a b : Nat} : ∀ {m k : Nat}, (∀ i, i < m → 1 ≤ ltr h (a + i) ∧ ltr h (a + i) ≤ 26) → (∀ i, i < k → 1 ≤ ltr g (b + i) ∧ ltr g (b + i) ≤ 26) → hsN h a m = hsN g b k → m = k ∧ ∀ i, i < m → ltr h (a + i) = ltr g (b + i)
  | 0, 0, _, _, _ => ⟨rfl, fun i hi => absurd hi (by omega)⟩
  | 0, k + 1, _, h2, e => by
    have := (h2 k (Nat.lt_succ_self _)).1
    have e' : 0 = 27 * hsN g b k + ltr g (b + k) := e
    omega
  | m + 1, 0, h1, _, e => by
    have := (h1 m (Nat.lt_succ_self _)).1
    have e' : 27 * hsN h a m + ltr h (a + m) = 0 := e
    omega
  | m + 1, k + 1, h1, h2, e => by
    have q1 := h1 m (Nat.lt_succ_self _)
    have q2 := h2 k (Nat.lt_succ_self _)
    have e' : 27 * hsN h a m + ltr h (a + m) = 27 * hsN g b k + ltr g (b + k) := e
    obtain ⟨r1, r2⟩ := hsN_inj (m := m) (k := k) (fun i hi => h1 i (by omega)) (fun i hi => h2 i (by omega)) (by omega)
    subst r1
    refine ⟨rfl, fun i hi => ?_⟩
    by_cases z : i = m
    · rw [z]
      omega
    · exact r2 i (by omega)
theorem hsN_cong {h g : Nat → Int32} {a b : Nat} : ∀ {m : Nat}, (∀ i, i < m → h (a + i) = g (b + i)) → hsN h a m = hsN g b m
  | 0, _ => rfl
  | m + 1, hd => by
    show 27 * hsN h a m + ltr h (a + m) = 27 * hsN g b m + ltr g (b + m)
    rw [hsN_cong (m := m) (fun i hi => hd i (by omega))]
    unfold ltr
    rw [hd m (Nat.lt_succ_self _)]
def hsV (h : Nat → Int32) (a e : Nat) : Int32 := if e - a ≤ 6 then nI (hsN h a (e - a)) else -1
theorem p27 {m : Nat} (h : m ≤ 6) : 27 ^ m ≤ 387420489 := Nat.le_trans (Nat.pow_le_pow_right (by decide) h) (by decide)
theorem wordHere_m {h : Nat → Int32} {n a : Nat} {N : Mm} (t : Tx h n) (hT : TM h n N) (ha : N.1 67 4 = nI a) (hl : a ≤ n) (hb : ¬ h a = 32) : f_X10_wordHere_67 N = some (hsV h a (aE h a), N) := by
  have h5 := t.1
  obtain ⟨ae1, ae2, ae3⟩ := aE_ok t a
  have al := aE_le t hl
  unfold f_X10_wordHere_67 bb_X10_wordHere_67_0
  rw [blanks_id t hT ha hl hb, bd_some]
  have lt26 : ∀ k, k ≤ aE h a - a → ∀ i, i < k → ltr h (a + i) ≤ 26 := fun k hk i hi => (ltr_ok (ae2 (a + i) (by omega) (by omega))).2.2
  refine for_q (fun q k (_ : Unit) => b_X10_wordHere_67_8 q (nI (hsN h a (min k 6))) (nI k) N) (aE h a - a) (fun _ _ => True) (fun o => o = some (hsV h a (aE h a), N)) ?_ ?_ (aE h a - a) 0 () FU (Nat.zero_add _) (by show _ < 200000; omega) trivial
  · intro q k _ hk _
    right
    refine ⟨(), ?_, trivial⟩
    have ct := ae2 (a + k) (by omega) (by omega)
    obtain ⟨c1, c2⟩ := inI_t1 ct
    obtain ⟨d1, d2, d3⟩ := ltr_ok ct
    show bb_X10_wordHere_67_8 _ _ _ _ = _
    unfold bb_X10_wordHere_67_8
    rw [ha, nI_add, at_m t hT (by omega), bd_some, if_neg c1, bd_some, if_neg c2, bd_some]
    by_cases k6 : 6 ≤ k
    · rw [if_pos (show (6 : Int32) ≤ nI k from nI_le (a := 6) k6 (by omega)), ltv_eq, nI_1, Nat.min_eq_right k6, Nat.min_eq_right (by omega)]
    · rw [if_neg (show ¬ (6 : Int32) ≤ nI k from nI_ge (b := 6) (by omega) (by decide)), ltv_eq, ltv_eq, nI_1, Nat.min_eq_left (by omega), Nat.min_eq_left (by omega)]
      have hv := hsN_lt (lt26 k (by omega))
      have hp := p27 (m := k) (by omega)
      have ev : (27 : Int32) * nI (hsN h a k) + h (a + k) - 97 + 1 = nI (hsN h a (k + 1)) := by
        rw [d1, show (27 : Int32) * nI (hsN h a k) = nI (27 * hsN h a k) from pk_mul 27 _, nI_add, show (97 : Int32) = nI 97 from rfl, nI_sub (by omega), nI_1, show 27 * hsN h a k + (96 + ltr h (a + k)) - 97 + 1 = hsN h a (k + 1) from (show 27 * hsN h a k + (96 + ltr h (a + k)) - 97 + 1 = 27 * hsN h a k + ltr h (a + k) by omega)]
      rw [ev]
  · intro q _ _
    show bb_X10_wordHere_67_8 _ _ _ _ = _
    unfold bb_X10_wordHere_67_8 hsV
    rw [ha, nI_add, show a + (aE h a - a) = aE h a by omega, at_m t hT (by omega), bd_some, bd_some]
    have fin : (if nI (aE h a - a) ≤ (6 : Int32) then some (nI (hsN h a (min (aE h a - a) 6)), N) else some ((-1 : Int32), N)) = some (if aE h a - a ≤ 6 then nI (hsN h a (aE h a - a)) else -1, N) := by
      by_cases c : aE h a - a ≤ 6
      · rw [if_pos (show nI (aE h a - a) ≤ (6 : Int32) from nI_le (b := 6) c (by decide)), if_pos c, Nat.min_eq_left c]
      · rw [if_neg (show ¬ nI (aE h a - a) ≤ (6 : Int32) from nI_ge (a := 6) (by omega) (by omega)), if_neg c]
    by_cases c1 : h (aE h a) < 97
    · rw [if_pos c1]
      exact fin
    · rw [if_neg c1]
      by_cases c2 : 122 < h (aE h a)
      · rw [if_pos c2]
        exact fin
      · rw [inI_t c1 c2] at ae3
        cases ae3
theorem st_iff {h : Nat → Int32} {n a j K : Nat} (t : Tx h n) (hK : K ≤ 6) (hj : ∀ k, k < K → strC j k = nI (96 + ltr (strC j) k) ∧ 1 ≤ ltr (strC j) k ∧ ltr (strC j) k ≤ 26) : (hsV h a (aE h a) = nI (hsN (strC j) 0 K)) ↔ StP h a (aE h a) j K := by
  obtain ⟨ae1, ae2, ae3⟩ := aE_ok t a
  have hg : ∀ i, i < K → 1 ≤ ltr (strC j) (0 + i) ∧ ltr (strC j) (0 + i) ≤ 26 := fun i hi => by rw [Nat.zero_add]; exact (hj i hi).2
  have gv := hsN_lt (h := strC j) (a := 0) (m := K) (fun i hi => (hg i hi).2)
  have gp := p27 hK
  have hh : ∀ m, m ≤ aE h a - a → ∀ i, i < m → 1 ≤ ltr h (a + i) ∧ ltr h (a + i) ≤ 26 := fun m hm i hi => (ltr_ok (ae2 (a + i) (by omega) (by omega))).2
  unfold hsV
  by_cases c : aE h a - a ≤ 6
  · rw [if_pos c]
    have hv := hsN_lt (fun i hi => (hh _ (Nat.le_refl _) i hi).2)
    have hp := p27 c
    rw [nI_eq (by omega) (by omega)]
    constructor
    · intro e
      obtain ⟨r1, r2⟩ := hsN_inj (hh _ (Nat.le_refl _)) hg e
      refine ⟨by omega, fun k hk => ?_⟩
      rw [(ltr_ok (ae2 (a + k) (by omega) (by omega))).1, (hj k hk).1, r2 k (by omega), Nat.zero_add]
    · rintro ⟨r1, r2⟩
      rw [show aE h a - a = K by omega]
      exact hsN_cong (fun i hi => by rw [r2 i hi, Nat.zero_add])
  · rw [if_neg c]
    constructor
    · intro e
      exfalso
      exact nI_pos (show hsN (strC j) 0 K < 2 ^ 31 by omega) (by rw [← e]; decide)
    · intro e
      have := e.1
      omega
theorem isWord_m {h : Nat → Int32} {n a j K : Nat} {N : Mm} {x1 x2 x3 x4 x5 x6 : Int32} (t : Tx h n) (hT : TM h n N) (ha : N.1 67 4 = nI a) (hl : a ≤ n) (hb : ¬ h a = 32) (h0 : N.1 67 5 = 0) (hK : K ≤ 6) (hj : ∀ k, k < K → strC j k = nI (96 + ltr (strC j) k) ∧ 1 ≤ ltr (strC j) k ∧ ltr (strC j) k ≤ 26) (hn : f_X10_named x1 x2 x3 x4 x5 x6 = some (nI (hsN (strC j) 0 K))) : f_X10_isWord_67 x1 x2 x3 x4 x5 x6 N = some (if StP h a (aE h a) j K then 1 else 0, N) := by
  unfold f_X10_isWord_67 bb_X10_isWord_67_0
  rw [if_pos h0, wordHere_m t hT ha hl hb, bd2_some, hn, bd_some]
  by_cases c : StP h a (aE h a) j K
  · rw [if_pos c, if_pos ((st_iff t hK hj).mpr c)]
  · rw [if_neg c, if_neg (fun z => c ((st_iff t hK hj).mp z))]
theorem sj0 : ∀ k, k < 6 → strC 0 k = nI (96 + ltr (strC 0) k) ∧ 1 ≤ ltr (strC 0) k ∧ ltr (strC 0) k ≤ 26 := by decide +kernel
theorem nj0 : f_X10_named 12 5 20 20 5 18 = some (nI (hsN (strC 0) 0 6)) := by decide +kernel
theorem sj1 : ∀ k, k < 6 → strC 1 k = nI (96 + ltr (strC 1) k) ∧ 1 ≤ ltr (strC 1) k ∧ ltr (strC 1) k ≤ 26 := by decide +kernel
theorem nj1 : f_X10_named 20 21 18 14 5 4 = some (nI (hsN (strC 1) 0 6)) := by decide +kernel
theorem sj2 : ∀ k, k < 6 → strC 2 k = nI (96 + ltr (strC 2) k) ∧ 1 ≤ ltr (strC 2) k ∧ ltr (strC 2) k ≤ 26 := by decide +kernel
theorem nj2 : f_X10_named 13 9 18 18 15 18 = some (nI (hsN (strC 2) 0 6)) := by decide +kernel
theorem sj3 : ∀ k, k < 3 → strC 3 k = nI (96 + ltr (strC 3) k) ∧ 1 ≤ ltr (strC 3) k ∧ ltr (strC 3) k ≤ 26 := by decide +kernel
theorem nj3 : f_X10_named 2 1 18 0 0 0 = some (nI (hsN (strC 3) 0 3)) := by decide +kernel
theorem sj4 : ∀ k, k < 4 → strC 4 k = nI (96 + ltr (strC 4) k) ∧ 1 ≤ ltr (strC 4) k ∧ ltr (strC 4) k ≤ 26 := by decide +kernel
theorem nj4 : f_X10_named 18 9 14 7 0 0 = some (nI (hsN (strC 4) 0 4)) := by decide +kernel
theorem sj5 : ∀ k, k < 3 → strC 5 k = nI (96 + ltr (strC 5) k) ∧ 1 ≤ ltr (strC 5) k ∧ ltr (strC 5) k ≤ 26 := by decide +kernel
theorem nj5 : f_X10_named 3 21 20 0 0 0 = some (nI (hsN (strC 5) 0 3)) := by decide +kernel
theorem sj6 : ∀ k, k < 4 → strC 6 k = nI (96 + ltr (strC 6) k) ∧ 1 ≤ ltr (strC 6) k ∧ ltr (strC 6) k ≤ 26 := by decide +kernel
theorem nj6 : f_X10_named 23 15 18 4 0 0 = some (nI (hsN (strC 6) 0 4)) := by decide +kernel
theorem sj7 : ∀ k, k < 6 → strC 7 k = nI (96 + ltr (strC 7) k) ∧ 1 ≤ ltr (strC 7) k ∧ ltr (strC 7) k ≤ 26 := by decide +kernel
theorem nj7 : f_X10_named 19 16 18 5 1 4 = some (nI (hsN (strC 7) 0 6)) := by decide +kernel
theorem kind_m {h : Nat → Int32} {n a : Nat} {N : Mm} (t : Tx h n) (hT : TM h n N) (ha : N.1 67 4 = nI a) (hl : a ≤ n) (hb : ¬ h a = 32) (h0 : N.1 67 5 = 0) : f_X10_kindHere_67 N = some (kwV h a (aE h a), N) := by
  unfold f_X10_kindHere_67 bb_X10_kindHere_67_0 kwV
  rw [isWord_m t hT ha hl hb h0 (by decide) sj0 nj0, bd2_some]
  by_cases c0 : StP h a (aE h a) 0 6
  · rw [if_pos c0, if_pos c0, if_neg (by decide)]
  rw [if_neg c0, if_neg c0, if_pos rfl]
  rw [isWord_m t hT ha hl hb h0 (by decide) sj1 nj1, bd2_some]
  by_cases c1 : StP h a (aE h a) 1 6
  · rw [if_pos c1, if_pos c1, if_neg (by decide)]
  rw [if_neg c1, if_neg c1, if_pos rfl]
  rw [isWord_m t hT ha hl hb h0 (by decide) sj2 nj2, bd2_some]
  by_cases c2 : StP h a (aE h a) 2 6
  · rw [if_pos c2, if_pos c2, if_neg (by decide)]
  rw [if_neg c2, if_neg c2, if_pos rfl]
  rw [isWord_m t hT ha hl hb h0 (by decide) sj3 nj3, bd2_some]
  by_cases c3 : StP h a (aE h a) 3 3
  · rw [if_pos c3, if_pos c3, if_neg (by decide)]
  rw [if_neg c3, if_neg c3, if_pos rfl]
  rw [isWord_m t hT ha hl hb h0 (by decide) sj4 nj4, bd2_some]
  by_cases c4 : StP h a (aE h a) 4 4
  · rw [if_pos c4, if_pos c4, if_neg (by decide)]
  rw [if_neg c4, if_neg c4, if_pos rfl]
  rw [isWord_m t hT ha hl hb h0 (by decide) sj5 nj5, bd2_some]
  by_cases c5 : StP h a (aE h a) 5 3
  · rw [if_pos c5, if_pos c5, if_neg (by decide)]
  rw [if_neg c5, if_neg c5, if_pos rfl]
  rw [isWord_m t hT ha hl hb h0 (by decide) sj6 nj6, bd2_some]
  by_cases c6 : StP h a (aE h a) 6 4
  · rw [if_pos c6, if_pos c6, if_neg (by decide)]
  rw [if_neg c6, if_neg c6, if_pos rfl]
  rw [isWord_m t hT ha hl hb h0 (by decide) sj7 nj7, bd2_some]
  by_cases c7 : StP h a (aE h a) 7 6
  · rw [if_pos c7, if_pos c7, if_neg (by decide)]
  rw [if_neg c7, if_neg c7, if_pos rfl]
theorem skipWord_m {h : Nat → Int32} {n a : Nat} {N : Mm} (t : Tx h n) (hT : TM h n N) (ha : N.1 67 4 = nI a) (hl : a ≤ n) : ∃ N', f_X10_skipWord_67 N = some N' ∧ Fr [(67, 4)] N N' ∧ N'.1 67 4 = nI (aE h a) := by
  have h5 := t.1
  obtain ⟨ae1, ae2, ae3⟩ := aE_ok t a
  have al := aE_le t hl
  refine for_q (fun q k (x : Mm) => b_X10_skipWord_67_0 q x) (aE h a - a) (fun k x => Fr [(67, 4)] N x ∧ x.1 67 4 = nI (a + k)) (fun o => ∃ M', o = some M' ∧ Fr [(67, 4)] N M' ∧ M'.1 67 4 = nI (aE h a)) ?_ ?_ (aE h a - a) 0 N FU (Nat.zero_add _) (by show _ < 200000; omega) ⟨Fr.refl, ha⟩
  · rintro q k x hk ⟨f1, x4⟩
    right
    obtain ⟨c1, c2⟩ := inI_t1 (ae2 (a + k) (by omega) (by omega))
    show ∃ a', bb_X10_skipWord_67_0 _ _ = _ ∧ _
    unfold bb_X10_skipWord_67_0
    rw [x4, at_m t (hT.fr f1 rfl (fun _ => rfl)) (by omega), bd_some, if_neg c1, bd_some, if_neg c2, ltv_eq, nI_1]
    exact ⟨_, rfl, Fr.tr f1 (Fr.wrI rfl), wI_at⟩
  · rintro q x ⟨f1, x4⟩
    rw [show a + (aE h a - a) = aE h a by omega] at x4
    refine ⟨x, ?_, f1, x4⟩
    show bb_X10_skipWord_67_0 _ _ = _
    unfold bb_X10_skipWord_67_0
    rw [x4, at_m t (hT.fr f1 rfl (fun _ => rfl)) (by omega), bd_some, bd_some]
    by_cases c1 : h (aE h a) < 97
    · rw [if_pos c1]
    · rw [if_neg c1]
      by_cases c2 : 122 < h (aE h a)
      · rw [if_pos c2]
      · rw [inI_t c1 c2] at ae3
        cases ae3
