-- ===== even: the model's side =====
def rstV (P : Nat → Bool) (v : Nat) : Nat → Nat
  | 0 => v
  | k + 1 => if P k then rstV P v k / 5 else rstV P v k
def rmV (P : Nat → Bool) (v : Nat) : Nat → Nat
  | 0 => 0
  | k + 1 => if P k then rmV P v k + 5 ^ k * (rstV P v k % 5) else rmV P v k
theorem rstV_eq (P : Nat → Bool) (v : Nat) : ∀ k, rstV P v k = v / 5 ^ bcn P k
  | 0 => (Nat.div_one v).symm
  | k + 1 => by
    show (if P k then rstV P v k / 5 else rstV P v k) = v / 5 ^ (bcn P k + (if P k then 1 else 0))
    rw [rstV_eq P v k]
    cases P k with
    | true =>
      rw [if_pos rfl, if_pos rfl, Nat.pow_succ, Nat.div_div_eq_div_mul]
    | false => rfl
theorem rstV_le (P : Nat → Bool) (v k : Nat) : rstV P v k ≤ v := by
  rw [rstV_eq]
  exact Nat.div_le_self _ _
theorem rmV_lt (P : Nat → Bool) (v : Nat) : ∀ k, rmV P v k < 5 ^ k
  | 0 => Nat.one_pos
  | k + 1 => by
    have ih := rmV_lt P v k
    have e : 5 ^ (k + 1) = 5 ^ k * 5 := Nat.pow_succ 5 k
    show (if P k then rmV P v k + 5 ^ k * (rstV P v k % 5) else rmV P v k) < _
    rw [e]
    cases P k with
    | true =>
      rw [if_pos rfl]
      have h5 : rstV P v k % 5 ≤ 4 := by omega
      have := Nat.mul_le_mul_left (5 ^ k) h5
      omega
    | false =>
      rw [if_neg (by decide)]
      omega
theorem rmV_hi (P : Nat → Bool) (v : Nat) : ∀ k l, k ≤ l → rmV P v k / 5 ^ l % 5 = 0 := by
  intro k l h
  rw [Nat.div_eq_of_lt (Nat.lt_of_lt_of_le (rmV_lt P v k) (Nat.pow_le_pow_right (by decide) h))]
theorem rmV_dig (P : Nat → Bool) (v : Nat) {l : Nat} (hP : P l = false) : ∀ k, rmV P v k / 5 ^ l % 5 = 0
  | 0 => by rw [show rmV P v 0 = 0 from rfl, Nat.zero_div]
  | k + 1 => by
    have ih := rmV_dig P v hP k
    show (if P k then rmV P v k + 5 ^ k * (rstV P v k % 5) else rmV P v k) / 5 ^ l % 5 = 0
    cases hk : P k with
    | false =>
      rw [if_neg (by decide)]
      exact ih
    | true =>
      rw [if_pos rfl]
      rcases Nat.lt_trichotomy l k with h | h | h
      · obtain ⟨e, rfl⟩ : ∃ e, k = l + (e + 1) := ⟨k - l - 1, by omega⟩
        have e1 : 5 ^ (l + (e + 1)) * (rstV P v (l + (e + 1)) % 5) = 5 ^ l * (5 * (5 ^ e * (rstV P v (l + (e + 1)) % 5))) := by
          rw [Nat.pow_add, Nat.pow_succ]
          simp only [Nat.mul_comm, Nat.mul_left_comm, Nat.mul_assoc]
        rw [e1, Nat.add_mul_div_left _ _ (p5 l), Nat.add_mul_mod_self_left]
        exact ih
      · rw [h, hk] at hP
        cases hP
      · have := rmV_hi P v (k + 1) l h
        rw [show rmV P v (k + 1) = rmV P v k + 5 ^ k * (rstV P v k % 5) from by show (if P k then _ else _) = _; rw [hk, if_pos rfl]] at this
        exact this
theorem rmV_mono (P : Nat → Bool) (v w : Nat) : ∀ k, v % 5 ^ bcn P k ≤ w % 5 ^ bcn P k → rmV P v k ≤ rmV P w k
  | 0, _ => Nat.le_refl _
  | k + 1, h => by
    have ih := rmV_mono P v w k
    have e : bcn P (k + 1) = bcn P k + (if P k then 1 else 0) := rfl
    rw [e] at h
    show (if P k then rmV P v k + 5 ^ k * (rstV P v k % 5) else rmV P v k) ≤ (if P k then rmV P w k + 5 ^ k * (rstV P w k % 5) else rmV P w k)
    cases hk : P k with
    | false =>
      rw [hk] at h
      rw [if_neg (by decide), if_neg (by decide)]
      exact ih h
    | true =>
      rw [hk, if_pos rfl, Nat.pow_succ, Nat.mod_mul, Nat.mod_mul] at h
      rw [if_pos rfl, if_pos rfl, rstV_eq, rstV_eq]
      have a1 := Nat.mod_lt v (p5 (bcn P k))
      have a2 := Nat.mod_lt w (p5 (bcn P k))
      have l1 := rmV_lt P v k
      have l2 := rmV_lt P w k
      generalize v % 5 ^ bcn P k = a at *
      generalize w % 5 ^ bcn P k = b at *
      generalize v / 5 ^ bcn P k % 5 = d at *
      generalize w / 5 ^ bcn P k % 5 = f at *
      generalize 5 ^ bcn P k = q at *
      generalize 5 ^ k = t at *
      rcases Nat.lt_trichotomy d f with z | z | z
      · have := Nat.mul_le_mul_left t (show d + 1 ≤ f from z)
        rw [Nat.mul_add, Nat.mul_one] at this
        omega
      · subst z
        have := ih (by omega)
        omega
      · exfalso
        have := Nat.mul_le_mul_left q (show f + 1 ≤ d from z)
        rw [Nat.mul_add, Nat.mul_one] at this
        omega
def vrV (P : Nat → Bool) (r : Nat) : Nat → Nat
  | 0 => 0
  | k + 1 => if P k then vrV P r k + 5 ^ bcn P k * (r / 5 ^ k % 5) else vrV P r k
theorem vrV_lt (P : Nat → Bool) (r : Nat) : ∀ k, vrV P r k < 5 ^ bcn P k
  | 0 => Nat.one_pos
  | k + 1 => by
    have ih := vrV_lt P r k
    have e : bcn P (k + 1) = bcn P k + (if P k then 1 else 0) := rfl
    rw [e]
    show (if P k then vrV P r k + 5 ^ bcn P k * (r / 5 ^ k % 5) else vrV P r k) < _
    cases P k with
    | true =>
      rw [if_pos rfl, if_pos rfl, Nat.pow_succ]
      have h5 : r / 5 ^ k % 5 ≤ 4 := by omega
      have := Nat.mul_le_mul_left (5 ^ bcn P k) h5
      omega
    | false =>
      rw [if_neg (by decide), if_neg (by decide)]
      exact ih
theorem rm_vr (P : Nat → Bool) {r : Nat} (hr : ∀ l, P l = false → r / 5 ^ l % 5 = 0) : ∀ k u, rmV P (vrV P r k + 5 ^ bcn P k * u) k = r % 5 ^ k
  | 0, u => (Nat.mod_one r).symm
  | k + 1, u => by
    have ih := rm_vr P hr k
    have e : bcn P (k + 1) = bcn P k + (if P k then 1 else 0) := rfl
    have ev : vrV P r (k + 1) = if P k then vrV P r k + 5 ^ bcn P k * (r / 5 ^ k % 5) else vrV P r k := rfl
    rw [e, ev, Nat.pow_succ, Nat.mod_mul]
    cases hk : P k with
    | false =>
      rw [if_neg (by decide), if_neg (by decide), hr k hk, Nat.mul_zero, Nat.add_zero]
      show (if P k then _ else _) = _
      rw [hk, if_neg (by decide)]
      exact ih u
    | true =>
      rw [if_pos rfl, if_pos rfl]
      have e2 : vrV P r k + 5 ^ bcn P k * (r / 5 ^ k % 5) + 5 ^ (bcn P k + 1) * u = vrV P r k + 5 ^ bcn P k * (r / 5 ^ k % 5 + 5 * u) := by
        rw [Nat.pow_succ, Nat.mul_add, Nat.mul_assoc, Nat.add_assoc]
      rw [e2]
      show (if P k then rmV P _ k + 5 ^ k * (rstV P _ k % 5) else _) = _
      rw [hk, if_pos rfl, ih, rstV_eq, Nat.add_mul_div_left _ _ (p5 _), Nat.div_eq_of_lt (vrV_lt P r k), Nat.zero_add, Nat.add_mul_mod_self_left, Nat.mod_mod]
/-- the rooms that the model goes through -/
theorem rmV_ok {σ : Sg} (v : Nat) : RmOk σ (rmV (Use σ) v 10) := ⟨rmV_lt _ _ _, fun _ _ hu => rmV_dig _ _ hu _⟩
theorem rmV_all {σ : Sg} {r : Nat} (g : Good σ) (h : RmOk σ r) : ∃ v, v < 5 ^ bcn (Use σ) 10 ∧ rmV (Use σ) v 10 = r := by
  refine ⟨vrV (Use σ) r 10, vrV_lt _ _ _, ?_⟩
  have := rm_vr (Use σ) (r := r) (fun l hl => ?_) 10 0
  · rw [Nat.mul_zero, Nat.add_zero, Nat.mod_eq_of_lt h.1] at this
    exact this
  · by_cases c : l < 10
    · exact h.2 l c hl
    · rw [Nat.div_eq_of_lt (Nat.lt_of_lt_of_le h.1 (Nat.pow_le_pow_right (by decide) (by omega)))]
theorem rmV_le {P : Nat → Bool} {v w : Nat} (h : v ≤ w) (hw : w < 5 ^ bcn P 10) : rmV P v 10 ≤ rmV P w 10 := by
  apply rmV_mono
  rw [Nat.mod_eq_of_lt hw, Nat.mod_eq_of_lt (by omega)]
  exact h
-- ===== the inner walk =====
theorem popU {σ : Sg} : popN (mkB (Use σ) 10) = bcn (Use σ) 10 := by
  unfold popN
  rw [show (32 : Nat) = 10 + 22 from rfl, bcn_hi (fun i h1 _ => by rw [mkB_bit, decide_eq_false (by omega)]; rfl)]
  exact bcn_cong (fun i hi => by rw [mkB_bit, decide_eq_true hi]; rfl)
theorem ev_in {σ : Sg} {gr v : Nat} {N : Mm} {x3 x4 x5 : Int32} (k144 : Int32 → Int32 → Int32 → Int32 → Int32 → Mm → Option (Int32 × Mm)) (g : Good σ) (hM : SM σ N) (hB : LayB σ gr N) (hg : gr ≤ 16) (hv : v < 20000) : b_X10_even_67_163 k144 FU (nI (mkB (Use σ) 10)) x3 x4 x5 (nI v) 0 1 (nI v) 0 N = (if x5 = -1 then k144 (nI (mkB (Use σ) 10)) x3 (nI (rmV (Use σ) v 10)) (nI (Unv σ gr (rmV (Use σ) v 10))) (nI (v + 1)) N else if nI (Unv σ gr (rmV (Use σ) v 10)) < x5 then k144 (nI (mkB (Use σ) 10)) x3 (nI (rmV (Use σ) v 10)) (nI (Unv σ gr (rmV (Use σ) v 10))) (nI (v + 1)) N else k144 (nI (mkB (Use σ) 10)) x3 x4 x5 (nI (v + 1)) N) := by
  have p10 : 5 ^ 10 < 2 ^ 31 := by decide
  have hlt : mkB (Use σ) 10 < 2 ^ 31 := Nat.lt_of_lt_of_le (mkB_lt _ _) (by decide)
  refine for_q (fun q k (_ : Unit) => b_X10_even_67_163 k144 q (nI (mkB (Use σ) 10)) x3 x4 x5 (nI v) (nI (rmV (Use σ) v k)) (nI (5 ^ k)) (nI (rstV (Use σ) v k)) (nI k) N) 10 (fun _ _ => True) (fun o => o = (if x5 = -1 then k144 (nI (mkB (Use σ) 10)) x3 (nI (rmV (Use σ) v 10)) (nI (Unv σ gr (rmV (Use σ) v 10))) (nI (v + 1)) N else if nI (Unv σ gr (rmV (Use σ) v 10)) < x5 then k144 (nI (mkB (Use σ) 10)) x3 (nI (rmV (Use σ) v 10)) (nI (Unv σ gr (rmV (Use σ) v 10))) (nI (v + 1)) N else k144 (nI (mkB (Use σ) 10)) x3 x4 x5 (nI (v + 1)) N)) ?_ ?_ 10 0 () FU rfl (by decide) trivial
  · intro q k _ hk _
    right
    refine ⟨(), ?_, trivial⟩
    have hr := rstV_le (Use σ) v k
    have e8 : nI (5 ^ k) * 5 = nI (5 ^ (k + 1)) := pk_mul (5 ^ k) 5
    show bb_X10_even_67_163 _ _ _ _ _ _ _ _ _ _ _ _ = b_X10_even_67_163 k144 q (nI (mkB (Use σ) 10)) x3 x4 x5 (nI v) (nI (if Use σ k then rmV (Use σ) v k + 5 ^ k * (rstV (Use σ) v k % 5) else rmV (Use σ) v k)) (nI (5 ^ (k + 1))) (nI (if Use σ k then rstV (Use σ) v k / 5 else rstV (Use σ) v k)) (nI (k + 1)) N
    unfold bb_X10_even_67_163
    have bt : (shrI (nI (mkB (Use σ) 10)) (nI k) &&& 1 = 1) ↔ Use σ k = true := by
      rw [b32_1 (by omega), mkB_bit, decide_eq_true hk]
      rfl
    rw [if_neg (show ¬ (10 : Int32) ≤ nI k from nI_ge (b := 10) hk (by decide))]
    by_cases hu : Use σ k = true
    · rw [if_pos (bt.mpr hu), if_pos hu, if_pos hu]
      simp only [ltv_eq]
      rw [show rmI (nI (rstV (Use σ) v k)) 5 = nI (rstV (Use σ) v k % 5) from rmI_nI (by omega) (by decide) (by decide), show nI (rstV (Use σ) v k) / 5 = nI (rstV (Use σ) v k / 5) from pk_div (d := 5) (by omega) (by decide) (by decide), pk_mul, nI_add, e8, nI_1]
    · rw [if_neg (fun z => hu (bt.mp z)), if_neg hu, if_neg hu]
      simp only [ltv_eq]
      rw [e8, nI_1]
  · intro q _ _
    have hr := rmV_lt (Use σ) v 10
    show bb_X10_even_67_163 _ _ _ _ _ _ _ _ _ _ _ _ = _
    unfold bb_X10_even_67_163
    rw [if_pos (by decide), unv_m g hM hB (show rmV (Use σ) v 10 < 2 ^ 31 by omega) hg, bd_some]
    simp only [ltv_eq, nI_1]
/-- the least of all, the first of them -/
theorem ev_all {σ : Sg} {gr : Nat} {N : Mm} (g : Good σ) (hM : SM σ N) (hB : LayB σ gr N) (hg : gr ≤ 16) (h6 : bcn (Use σ) 10 ≤ 6) : ∃ v, b_X10_even_67_144 FU (nI (mkB (Use σ) 10)) (nI (5 ^ bcn (Use σ) 10)) 0 (-1) 0 N = some (v, N) ∧ IsEvn σ gr v := by
  have p6 : 5 ^ bcn (Use σ) 10 ≤ 15625 := Nat.le_trans (Nat.pow_le_pow_right (by decide) h6) (by decide)
  have hp := p5 (bcn (Use σ) 10)
  let V : Nat → Nat := fun v => Unv σ gr (rmV (Use σ) v 10)
  have hV : ∀ v, V v ≤ 128000 := fun v => Unv_le g hg
  refine for_q (fun q v (a : Int32 × Int32) => b_X10_even_67_144 q (nI (mkB (Use σ) 10)) (nI (5 ^ bcn (Use σ) 10)) a.1 a.2 (nI v) N) (5 ^ bcn (Use σ) 10) (fun v a => (v = 0 ∧ a.2 = -1) ∨ ∃ u, u < v ∧ a.1 = nI (rmV (Use σ) u 10) ∧ a.2 = nI (V u) ∧ ∀ u', u' < v → V u ≤ V u' ∧ (V u' = V u → u ≤ u')) (fun o => ∃ v, o = some (v, N) ∧ IsEvn σ gr v) ?_ ?_ (5 ^ bcn (Use σ) 10) 0 (0, -1) FU (Nat.zero_add _) (by show _ < 200000; omega) (Or.inl ⟨rfl, rfl⟩)
  · rintro q v ⟨x4, x5⟩ hv hI
    right
    have hVv := hV v
    have e : b_X10_even_67_144 (q + 1) (nI (mkB (Use σ) 10)) (nI (5 ^ bcn (Use σ) 10)) x4 x5 (nI v) N = _ := (if_neg (nI_ge hv (by omega))).trans (ev_in (x3 := nI (5 ^ bcn (Use σ) 10)) (x4 := x4) (x5 := x5) (b_X10_even_67_144 q) g hM hB hg (show v < 20000 by omega))
    show ∃ a', b_X10_even_67_144 (q + 1) (nI (mkB (Use σ) 10)) (nI (5 ^ bcn (Use σ) 10)) x4 x5 (nI v) N = _ ∧ _
    rw [e]
    rcases hI with ⟨rfl, h2⟩ | ⟨u, u1, u2, u3, u4⟩
    · have h2' : x5 = -1 := h2
      rw [if_pos h2']
      exact ⟨(_, _), rfl, Or.inr ⟨0, Nat.one_pos, rfl, rfl, fun u' hu => by
        have : u' = 0 := by omega
        rw [this]
        exact ⟨Nat.le_refl _, fun _ => Nat.le_refl _⟩⟩⟩
    · have u3' : x5 = nI (V u) := u3
      have hVu := hV u
      rw [if_neg (by rw [u3']; intro z; exact nI_pos (show V u < 2 ^ 31 by omega) (by rw [z]; decide))]
      by_cases c : V v < V u
      · rw [if_pos (show nI (V v) < x5 from by rw [u3']; exact nI_lt c (by omega))]
        refine ⟨(_, _), rfl, Or.inr ⟨v, Nat.lt_succ_self _, rfl, rfl, fun u' hu => ?_⟩⟩
        by_cases e : u' = v
        · rw [e]
          exact ⟨Nat.le_refl _, fun _ => Nat.le_refl _⟩
        · have := u4 u' (by omega)
          exact ⟨by omega, fun z => by omega⟩
      · rw [if_neg (show ¬ nI (V v) < x5 from by rw [u3']; exact nI_nlt (by omega) (by omega))]
        refine ⟨(x4, x5), rfl, Or.inr ⟨u, by omega, u2, u3, fun u' hu => ?_⟩⟩
        by_cases e : u' = v
        · rw [e]
          exact ⟨by omega, fun _ => by omega⟩
        · exact u4 u' (by omega)
  · rintro q ⟨x4, x5⟩ hI
    refine ⟨x4, (if_pos (nI_le (Nat.le_refl _) (by omega))).trans rfl, fun z => by omega, fun _ => ?_⟩
    rcases hI with ⟨h, _⟩ | ⟨u, u1, u2, u3, u4⟩
    · omega
    · refine ⟨rmV (Use σ) u 10, u2, rmV_ok u, fun r' hr' => ?_⟩
      obtain ⟨w, w1, rfl⟩ := rmV_all g hr'
      have := u4 w w1
      exact ⟨this.1, fun z => rmV_le (this.2 z) w1⟩
theorem ev_111 {σ : Sg} {z : Nat} {N : Mm} (g : Good σ) (hM : SM σ N) (hz : z < 10) (h6 : bcn (Use σ) 10 ≤ 6) : ∃ v N', b_X10_even_67_111 FU (nI z) (nI (mkB (Use σ) 10)) 1 0 (-1) 0 N = some (v, N') ∧ IsEvn σ (sSpr σ z) v ∧ Fr [(109, 999), (110, 999)] N N' := by
  have hlt : mkB (Use σ) 10 < 2 ^ 31 := Nat.lt_of_lt_of_le (mkB_lt _ _) (by decide)
  refine for_q (fun q k (_ : Unit) => b_X10_even_67_111 q (nI z) (nI (mkB (Use σ) 10)) (nI (5 ^ k)) 0 (-1) (nI k) N) (bcn (Use σ) 10) (fun _ _ => True) (fun o => ∃ v N', o = some (v, N') ∧ IsEvn σ (sSpr σ z) v ∧ Fr [(109, 999), (110, 999)] N N') ?_ ?_ (bcn (Use σ) 10) 0 () FU (Nat.zero_add _) (by show _ < 200000; omega) trivial
  · intro q k _ hk _
    right
    refine ⟨(), ?_, trivial⟩
    show bb_X10_even_67_111 _ _ _ _ _ _ _ _ = _
    unfold bb_X10_even_67_111
    rw [f_ones, pop_nI hlt, popU, bd_some, if_neg (nI_ge hk (by omega)), ltv_eq, ltv_eq, nI_1, show nI (5 ^ k) * 5 = nI (5 ^ (k + 1)) from pk_mul (5 ^ k) 5]
  · intro q _ _
    obtain ⟨N', e1, e2, e3⟩ := layB_m (sSpr σ z) g hM
    obtain ⟨v, e4, e5⟩ := ev_all g (hM.fr e2 (by decide)) e3 (g.2.2.2.1 z hz) h6
    refine ⟨v, N', ?_, e5, e2⟩
    show bb_X10_even_67_111 _ _ _ _ _ _ _ _ = _
    unfold bb_X10_even_67_111
    rw [f_ones, pop_nI hlt, popU, bd_some, if_pos (nI_le (Nat.le_refl _) (by omega)), gd_of (inb_nI (by omega) (by decide)), ix_nI (by omega), hM.of.2.2.2.2.2.1 z hz, e1, bd_some]
    exact e4
def UseK (σ : Sg) (w k l : Nat) : Bool := anB (fun v => anB (fun j => decide (sWl σ v j = l)) (sLen σ v)) w || anB (fun j => decide (sWl σ w j = l)) k
theorem anB_s (f : Nat → Bool) (n : Nat) : anB f (n + 1) = (anB f n || f n) := by
  apply Bool.eq_iff_iff.mpr
  rw [anB_iff, Bool.or_eq_true, anB_iff]
  constructor
  · rintro ⟨s, hs, h⟩
    by_cases e : s = n
    · right
      rw [← e]
      exact h
    · exact Or.inl ⟨s, by omega, h⟩
  · rintro (⟨s, hs, h⟩ | h)
    · exact ⟨s, by omega, h⟩
    · exact ⟨n, Nat.lt_succ_self _, h⟩
theorem evm_in {σ : Sg} {w : Nat} {N : Mm} {x1 x3 x4 x5 : Int32} (k43 : Int32 → Int32 → Int32 → Int32 → Int32 → Int32 → Mm → Option (Int32 × Mm)) (g : Good σ) (hM : SM σ N) (hw : w < sW σ) {m : Nat} (hm : ∀ l, m.testBit l = UseK σ w 0 l) : ∃ m' : Nat, b_X10_even_67_57 k43 FU x1 (nI m) x3 x4 x5 (nI w) 0 N = k43 x1 (nI m') x3 x4 x5 (nI (w + 1)) N ∧ ∀ l, m'.testBit l = UseK σ (w + 1) 0 l := by
  have s := hM.of
  have hW := g.2.1
  obtain ⟨l1, l8, lk⟩ := g.2.2.1 w hw
  have hL := g.1
  have i6 : inb (nI w) 6 = true := inb_nI (by omega) (by decide)
  refine for_q (fun q k (a : Nat) => b_X10_even_67_57 k43 q x1 (nI a) x3 x4 x5 (nI w) (nI k) N) (sLen σ w) (fun k a => ∀ l, a.testBit l = UseK σ w k l) (fun o => ∃ m' : Nat, o = k43 x1 (nI m') x3 x4 x5 (nI (w + 1)) N ∧ ∀ l, m'.testBit l = UseK σ (w + 1) 0 l) ?_ ?_ (sLen σ w) 0 m FU (Nat.zero_add _) (by show _ < 200000; omega) hm
  · intro q k a hk hI
    right
    refine ⟨a ||| 2 ^ sWl σ w k, ?_, fun l => ?_⟩
    · show bb_X10_even_67_57 _ _ _ _ _ _ _ _ _ _ = _
      unfold bb_X10_even_67_57
      have := lk k hk
      rw [gd_of i6, gd_of i6, gd_of (inb_nI (by omega) (by decide)), ix_nI (show w < 2 ^ 31 by omega), ix_nI (show k < 2 ^ 31 by omega), s.2.2.2.2.1.1 w hw, if_neg (nI_ge hk (by omega)), hM.wl hW hw hk, shI_c _ (by omega), nI_or, ltv_eq, ltv_eq, nI_1]
    · rw [Nat.testBit_or, Nat.testBit_two_pow, hI]
      unfold UseK
      rw [anB_s, Bool.or_assoc]
  · intro q a hI
    refine ⟨a, ?_, fun l => ?_⟩
    · show bb_X10_even_67_57 _ _ _ _ _ _ _ _ _ _ = _
      unfold bb_X10_even_67_57
      rw [gd_of i6, ix_nI (show w < 2 ^ 31 by omega), s.2.2.2.2.1.1 w hw, if_pos (nI_le (Nat.le_refl _) (by omega)), ltv_eq, nI_1]
    · rw [hI]
      unfold UseK
      rw [anB_s]
      exact (Bool.or_false _).symm
theorem ev_m {σ : Sg} {z : Nat} {N : Mm} (g : Good σ) (hM : SM σ N) (hz : z < 10) : ∃ v N', b_X10_even_67_43 FU (nI z) 0 1 0 (-1) 0 N = some (v, N') ∧ IsEvn σ (sSpr σ z) v ∧ Fr [(109, 999), (110, 999)] N N' := by
  have s := hM.of
  have hW := g.2.1
  have hlt : mkB (Use σ) 10 < 2 ^ 31 := Nat.lt_of_lt_of_le (mkB_lt _ _) (by decide)
  refine for_q (fun q w (a : Nat) => b_X10_even_67_43 q (nI z) (nI a) 1 0 (-1) (nI w) N) (sW σ) (fun w a => ∀ l, a.testBit l = UseK σ w 0 l) (fun o => ∃ v N', o = some (v, N') ∧ IsEvn σ (sSpr σ z) v ∧ Fr [(109, 999), (110, 999)] N N') ?_ ?_ (sW σ) 0 0 FU (Nat.zero_add _) (by show _ < 200000; omega) (fun l => by rw [Nat.zero_testBit]; rfl)
  · intro q w a hw hI
    right
    obtain ⟨m', e1, e2⟩ := evm_in (x1 := nI z) (x3 := 1) (x4 := 0) (x5 := -1) (b_X10_even_67_43 q) g hM hw hI
    refine ⟨m', ?_, e2⟩
    show bb_X10_even_67_43 _ _ _ _ _ _ _ _ = _
    unfold bb_X10_even_67_43
    rw [s.2.1, if_neg (nI_ge hw (by omega))]
    exact e1
  · intro q a hI
    have ea : a = mkB (Use σ) 10 := by
      apply Nat.eq_of_testBit_eq
      intro l
      rw [hI, mkB_bit]
      have e : UseK σ (sW σ) 0 l = Use σ l := Bool.or_false _
      rw [e]
      by_cases h : l < 10
      · rw [decide_eq_true h]
        rfl
      · rw [decide_eq_false h, Use_L g (by have := g.1; omega)]
        rfl
    subst ea
    show ∃ v N', bb_X10_even_67_43 _ _ _ _ _ _ _ _ = _ ∧ _
    unfold bb_X10_even_67_43
    have hb := bcn_le (Use σ) 10
    rw [s.2.1, if_pos (nI_le (Nat.le_refl _) (by omega)), f_ones, pop_nI hlt, popU, bd_some]
    by_cases h6 : bcn (Use σ) 10 ≤ 6
    · rw [if_pos (show nI (bcn (Use σ) 10) ≤ (6 : Int32) from nI_le (b := 6) h6 (by decide))]
      exact ev_111 g hM hz h6
    · rw [if_neg (show ¬ nI (bcn (Use σ) 10) ≤ (6 : Int32) from nI_ge (a := 6) (by omega) (by omega))]
      exact ⟨-1, N, rfl, ⟨fun _ => rfl, fun z => by omega⟩, Fr.refl⟩
-- ===== even =====
def LEX : List (Nat × Nat) := LEC ++ [(38, 999)]
theorem c5_set {σ : Sg} {M : Mm} {gr : Nat} {v : Int32} (h : C5 σ M) (hg : gr ≤ 16) (hv : IsEvn σ gr v) : C5 σ (wI M 38 gr v) := by
  have h0 : C50 σ M := h
  show C50 σ (wI M 38 gr v)
  intro q hq
  by_cases e : q = gr
  · subst e
    rw [wI_at]
    exact Or.inr hv
  · rw [wI_i e]
    exact h0 q hq
theorem Rl.c5 {σ : Sg} {β : Bn} {M M1 : Mm} (h : Rl σ β M) (hf : Fr LEX M M1) (h1 : C5 σ M1) : Rl σ β M1 := by
  obtain ⟨c1, c2, c3, c4, c5, c6⟩ := h.2.2.1
  exact h.cls hf (by decide) ⟨c1.fr hf (by decide), c2.fr hf (by decide), c3.fr hf (by decide), c4.fr hf (by decide), c5.fr hf (by decide), h1⟩
theorem room_c {σ : Sg} {β : Bn} {M : Mm} {gr : Nat} (h : Rl σ β M) (hg : gr ≤ 16) : ∃ M' v, f_X6_evenRoom_34 (nI gr) M = some (v, M') ∧ IsEvn σ gr v ∧ Rl σ β M' := by
  have g := h.1
  obtain ⟨c1, c2, c3, c4, c5, c6⟩ := h.2.2.1
  have c6' : C50 σ M := c6
  have i17 : inb (nI gr) 17 = true := inb_nI (by omega) (by decide)
  unfold f_X6_evenRoom_34 bb_X6_evenRoom_34_0
  rw [if_neg (nI_pos (by omega)), if_pos (show nI gr < (17 : Int32) from nI_lt (b := 17) (by omega) (by decide)), gd_of i17, ix_nI (by omega)]
  by_cases e : M.1 38 gr = -2
  · rw [if_pos e]
    obtain ⟨M1, v, e1, e2, f1⟩ := even_c g hg c5
    rw [e1, bd2_some, gd_of i17, ltv_eq, gd_of i17, wI_at]
    refine ⟨_, _, rfl, e2, h.c5 (Fr.tr (Fr.sub f1 (by decide)) (Fr.wIa rfl)) (c5_set (c6.fr f1 (by decide)) hg e2)⟩
  · rw [if_neg e, gd_of i17]
    exact ⟨M, _, rfl, (c6' gr hg).resolve_left e, h⟩
theorem c_even {M : Mm} (x : Int32) (h : Rel M) : AnsI (fw_L_even_0_120 x M) (f_X10_even_67 x) := by
  obtain ⟨σ, β, hR⟩ := id h
  obtain ⟨g, gB, hC, hM, hb, hm, hT, hI⟩ := id hR
  have s1 := hC.1.of
  cases hx : inI x 1 9 with
  | false =>
    refine ans_t (c := 1) (w := 0) h (by decide) ?_ ?_
    · simp only [fw_L_even_0_120, t_X9_even_0, t_needR_f hx, orx]
    · simp only [f_X10_even_67, bb_X10_even_67_0, ltv_eq, f_inI, hx, bd_some, Bool.false_eq_true, if_false, if_true, bb_X10_even_67_21, bad1 (M := wI M 67 0 0) (k := 1) rfl (by decide), bd2_some, i10]
  | true =>
    obtain ⟨Z, rfl, z1, z9⟩ := inI_19 hx
    obtain ⟨M1, v, e1, e2, hR1⟩ := room_c hR (g.2.2.2.1 Z (by omega))
    refine ans_g (L := [(109, 999), (110, 999)]) (M1 := M1) (v := v) ⟨σ, β, hR1⟩ ?_ ?_ rfl rfl (by decide)
    · simp only [fw_L_even_0_120, t_X9_even_0, t_needR_t hx, f_needR hx, bd_some, orx, f_L_even_0_120, bb_L_even_0_120_0, f_X9_even_0, bb_X9_even_0_0, gd_of (inb_nI (n := 10) (show Z < 10 by omega) (by decide)), ix_nI (show Z < 2 ^ 31 by omega), s1.2.2.2.2.2.1 Z (by omega), e1, bd2_some, ltv_eq]
    · obtain ⟨hM', _⟩ := hR1.md v.toInt64
      generalize hN : wI (wJ M1 120 0 v.toInt64) 67 0 0 = N at hM' ⊢
      have N0 : N.1 67 0 = 0 := by rw [← hN]; rfl
      obtain ⟨w, N', k1, k2, k3⟩ := ev_m g hM' (show Z < 10 by omega)
      obtain rfl := IsEvn.uniq k2 e2
      refine ⟨N', ?_, k3⟩
      simp only [f_X10_even_67, bb_X10_even_67_0, ltv_eq, hN, f_inI, hx, bd_some, if_true, i10, if_false, bb_X10_even_67_21, bad0 N0, bd2_some, k1]
