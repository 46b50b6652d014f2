-- ===== minutes and chances =====
theorem lN_div {a b : Nat} (ha : a < 2 ^ 63) (hb : b < 2 ^ 63) : lN a / lN b = lN (a / b) := (Int64.ofNat_div ha hb).symm
theorem lN_lt1 {a : Nat} (ha : a < 2 ^ 63) (h0 : 0 < a) : ¬ lN a < 1 := by
  rw [Int64.lt_iff_toInt_lt]
  have h1 : (lN a).toInt = (a : Int) := Int64.toInt_ofNat_of_lt ha
  have h2 : (1 : Int64).toInt = 1 := rfl
  rw [h1, h2]
  omega
theorem lN_ne0 {a : Nat} (ha : a < 2 ^ 63) (h0 : 0 < a) : ¬ lN a = 0 := by
  intro e
  have h1 : (lN a).toInt = (a : Int) := Int64.toInt_ofNat_of_lt ha
  rw [e] at h1
  have h2 : (0 : Int64).toInt = 0 := rfl
  omega
/-- the chance that the first k go well, of 16 to the power k -/
def wel (T : Nat → It) : Nat → Nat
  | 0 => 1
  | k + 1 => wel T k * (16 - iF (T k))
theorem wel_le (T : Nat → It) : ∀ k, wel T k ≤ 16 ^ k
  | 0 => Nat.le_refl _
  | k + 1 => by
    have := wel_le T k
    show wel T k * (16 - iF (T k)) ≤ 16 ^ k * 16
    exact Nat.mul_le_mul this (Nat.sub_le _ _)
theorem wel_pos {T : Nat → It} : ∀ {k : Nat}, (∀ j, j < k → iF (T j) ≤ 15) → 0 < wel T k
  | 0, _ => Nat.one_pos
  | k + 1, h => by
    have h1 := wel_pos (T := T) (k := k) (fun j hj => h j (by omega))
    have h2 := h k (by omega)
    exact Nat.mul_pos h1 (by omega)
def ahd (T : Nat → It) (n k : Nat) : Nat := wel T k * 16 ^ (n - k)
theorem p16_le {n : Nat} (h : n ≤ 11) : 16 ^ n ≤ 2 ^ 44 := by
  have : 16 ^ n ≤ 16 ^ 11 := Nat.pow_le_pow_right (by decide) h
  exact Nat.le_trans this (by decide)
theorem ahd_le {T : Nat → It} {n k : Nat} (hn : n ≤ 11) (hk : k ≤ n) : ahd T n k ≤ 2 ^ 44 := by
  unfold ahd
  have h1 := wel_le T k
  have h2 : wel T k * 16 ^ (n - k) ≤ 16 ^ k * 16 ^ (n - k) := Nat.mul_le_mul_right _ h1
  rw [← Nat.pow_add, show k + (n - k) = n by omega] at h2
  exact Nat.le_trans h2 (p16_le hn)
theorem ahd_s {T : Nat → It} {n k : Nat} (hk : k < n) : ahd T n k / 16 * (16 - iF (T k)) = ahd T n (k + 1) := by
  unfold ahd
  show wel T k * 16 ^ (n - k) / 16 * (16 - iF (T k)) = wel T k * (16 - iF (T k)) * 16 ^ (n - (k + 1))
  rw [show n - k = (n - (k + 1)) + 1 by omega, Nat.pow_succ, ← Nat.mul_assoc, Nat.mul_div_cancel _ (by decide), Nat.mul_right_comm]
/-- minutes so far -/
def sumT (T : Nat → It) (n : Nat) : Nat → Nat
  | 0 => 0
  | k + 1 => sumT T n k + iT (T k) * ahd T n k
theorem f16 {f : Nat} (h : f ≤ 15) : ((16 : Int32) - nI f).toInt64 = lN (16 - f) := by
  rw [show (16 : Int32) = nI 16 from rfl, nI_sub (by omega), nI_l (by omega)]
def meanV (T : Nat → It) (n : Nat) : Int64 := (1000 * lN (sumT T n n)) / lN (wel T n)
def begV (T : Nat → It) (n : Nat) : Int64 := lN (1000 * 16 ^ n) / lN (wel T n)
section evalc
variable {M : Mm} {T : Nat → It} {n : Nat}
theorem well_c (hn : n ≤ 11) (h3 : M.1 30 3 = nI n) (hR : RpA M T n) (hP : PosI T 0 n) : f_X2_allWell_30 M = some (lN (wel T n)) := by
  have hpos : 0 < wel T n := wel_pos (fun j hj => (hP j (Nat.zero_le _) hj).2.2)
  have hle := Nat.le_trans (wel_le T n) (p16_le hn)
  refine for_q (fun q k (_ : Unit) => b_X2_allWell_30_4 q (lN (wel T k)) (nI k) M) n (fun _ _ => True) (fun o => o = some (lN (wel T n))) ?_ ?_ n 0 () FU (Nat.zero_add _) (by show n < 200000; omega) trivial
  · intro q k _ hk _
    right
    refine ⟨(), ?_, trivial⟩
    have f15 := (hP k (Nat.zero_le _) hk).2.2
    show bb_X2_allWell_30_4 _ _ _ _ = b_X2_allWell_30_4 q (lN (wel T k * (16 - iF (T k)))) (nI (k + 1)) M
    unfold bb_X2_allWell_30_4
    rw [h3, if_neg (nI_ge hk (by omega)), gd_of (inb_nI (by omega) (by decide)), ltv_eq, ltv_eq, nI_1, ix_nI (by omega), (hR k hk).2.2, f16 f15, lN_mul]
  · intro q _ _
    show bb_X2_allWell_30_4 _ _ _ _ = _
    unfold bb_X2_allWell_30_4
    rw [h3, if_pos (nI_le (Nat.le_refl _) (by omega)), if_neg (lN_lt1 (by omega) hpos)]
theorem whole_c (hn : n ≤ 11) (h3 : M.1 30 3 = nI n) : f_X2_whole_30 M = some (lN (16 ^ n)) := by
  unfold f_X2_whole_30 bb_X2_whole_30_0
  rw [h3, show (4 : Int32) * nI n = nI (4 * n) from pk_mul 4 n, shL_c (by omega), Nat.pow_mul]
theorem mean_c (hn : n ≤ 11) (h3 : M.1 30 3 = nI n) (h5 : M.1 30 5 = 0) (hR : RpA M T n) (hP : PosI T 0 n) : f_X2_mean_30 M = some (meanV T n) := by
  have hpos : 0 < wel T n := wel_pos (fun j hj => (hP j (Nat.zero_le _) hj).2.2)
  have hle := Nat.le_trans (wel_le T n) (p16_le hn)
  unfold f_X2_mean_30 bb_X2_mean_30_0
  rw [h5, if_pos rfl, whole_c hn h3, bd_some]
  have st : lN (16 ^ n) = lN (ahd T n 0) := by
    show _ = lN (1 * 16 ^ (n - 0))
    rw [Nat.one_mul, Nat.sub_zero]
  rw [st]
  refine for_q (fun q k (_ : Unit) => b_X2_mean_30_21 q (lN (ahd T n k)) (lN (sumT T n k)) (nI k) M) n (fun _ _ => True) (fun o => o = some (meanV T n)) ?_ ?_ n 0 () FU (Nat.zero_add _) (by show n < 200000; omega) trivial
  · intro q k _ hk _
    right
    refine ⟨(), ?_, trivial⟩
    obtain ⟨t0, t64, f15⟩ := hP k (Nat.zero_le _) hk
    have ha := ahd_le (T := T) hn (Nat.le_of_lt hk)
    show bb_X2_mean_30_21 _ _ _ _ _ = b_X2_mean_30_21 q (lN (ahd T n (k + 1))) (lN (sumT T n k + iT (T k) * ahd T n k)) (nI (k + 1)) M
    unfold bb_X2_mean_30_21
    have k11 : inb (nI k) 11 = true := inb_nI (by omega) (by decide)
    rw [h3, if_neg (nI_ge hk (by omega)), gd_of k11, ltv_eq, gd_of k11, ltv_eq, ltv_eq, nI_1, ix_nI (by omega), (hR k hk).2.1, (hR k hk).2.2, nI_l (by omega), lN_mul, lN_add, f16 f15, show (16 : Int64) = lN 16 from rfl, lN_div (by omega) (by decide), lN_mul, ahd_s hk]
  · intro q _ _
    show bb_X2_mean_30_21 _ _ _ _ _ = _
    unfold bb_X2_mean_30_21
    rw [h3, if_pos (nI_le (Nat.le_refl _) (by omega)), well_c hn h3 hR hP, bd_some, gd_of (decide_eq_true (lN_ne0 (by omega) hpos))]
    rfl
theorem begun_c (hn : n ≤ 11) (h3 : M.1 30 3 = nI n) (h5 : M.1 30 5 = 0) (hR : RpA M T n) (hP : PosI T 0 n) : f_X2_begun_30 M = some (begV T n) := by
  have hpos : 0 < wel T n := wel_pos (fun j hj => (hP j (Nat.zero_le _) hj).2.2)
  have hle := Nat.le_trans (wel_le T n) (p16_le hn)
  unfold f_X2_begun_30 bb_X2_begun_30_0
  rw [h5, if_pos rfl, whole_c hn h3, bd_some, well_c hn h3 hR hP, bd_some, gd_of (decide_eq_true (lN_ne0 (by omega) hpos)), show (1000 : Int64) = lN 1000 from rfl, lN_mul]
  rfl
end evalc
section evalm
variable {N : Mm} {T : Nat → It} {n : Nat}
theorem hours_m (hn : n ≤ 11) (h41 : N.1 67 41 = nI n) (hR : RqA N T n) (hP : PosI T 0 n) : b_X10_hours_67_75 FU 0 1 1 0 N = some (meanV T n, N) := by
  have hpos : 0 < wel T n := wel_pos (fun j hj => (hP j (Nat.zero_le _) hj).2.2)
  have hle := Nat.le_trans (wel_le T n) (p16_le hn)
  have lp : b_X10_hours_67_101 FU 0 1 (lN (16 ^ n)) 0 N = some (meanV T n, N) := by
    refine for_q (fun q k (_ : Unit) => b_X10_hours_67_101 q (lN (sumT T n k)) (lN (wel T k)) (lN (16 ^ (n - k))) (nI k) N) n (fun _ _ => True) (fun o => o = some (meanV T n, N)) ?_ ?_ n 0 () FU (Nat.zero_add _) (by show n < 200000; omega) trivial
    · intro q k _ hk _
      right
      refine ⟨(), ?_, trivial⟩
      obtain ⟨t0, t64, f15⟩ := hP k (Nat.zero_le _) hk
      have hp := p16_le (show n - k ≤ 11 by omega)
      show bb_X10_hours_67_101 _ _ _ _ _ _ = b_X10_hours_67_101 q (lN (sumT T n k + iT (T k) * ahd T n k)) (lN (wel T k * (16 - iF (T k)))) (lN (16 ^ (n - (k + 1)))) (nI (k + 1)) N
      unfold bb_X10_hours_67_101
      have k64 : inb (nI k) 64 = true := inb_nI (by omega) (by decide)
      have e16 : 16 ^ (n - k) / 16 = 16 ^ (n - (k + 1)) := by
        rw [show n - k = (n - (k + 1)) + 1 by omega, Nat.pow_succ, Nat.mul_div_cancel _ (by decide)]
      rw [h41, if_neg (nI_ge hk (by omega)), gd_of k64, ltv_eq, gd_of k64, ltv_eq, ltv_eq, ltv_eq, nI_1, ix_nI (by omega), (hR k hk).2.1, (hR k hk).2.2, nI_l (by omega), lN_mul, lN_mul, lN_add, f16 f15, lN_mul, show (16 : Int64) = lN 16 from rfl, lN_div (by omega) (by decide), e16, Nat.mul_assoc]
      rfl
    · intro q _ _
      show bb_X10_hours_67_101 _ _ _ _ _ _ = _
      unfold bb_X10_hours_67_101
      rw [h41, if_pos (nI_le (Nat.le_refl _) (by omega)), gd_of (decide_eq_true (lN_ne0 (by omega) hpos))]
      rfl
  refine for_q (fun q k (_ : Unit) => b_X10_hours_67_75 q 0 1 (lN (16 ^ k)) (nI k) N) n (fun _ _ => True) (fun o => o = some (meanV T n, N)) ?_ ?_ n 0 () FU (Nat.zero_add _) (by show n < 200000; omega) trivial
  · intro q k _ hk _
    right
    refine ⟨(), ?_, trivial⟩
    show bb_X10_hours_67_75 _ _ _ _ _ _ = b_X10_hours_67_75 q 0 1 (lN (16 ^ k * 16)) (nI (k + 1)) N
    unfold bb_X10_hours_67_75
    rw [h41, if_neg (nI_ge hk (by omega)), ltv_eq, ltv_eq, nI_1, show (16 : Int64) = lN 16 from rfl, lN_mul]
  · intro q _ _
    show bb_X10_hours_67_75 _ _ _ _ _ _ = _
    unfold bb_X10_hours_67_75
    rw [h41, if_pos (nI_le (Nat.le_refl _) (by omega)), lp]
theorem bars_m (hn : n ≤ 11) (h41 : N.1 67 41 = nI n) (hR : RqA N T n) (hP : PosI T 0 n) : b_X10_bars_67_74 FU 1000 1 0 N = some (begV T n, N) := by
  have hpos : 0 < wel T n := wel_pos (fun j hj => (hP j (Nat.zero_le _) hj).2.2)
  have hle := Nat.le_trans (wel_le T n) (p16_le hn)
  refine for_q (fun q k (_ : Unit) => b_X10_bars_67_74 q (lN (1000 * 16 ^ k)) (lN (wel T k)) (nI k) N) n (fun _ _ => True) (fun o => o = some (begV T n, N)) ?_ ?_ n 0 () FU (Nat.zero_add _) (by show n < 200000; omega) trivial
  · intro q k _ hk _
    right
    refine ⟨(), ?_, trivial⟩
    obtain ⟨t0, t64, f15⟩ := hP k (Nat.zero_le _) hk
    show bb_X10_bars_67_74 _ _ _ _ _ = b_X10_bars_67_74 q (lN (1000 * (16 ^ k * 16))) (lN (wel T k * (16 - iF (T k)))) (nI (k + 1)) N
    unfold bb_X10_bars_67_74
    have k64 : inb (nI k) 64 = true := inb_nI (by omega) (by decide)
    rw [h41, if_neg (nI_ge hk (by omega)), ltv_eq, gd_of k64, ltv_eq, ltv_eq, nI_1, ix_nI (by omega), (hR k hk).2.2, f16 f15, lN_mul, show (16 : Int64) = lN 16 from rfl, lN_mul, Nat.mul_assoc]
  · intro q _ _
    show bb_X10_bars_67_74 _ _ _ _ _ = _
    unfold bb_X10_bars_67_74
    rw [h41, if_pos (nI_le (Nat.le_refl _) (by omega)), gd_of (decide_eq_true (lN_ne0 (by omega) hpos))]
    rfl
end evalm
theorem wel_cong {T T' : Nat → It} : ∀ {k : Nat}, (∀ j, j < k → T j = T' j) → wel T k = wel T' k
  | 0, _ => rfl
  | k + 1, h => by
    show wel T k * (16 - iF (T k)) = wel T' k * (16 - iF (T' k))
    rw [wel_cong (fun j hj => h j (by omega)), h k (by omega)]
theorem sumT_cong {T T' : Nat → It} {n : Nat} : ∀ {k : Nat}, (∀ j, j < k → T j = T' j) → sumT T n k = sumT T' n k
  | 0, _ => rfl
  | k + 1, h => by
    show sumT T n k + iT (T k) * ahd T n k = sumT T' n k + iT (T' k) * ahd T' n k
    have e : ahd T n k = ahd T' n k := by
      unfold ahd
      rw [wel_cong (fun j hj => h j (by omega))]
    rw [sumT_cong (fun j hj => h j (by omega)), h k (by omega), e]
theorem cutting_c {M : Mm} {σ : Sg} {β : Bn} {p c s : Nat} (hR : Rl σ β M) (hp : p < sL σ) (hc : c ≤ 15) (hs : s ≤ 15) (ic : inI (nI c) 0 15 = true) (is : inI (nI s) 0 15 = true) : ∃ M' S, f_X9_layCutting_0 (nI p) (nI c) (nI s) M = some M' ∧ IsLns (sInk σ p) S ∧ Rl σ β M' ∧ CuS M' (blL σ p c (sH σ)) (biL (sInk σ p) S s 32) := by
  obtain ⟨g, gB, hC, hM, hb, hm, hT, hI⟩ := id hR
  have hL := g.1
  obtain ⟨n1, _⟩ := needL_t hC.1.of.1 hp (by omega)
  obtain ⟨M1, S, e1, hS, f1, c1⟩ := linesOf_c g hC.1 hC.2.1 hp
  have hR1 := hR.c1 f1 c1
  obtain ⟨M2, e2, f2, t2⟩ := lay_c (sInk σ p) M1
  have hR2 : Rl σ β M2 := hR1.fr f2 (by decide)
  obtain ⟨M3, e3, f3, cu3, q3⟩ := lays_c g hR2.2.2.1.1 hp hc
  have hR3 : Rl σ β M3 := hR2.fr f3 (by decide)
  have t3 : TkC (sInk σ p) M3 := fun l hl => ((f3 20 l rfl).2).trans (t2 l hl)
  obtain ⟨M4, e4, f4, cu4⟩ := bites_c hS hs t3 cu3 q3
  have hR4 : Rl σ β M4 := hR3.fr f4 (by decide)
  have q12 : M1.2 12 p = sInk σ p := hR1.2.2.1.1.of.2.2.2.1 p hp
  refine ⟨M4, S, ?_, hS, hR4, cu4⟩
  unfold f_X9_layCutting_0 bb_X9_layCutting_0_0
  rw [n1, bd_some, f_needR ic, bd_some, f_needR is, bd_some, e1, bd2_some, gd_of (inb_nI (by omega) (by decide)), ix_nI (by omega), q12, e2, bd_some, e3, bd_some, e4, bd_some]
theorem isCh (y z : Int32) : f_X10_isChance y z = some (if inI y 0 15 && inI z 0 15 then 1 else 0) := by
  unfold f_X10_isChance bb_X10_isChance_0
  rw [f_inI, bd_some, f_inI, bd_some]
  cases inI y 0 15 <;> cases inI z 0 15 <;> rfl
theorem inI_15 {y : Int32} (h : inI y 0 15 = true) : ∃ c, y = nI c ∧ c ≤ 15 := by
  obtain ⟨k, e, _, hk⟩ := inI_nI (b := 0) (c := 15) (by decide) h (by decide)
  exact ⟨k, e, hk⟩
/-- what class and model have laid is alike -/
theorem cut_uniq {L1 L2 : List It} {T T' : Nat → It} (a1 : SS T 0 L1) (a2 : SS T L1.length L2) (b1 : SS T' 0 L1) (b2 : SS T' L1.length L2) : ∀ j, j < L1.length + L2.length → T j = T' j := by
  intro j hj
  by_cases q : j < L1.length
  · exact a1.uniq b1 j (Nat.zero_le _) (by omega)
  · exact a2.uniq b2 j (by omega) hj
theorem c_hours {M : Mm} (x y z : Int32) (h : Rel M) : AnsJ (fw_L_hours_0_120 x y z M) (f_X10_hours_67 x y z) := by
  obtain ⟨σ, β, hR⟩ := id h
  obtain ⟨g, gB, hC, hM, hb, hm, hT, hI⟩ := id hR
  have s1 := hC.1.of
  have s2 := hM.of
  have hL : sL σ < 2 ^ 31 := by have := g.1; omega
  rcases idx x (n := sL σ) hL with ⟨p, hp, rfl⟩ | ⟨ho, hi⟩
  · obtain ⟨n1, n2⟩ := needL_t s1.1 hp hL
    have bad : ∀ v, v = false → (inI y 0 15 && inI z 0 15) = v → bb_X10_hours_67_0 (nI p) y z M = some (0, wI (wI M 67 0 0) 67 0 2) := by
      rintro v rfl hv
      simp only [bb_X10_hours_67_0, ltv_eq, isL_t (M := wI M 67 0 0) s2.1 hp hL, bd_some, i10, if_false, bb_X10_hours_67_19, bad0 (M := wI M 67 0 0) rfl, bd2_some, if_true, isCh, hv, Bool.false_eq_true, bb_X10_hours_67_40, bad1 (M := wI M 67 0 0) (k := 2) rfl (by decide)]
    cases hy : inI y 0 15 with
    | false =>
      refine ans_tJ (c := 2) (w := 0) h (by decide) ?_ (bad _ rfl (by rw [hy]; rfl))
      simp only [fw_L_hours_0_120, t_X9_hours_0, t_X9_layCutting_0, n2, n1, orx, bd_some, t_needR_f hy]
    | true =>
      cases hz : inI z 0 15 with
      | false =>
        refine ans_tJ (c := 2) (w := 0) h (by decide) ?_ (bad _ rfl (by rw [hy, hz]; rfl))
        simp only [fw_L_hours_0_120, t_X9_hours_0, t_X9_layCutting_0, n2, n1, orx, bd_some, t_needR_t hy, f_needR hy, t_needR_f hz]
      | true =>
        obtain ⟨c, rfl, hc⟩ := inI_15 hy
        obtain ⟨s, rfl, hs⟩ := inI_15 hz
        obtain ⟨M1, S, e1, hS, hR1, cu⟩ := cutting_c hR hp hc hs hy hz
        have key : ∃ v, f_X2_mean_30 M1 = some v ∧ ∀ N, SM σ N → N.1 67 0 = 0 → ∃ N', bb_X10_hours_67_40 (nI p) (nI c) (nI s) 0 N = some (v, N') ∧ Fr LFO N N' := by
          rcases cu with ⟨h11, h3, h5, T, r, ss1, ss2⟩ | ⟨h11, h3, h5⟩
          · refine ⟨_, mean_c h11 h3 h5 r (SS.pos2 ss1 ss2), fun N hMN N0 => ?_⟩
            obtain ⟨v, N', T', o1, o2, o3, o4, o5, o6, o7⟩ := order_m g hMN hp hc hs hS
            rw [if_pos h11] at o4
            refine ⟨N', ?_, o2⟩
            have ee := cut_uniq ss1 ss2 o6 o7
            have em : meanV T' ((blL σ p c (sH σ)).length + (biL (sInk σ p) S s 32).length) = meanV T ((blL σ p c (sH σ)).length + (biL (sInk σ p) S s 32).length) := by
              unfold meanV
              rw [sumT_cong ee, wel_cong ee]
            simp only [bb_X10_hours_67_40, bad0 N0, bd2_some, if_true, o1, o4, i10, if_false, hours_m h11 o3 o5 (SS.pos2 o6 o7), em]
          · refine ⟨-1, ?_, fun N hMN N0 => ?_⟩
            · unfold f_X2_mean_30 bb_X2_mean_30_0
              rw [h5, if_neg (by decide)]
            · obtain ⟨v, N', T', o1, o2, o3, o4, o5, o6, o7⟩ := order_m g hMN hp hc hs hS
              rw [if_neg (by omega)] at o4
              refine ⟨N', ?_, o2⟩
              simp only [bb_X10_hours_67_40, bad0 N0, bd2_some, if_true, o1, o4]
        obtain ⟨v, v1, v2⟩ := key
        refine ans_gJ (L := LFO) (M1 := M1) (v := v) ⟨σ, β, hR1⟩ ?_ ?_ rfl rfl rfl
        · simp only [fw_L_hours_0_120, t_X9_hours_0, t_X9_layCutting_0, n2, n1, orx, bd_some, t_needR_t hy, f_needR hy, t_needR_t hz, f_L_hours_0_120, bb_L_hours_0_120_0, f_X9_hours_0, bb_X9_hours_0_0, e1, v1, bd2_some, ltv_eq]
        · obtain ⟨hM', _⟩ := hR1.md v
          generalize hN : wI (wJ M1 120 0 v) 67 0 0 = N at hM' ⊢
          have N0 : N.1 67 0 = 0 := by rw [← hN]; rfl
          obtain ⟨N', w1, w2⟩ := v2 N hM' N0
          refine ⟨N', ?_, w2⟩
          simp only [f_X10_hours_67, bb_X10_hours_67_0, ltv_eq, hN, isL_t hM'.of.1 hp hL, bd_some, i10, if_false, bb_X10_hours_67_19, bad0 N0, bd2_some, if_true, isCh, hy, hz, Bool.and_self, w1]
  · refine ans_tJ (c := 1) (w := 0) h (by decide) ?_ ?_
    · simp only [fw_L_hours_0_120, t_X9_hours_0, t_X9_layCutting_0, needL_f s1.1 ho, orx]
    · simp only [f_X10_hours_67, bb_X10_hours_67_0, ltv_eq, isL_f (M := wI M 67 0 0) s2.1 hi, bd_some, if_true, bb_X10_hours_67_19, bad1 (M := wI M 67 0 0) (k := 1) rfl (by decide), bd2_some, i10, if_false]
theorem c_bars {M : Mm} (x y z : Int32) (h : Rel M) : AnsJ (fw_L_bars_0_120 x y z M) (f_X10_bars_67 x y z) := by
  obtain ⟨σ, β, hR⟩ := id h
  obtain ⟨g, gB, hC, hM, hb, hm, hT, hI⟩ := id hR
  have s1 := hC.1.of
  have s2 := hM.of
  have hL : sL σ < 2 ^ 31 := by have := g.1; omega
  rcases idx x (n := sL σ) hL with ⟨p, hp, rfl⟩ | ⟨ho, hi⟩
  · obtain ⟨n1, n2⟩ := needL_t s1.1 hp hL
    have bad : ∀ v, v = false → (inI y 0 15 && inI z 0 15) = v → bb_X10_bars_67_0 (nI p) y z M = some (0, wI (wI M 67 0 0) 67 0 2) := by
      rintro v rfl hv
      simp only [bb_X10_bars_67_0, ltv_eq, isL_t (M := wI M 67 0 0) s2.1 hp hL, bd_some, i10, if_false, bb_X10_bars_67_19, bad0 (M := wI M 67 0 0) rfl, bd2_some, if_true, isCh, hv, Bool.false_eq_true, bb_X10_bars_67_40, bad1 (M := wI M 67 0 0) (k := 2) rfl (by decide)]
    cases hy : inI y 0 15 with
    | false =>
      refine ans_tJ (c := 2) (w := 0) h (by decide) ?_ (bad _ rfl (by rw [hy]; rfl))
      simp only [fw_L_bars_0_120, t_X9_bars_0, t_X9_layCutting_0, n2, n1, orx, bd_some, t_needR_f hy]
    | true =>
      cases hz : inI z 0 15 with
      | false =>
        refine ans_tJ (c := 2) (w := 0) h (by decide) ?_ (bad _ rfl (by rw [hy, hz]; rfl))
        simp only [fw_L_bars_0_120, t_X9_bars_0, t_X9_layCutting_0, n2, n1, orx, bd_some, t_needR_t hy, f_needR hy, t_needR_f hz]
      | true =>
        obtain ⟨c, rfl, hc⟩ := inI_15 hy
        obtain ⟨s, rfl, hs⟩ := inI_15 hz
        obtain ⟨M1, S, e1, hS, hR1, cu⟩ := cutting_c hR hp hc hs hy hz
        have key : ∃ v, f_X2_begun_30 M1 = some v ∧ ∀ N, SM σ N → N.1 67 0 = 0 → ∃ N', bb_X10_bars_67_40 (nI p) (nI c) (nI s) 0 N = some (v, N') ∧ Fr LFO N N' := by
          rcases cu with ⟨h11, h3, h5, T, r, ss1, ss2⟩ | ⟨h11, h3, h5⟩
          · refine ⟨_, begun_c h11 h3 h5 r (SS.pos2 ss1 ss2), fun N hMN N0 => ?_⟩
            obtain ⟨v, N', T', o1, o2, o3, o4, o5, o6, o7⟩ := order_m g hMN hp hc hs hS
            rw [if_pos h11] at o4
            refine ⟨N', ?_, o2⟩
            have ee := cut_uniq ss1 ss2 o6 o7
            have em : begV T' ((blL σ p c (sH σ)).length + (biL (sInk σ p) S s 32).length) = begV T ((blL σ p c (sH σ)).length + (biL (sInk σ p) S s 32).length) := by
              unfold begV
              rw [wel_cong ee]
            simp only [bb_X10_bars_67_40, bad0 N0, bd2_some, if_true, o1, o4, i10, if_false, bars_m h11 o3 o5 (SS.pos2 o6 o7), em]
          · refine ⟨-1, ?_, fun N hMN N0 => ?_⟩
            · unfold f_X2_begun_30 bb_X2_begun_30_0
              rw [h5, if_neg (by decide)]
            · obtain ⟨v, N', T', o1, o2, o3, o4, o5, o6, o7⟩ := order_m g hMN hp hc hs hS
              rw [if_neg (by omega)] at o4
              refine ⟨N', ?_, o2⟩
              simp only [bb_X10_bars_67_40, bad0 N0, bd2_some, if_true, o1, o4]
        obtain ⟨v, v1, v2⟩ := key
        refine ans_gJ (L := LFO) (M1 := M1) (v := v) ⟨σ, β, hR1⟩ ?_ ?_ rfl rfl rfl
        · simp only [fw_L_bars_0_120, t_X9_bars_0, t_X9_layCutting_0, n2, n1, orx, bd_some, t_needR_t hy, f_needR hy, t_needR_t hz, f_L_bars_0_120, bb_L_bars_0_120_0, f_X9_bars_0, bb_X9_bars_0_0, e1, v1, bd2_some, ltv_eq]
        · obtain ⟨hM', _⟩ := hR1.md v
          generalize hN : wI (wJ M1 120 0 v) 67 0 0 = N at hM' ⊢
          have N0 : N.1 67 0 = 0 := by rw [← hN]; rfl
          obtain ⟨N', w1, w2⟩ := v2 N hM' N0
          refine ⟨N', ?_, w2⟩
          simp only [f_X10_bars_67, bb_X10_bars_67_0, ltv_eq, hN, isL_t hM'.of.1 hp hL, bd_some, i10, if_false, bb_X10_bars_67_19, bad0 N0, bd2_some, if_true, isCh, hy, hz, Bool.and_self, w1]
  · refine ans_tJ (c := 1) (w := 0) h (by decide) ?_ ?_
    · simp only [fw_L_bars_0_120, t_X9_bars_0, t_X9_layCutting_0, needL_f s1.1 ho, orx]
    · simp only [f_X10_bars_67, bb_X10_bars_67_0, ltv_eq, isL_f (M := wI M 67 0 0) s2.1 hi, bd_some, if_true, bb_X10_bars_67_19, bad1 (M := wI M 67 0 0) (k := 1) rfl (by decide), bd2_some, i10, if_false]
theorem c_order {M : Mm} (x y z u : Int32) (h : Rel M) : AnsI (fw_L_order_0_120 x y z u M) (f_X10_order_67 x y z u) := by
  obtain ⟨σ, β, hR⟩ := id h
  obtain ⟨g, gB, hC, hM, hb, hm, hT, hI⟩ := id hR
  have s1 := hC.1.of
  have s2 := hM.of
  have hL : sL σ < 2 ^ 31 := by have := g.1; omega
  rcases idx x (n := sL σ) hL with ⟨p, hp, rfl⟩ | ⟨ho, hi⟩
  · obtain ⟨n1, n2⟩ := needL_t s1.1 hp hL
    have bad : ∀ v, v = false → (inI y 0 15 && inI z 0 15) = v → bb_X10_order_67_0 (nI p) y z u M = some (0, wI (wI M 67 0 0) 67 0 2) := by
      rintro v rfl hv
      simp only [bb_X10_order_67_0, ltv_eq, isL_t (M := wI M 67 0 0) s2.1 hp hL, bd_some, i10, if_false, bb_X10_order_67_19, bad0 (M := wI M 67 0 0) rfl, bd2_some, if_true, isCh, hv, Bool.false_eq_true, bb_X10_order_67_40, bad1 (M := wI M 67 0 0) (k := 2) rfl (by decide)]
    cases hy : inI y 0 15 with
    | false =>
      refine ans_t (c := 2) (w := 0) h (by decide) ?_ (bad _ rfl (by rw [hy]; rfl))
      simp only [fw_L_order_0_120, t_X9_order_0, t_X9_layCutting_0, n2, n1, orx, bd_some, t_needR_f hy]
    | true =>
      cases hz : inI z 0 15 with
      | false =>
        refine ans_t (c := 2) (w := 0) h (by decide) ?_ (bad _ rfl (by rw [hy, hz]; rfl))
        simp only [fw_L_order_0_120, t_X9_order_0, t_X9_layCutting_0, n2, n1, orx, bd_some, t_needR_t hy, f_needR hy, t_needR_f hz]
      | true =>
        obtain ⟨c, rfl, hc⟩ := inI_15 hy
        obtain ⟨s, rfl, hs⟩ := inI_15 hz
        obtain ⟨M1, S, e1, hS, hR1, cu⟩ := cutting_c hR hp hc hs hy hz
        have key : ∃ v, f_X2_actAt_30 u M1 = some v ∧ ∀ N, SM σ N → N.1 67 0 = 0 → ∃ N', bb_X10_order_67_40 (nI p) (nI c) (nI s) u 0 N = some (v, N') ∧ Fr LFO N N' := by
          rcases cu with ⟨h11, h3, h5, T, r, ss1, ss2⟩ | ⟨h11, h3, h5⟩
          · rcases idx u (n := (blL σ p c (sH σ)).length + (biL (sInk σ p) S s 32).length) (by omega) with ⟨k, hk, rfl⟩ | ⟨ko, ki⟩
            · refine ⟨nI (T k).1, ?_, fun N hMN N0 => ?_⟩
              · unfold f_X2_actAt_30 bb_X2_actAt_30_0
                rw [h5, if_pos rfl, if_neg (nI_pos (by omega)), h3, if_pos (nI_lt hk (by omega)), gd_of (inb_nI (by omega) (by decide)), ix_nI (by omega), (r k hk).1]
              · obtain ⟨v, N', T', o1, o2, o3, o4, o5, o6, o7⟩ := order_m g hMN hp hc hs hS
                rw [if_pos h11] at o4
                refine ⟨N', ?_, o2⟩
                have ee := cut_uniq ss1 ss2 o6 o7
                have q : N'.1 106 k = nI (T k).1 := by rw [(o5 k hk).1, ee k hk]
                simp only [bb_X10_order_67_40, bad0 N0, bd2_some, if_true, o1, o4, i10, if_false, o3, f_inI, inI_lt hk (show _ < 2 ^ 31 by omega), bd_some, gd_of (inb_nI (n := 64) (show k < 64 by omega) (by decide)), ix_nI (show k < 2 ^ 31 by omega), q]
            · refine ⟨-1, ?_, fun N hMN N0 => ?_⟩
              · unfold f_X2_actAt_30 bb_X2_actAt_30_0
                rw [h5, if_pos rfl]
                by_cases u0 : u < 0
                · rw [if_pos u0]
                · rw [if_neg u0, h3, if_neg (nle_lt' ko u0)]
              · obtain ⟨v, N', T', o1, o2, o3, o4, o5, o6, o7⟩ := order_m g hMN hp hc hs hS
                rw [if_pos h11] at o4
                refine ⟨N', ?_, o2⟩
                simp only [bb_X10_order_67_40, bad0 N0, bd2_some, if_true, o1, o4, i10, if_false, o3, f_inI, ki, bd_some, Bool.false_eq_true]
          · refine ⟨-1, ?_, fun N hMN N0 => ?_⟩
            · unfold f_X2_actAt_30 bb_X2_actAt_30_0
              rw [h5, if_neg (by decide)]
            · obtain ⟨v, N', T', o1, o2, o3, o4, o5, o6, o7⟩ := order_m g hMN hp hc hs hS
              rw [if_neg (by omega)] at o4
              refine ⟨N', ?_, o2⟩
              simp only [bb_X10_order_67_40, bad0 N0, bd2_some, if_true, o1, o4]
        obtain ⟨v, v1, v2⟩ := key
        refine ans_g (L := LFO) (M1 := M1) (v := v) ⟨σ, β, hR1⟩ ?_ ?_ rfl rfl rfl
        · simp only [fw_L_order_0_120, t_X9_order_0, t_X9_layCutting_0, n2, n1, orx, bd_some, t_needR_t hy, f_needR hy, t_needR_t hz, f_L_order_0_120, bb_L_order_0_120_0, f_X9_order_0, bb_X9_order_0_0, e1, v1, bd2_some, ltv_eq]
        · obtain ⟨hM', _⟩ := hR1.md v.toInt64
          generalize hN : wI (wJ M1 120 0 v.toInt64) 67 0 0 = N at hM' ⊢
          have N0 : N.1 67 0 = 0 := by rw [← hN]; rfl
          obtain ⟨N', w1, w2⟩ := v2 N hM' N0
          refine ⟨N', ?_, w2⟩
          simp only [f_X10_order_67, bb_X10_order_67_0, ltv_eq, hN, isL_t hM'.of.1 hp hL, bd_some, i10, if_false, bb_X10_order_67_19, bad0 N0, bd2_some, if_true, isCh, hy, hz, Bool.and_self, w1]
  · refine ans_t (c := 1) (w := 0) h (by decide) ?_ ?_
    · simp only [fw_L_order_0_120, t_X9_order_0, t_X9_layCutting_0, needL_f s1.1 ho, orx]
    · simp only [f_X10_order_67, bb_X10_order_67_0, ltv_eq, isL_f (M := wI M 67 0 0) s2.1 hi, bd_some, if_true, bb_X10_order_67_19, bad1 (M := wI M 67 0 0) (k := 1) rfl (by decide), bd2_some, i10, if_false]
