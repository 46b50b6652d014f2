-- ===== answers with scratch memory; letter, apart, nearest, black =====
theorem ans_g {cl : Option (Int32 × Mm)} {md : Mm → Option (Int32 × Mm)} {M1 : Mm} {v : Int32} {L : List (Nat × Nat)} (h1 : Rel M1) (e1 : cl = some (0, wJ M1 120 0 v.toInt64)) (e2 : ∃ M2, md (wJ M1 120 0 v.toInt64) = some (v, M2) ∧ Fr L (wI (wJ M1 120 0 v.toInt64) 67 0 0) M2) (h0 : inW L 67 0 = false) (h120 : inW L 120 0 = false) (hd : disjW L LRl = true) : AnsI cl md := by
  obtain ⟨M2, e2, f⟩ := e2
  exact ⟨0, _, v, M2, e1, e2, (f 67 0 h0).1, fun _ => (f 120 0 h120).2, (h1.fr fr_out d120).fr f hd⟩
theorem ans_gJ {cl : Option (Int32 × Mm)} {md : Mm → Option (Int64 × Mm)} {M1 : Mm} {v : Int64} {L : List (Nat × Nat)} (h1 : Rel M1) (e1 : cl = some (0, wJ M1 120 0 v)) (e2 : ∃ M2, md (wJ M1 120 0 v) = some (v, M2) ∧ Fr L (wI (wJ M1 120 0 v) 67 0 0) M2) (h0 : inW L 67 0 = false) (h120 : inW L 120 0 = false) (hd : disjW L LRl = true) : AnsJ cl md := by
  obtain ⟨M2, e2, f⟩ := e2
  exact ⟨0, _, v, M2, e1, e2, (f 67 0 h0).1, fun _ => (f 120 0 h120).2, (h1.fr fr_out d120).fr f hd⟩
/-- all but the class's side of the sheet -/
def LRm : List (Nat × Nat) := LSM ++ LBC 50 ++ LBM ++ LTP ++ LIM
theorem Rl.cls {σ : Sg} {β : Bn} {L : List (Nat × Nat)} {M M' : Mm} (h : Rl σ β M) (hf : Fr L M M') (hd : disjW L LRm = true) (hc : RC σ M') : Rl σ β M' := by
  obtain ⟨h1, h2, h3, h4, h5, h6, h7, h8⟩ := h
  obtain ⟨hd, d8⟩ := disj_app hd
  obtain ⟨hd, d7⟩ := disj_app hd
  obtain ⟨hd, d6⟩ := disj_app hd
  obtain ⟨d4, d5⟩ := disj_app hd
  exact ⟨h1, h2, hc, h4.fr hf d4, h5.fr hf d5, h6.fr hf d6, h7.fr hf d7, h8.fr hf d8⟩
theorem Rl.md {σ : Sg} {β : Bn} {M : Mm} (h : Rl σ β M) (v : Int64) : SM σ (wI (wJ M 120 0 v) 67 0 0) ∧ BM β (wI (wJ M 120 0 v) 67 0 0) := by
  have := h.fr (fr_out (v := v)) d120
  exact ⟨this.2.2.2.1, this.2.2.2.2.2.1⟩
theorem i10 : ((1 : Int32) = 0) = False := eq_false (by decide)
/-- a loop that counts down -/
theorem for_d {A O : Type} (b : Nat → Nat → A → O) (Inv : Nat → A → Prop) (Q : O → Prop)
    (hs : ∀ n k a, Inv (k + 1) a → Q (b (n + 1) (k + 1) a) ∨ ∃ a', b (n + 1) (k + 1) a = b n k a' ∧ Inv k a')
    (he : ∀ n a, Inv 0 a → Q (b (n + 1) 0 a)) :
    ∀ (k : Nat) (a : A) (n : Nat), k < n → Inv k a → Q (b n k a) := by
  intro k
  induction k with
  | zero =>
    intro a n hn hi
    obtain ⟨m, rfl⟩ : ∃ m, n = m + 1 := ⟨n - 1, by omega⟩
    exact he m a hi
  | succ k ih =>
    intro a n hn hi
    obtain ⟨m, rfl⟩ : ∃ m, n = m + 1 := ⟨n - 1, by omega⟩
    rcases hs m k a hi with h | ⟨a', h1, h2⟩
    · exact h
    · rw [h1]
      exact ih a' m (by omega) h2
theorem nI_m1 (k : Nat) : nI k + (-1) = nI k - 1 := (Int32.sub_eq_add_neg _ _).symm
def IsFst (P : Nat → Bool) (n : Nat) (v : Int32) : Prop := (v = -1 ∧ ∀ h, h < n → P h = false) ∨ ∃ h, h < n ∧ P h = true ∧ (∀ j, j < h → P j = false) ∧ v = nI h
theorem IsFst.uniq {P : Nat → Bool} {n : Nat} {v w : Int32} (h1 : IsFst P n v) (h2 : IsFst P n w) : v = w := by
  rcases h1 with ⟨rfl, a⟩ | ⟨h, a1, a2, a3, rfl⟩ <;> rcases h2 with ⟨rfl, b⟩ | ⟨j, b1, b2, b3, rfl⟩
  · rfl
  · rw [a j b1] at b2
    cases b2
  · rw [b h a1] at a2
    cases a2
  · rcases Nat.lt_trichotomy h j with q | q | q
    · rw [b3 h q] at a2
      cases a2
    · rw [q]
    · rw [a3 j q] at b2
      cases b2
theorem first_c {M : Mm} {σ : Sg} {k : Nat} (g : Good σ) (hC : SC σ M) (hk : k < 10) : Gv (IsFst (fun h => decide (sOwn σ h = k)) (sH σ)) (f_X7_firstHollowOf_11 (nI k) M) := by
  have s := hC.of
  have hH := g.2.2.2.2.1
  refine for_q (fun n i (_ : Unit) => b_X7_firstHollowOf_11_2 n (nI k) (nI i) M) (sH σ) (fun i _ => ∀ j, j < i → decide (sOwn σ j = k) = false) (Gv (IsFst (fun h => decide (sOwn σ h = k)) (sH σ))) ?_ ?_ (sH σ) 0 () FU (Nat.zero_add _) (by show sH σ < 200000; omega) (fun j hj => absurd hj (Nat.not_lt_zero j))
  · intro n i _ hi hI
    show Gv _ (bb_X7_firstHollowOf_11_2 _ _ _ _) ∨ ∃ a', bb_X7_firstHollowOf_11_2 _ _ _ _ = _ ∧ _
    unfold bb_X7_firstHollowOf_11_2
    have ho := g.2.2.2.2.2 i hi
    have hL := g.1
    rw [s.2.2.1, if_neg (nI_ge hi (by omega)), gd_of (inb_nI (by omega) (by decide)), ix_nI (by omega), (s.2.2.2.2.2.2 i hi).2]
    by_cases e : sOwn σ i = k
    · left
      rw [if_pos (by rw [e])]
      exact Gv.ret (Or.inr ⟨i, hi, by simp [e], hI, rfl⟩)
    · right
      refine ⟨(), ?_, ?_⟩
      · rw [if_neg (fun q => e ((nI_inj10 (by omega) (by omega)).mp q)), ltv_eq, nI_1]
      · intro j hj
        rcases Nat.lt_or_ge j i with q | q
        · exact hI j q
        · obtain rfl : j = i := by omega
          simp [e]
  · intro n _ hI
    show Gv _ (bb_X7_firstHollowOf_11_2 _ _ _ _)
    unfold bb_X7_firstHollowOf_11_2
    rw [s.2.2.1, if_pos (nI_le (Nat.le_refl _) (by omega))]
    exact Gv.ret (Or.inl ⟨rfl, hI⟩)
theorem many_c {M : Mm} {σ : Sg} {k : Nat} (g : Good σ) (hC : SC σ M) (hk : k < 10) : f_X7_hollowsOf_11 (nI k) M = some (nI (bcn (fun h => decide (sOwn σ h = k)) (sH σ))) := by
  have s := hC.of
  have hH := g.2.2.2.2.1
  refine for_q (fun n i a => b_X7_hollowsOf_11_4 n (nI k) a (nI i) M) (sH σ) (fun i a => a = nI (bcn (fun h => decide (sOwn σ h = k)) i)) (fun o => o = some (nI (bcn (fun h => decide (sOwn σ h = k)) (sH σ)))) ?_ ?_ (sH σ) 0 (nI 0) FU (Nat.zero_add _) (by show sH σ < 200000; omega) rfl
  · rintro n i a hi rfl
    right
    refine ⟨_, ?_, rfl⟩
    show bb_X7_hollowsOf_11_4 _ _ _ _ _ = _
    unfold bb_X7_hollowsOf_11_4
    have ho := g.2.2.2.2.2 i hi
    have hL := g.1
    rw [s.2.2.1, if_neg (nI_ge hi (by omega)), gd_of (inb_nI (by omega) (by decide)), ix_nI (by omega), (s.2.2.2.2.2.2 i hi).2]
    show _ = b_X7_hollowsOf_11_4 n (nI k) (nI (bcn (fun h => decide (sOwn σ h = k)) i + (if decide (sOwn σ i = k) then 1 else 0))) (nI (i + 1)) M
    by_cases e : sOwn σ i = k
    · rw [if_pos (by rw [e]), ltv_eq, ltv_eq, nI_1, nI_1]
      simp [e]
    · rw [if_neg (fun q => e ((nI_inj10 (by omega) (by omega)).mp q)), ltv_eq, nI_1]
      simp [e]
  · rintro n a rfl
    show bb_X7_hollowsOf_11_4 _ _ _ _ _ = _
    unfold bb_X7_hollowsOf_11_4
    rw [s.2.2.1, if_pos (nI_le (Nat.le_refl _) (by omega))]
def letV (σ : Sg) (k : Nat) (fst : Int32) (w : Int32) : Int32 := if w = 0 then nI (pop (sInk σ k)) else if w = 1 then nI (pop (Bes (sInk σ k))) else if w = 2 then Brd (sInk σ k) else if w = 3 then fst else nI (bcn (fun h => decide (sOwn σ h = k)) (sH σ))
theorem edge_m {M : Mm} {k : Nat} (hk : k < 10) : f_X10_edge_67 (nI k) M = some (nI (pop (Bes (M.2 72 k)))) := by
  unfold f_X10_edge_67 bb_X10_edge_67_0
  rw [gd_of (inb_nI hk (by decide)), ix_nI (by omega), g_beside, bd_some, gd_of (inb_nI hk (by decide)), f_ones]
  rfl
theorem letter_m {N : Mm} {σ : Sg} {k : Nat} {w fst : Int32} (g : Good σ) (hM : SM σ N) (hk : k < sL σ) (hf : IsFst (fun h => decide (sOwn σ h = k)) (sH σ) fst) : b_X10_letter_67_63 FU (nI k) w (-1) 0 (nI (sH σ) - 1) N = some (letV σ k fst w, N) := by
  have s := hM.of
  have hH := g.2.2.2.2.1
  have hL := g.1
  let P : Nat → Bool := fun h => decide (sOwn σ h = k)
  refine for_d (fun n i (a : Int32 × Int32) => b_X10_letter_67_63 n (nI k) w a.1 a.2 (nI i - 1) N) (fun i a => i ≤ sH σ ∧ ((a.1 = -1 ∧ ∀ h, i ≤ h → h < sH σ → P h = false) ∨ ∃ h, i ≤ h ∧ h < sH σ ∧ P h = true ∧ (∀ j, i ≤ j → j < h → P j = false) ∧ a.1 = nI h) ∧ ∃ c, a.2 = nI c ∧ c + bcn P i = bcn P (sH σ)) (fun o => o = some (letV σ k fst w, N)) ?_ ?_ (sH σ) (-1, 0) FU (by show sH σ < 200000; omega) ⟨Nat.le_refl _, Or.inl ⟨rfl, fun h h1 h2 => absurd h1 (by omega)⟩, 0, rfl, Nat.zero_add _⟩
  · rintro n i ⟨a1, a2⟩ ⟨hi, hF, c, hc, hc2⟩
    right
    show ∃ a', bb_X10_letter_67_63 _ _ _ _ _ _ _ = _ ∧ _
    unfold bb_X10_letter_67_63
    have ho := g.2.2.2.2.2 i (by omega)
    rw [show nI (i + 1) - 1 = nI i from nI_pred i, if_neg (nI_pos (by omega)), gd_of (inb_nI (by omega) (by decide)), ix_nI (by omega), (s.2.2.2.2.2.2 i (by omega)).2]
    by_cases e : sOwn σ i = k
    · refine ⟨(nI i, a2 + 1), ?_, by omega, Or.inr ⟨i, Nat.le_refl _, by omega, by simp [P, e], fun j h1 h2 => absurd h1 (by omega), rfl⟩, c + 1, by rw [show a2 = nI c from hc, nI_1], ?_⟩
      · rw [if_pos (by rw [e]), ltv_eq, ltv_eq, nI_m1]
      · have : bcn P (i + 1) = bcn P i + 1 := by
          show bcn P i + (if P i then 1 else 0) = _
          simp [P, e]
        omega
    · refine ⟨(a1, a2), ?_, by omega, ?_, c, hc, ?_⟩
      · rw [if_neg (fun q => e ((nI_inj10 (by omega) (by omega)).mp q)), ltv_eq, nI_m1]
      · rcases hF with ⟨q1, q2⟩ | ⟨h, q1, q2, q3, q4, q5⟩
        · refine Or.inl ⟨q1, fun h h1 h2 => ?_⟩
          rcases Nat.lt_or_ge i h with z | z
          · exact q2 h z h2
          · obtain rfl : h = i := by omega
            simp [P, e]
        · refine Or.inr ⟨h, by omega, q2, q3, fun j h1 h2 => ?_, q5⟩
          rcases Nat.lt_or_ge i j with z | z
          · exact q4 j z h2
          · obtain rfl : j = i := by omega
            simp [P, e]
      · have : bcn P (i + 1) = bcn P i + 0 := by
          show bcn P i + (if P i then 1 else 0) = _
          simp [P, e]
        omega
  · rintro n ⟨a1, a2⟩ ⟨_, hF, c, hc, hc2⟩
    show bb_X10_letter_67_63 _ _ _ _ _ _ _ = _
    unfold bb_X10_letter_67_63
    have e1 : a1 = fst := by
      refine IsFst.uniq (P := P) (n := sH σ) ?_ hf
      rcases hF with ⟨q1, q2⟩ | ⟨h, q1, q2, q3, q4, q5⟩
      · exact Or.inl ⟨q1, fun h hh => q2 h (Nat.zero_le _) hh⟩
      · exact Or.inr ⟨h, q2, q3, fun j hj => q4 j (Nat.zero_le _) hj, q5⟩
    have e2 : a2 = nI (bcn P (sH σ)) := by
      rw [show a2 = nI c from hc]
      congr 1
    rw [if_pos (by decide), gd_of (inb_nI (by omega) (by decide)), ix_nI (by omega), s.2.2.2.1 k hk, f_ones, edge_m (by omega), s.2.2.2.1 k hk, g_broad (by omega), s.2.2.2.1 k hk, e1, e2]
    unfold letV
    by_cases w0 : w = 0
    · rw [if_pos w0, if_pos w0]
      rfl
    · rw [if_neg w0, if_neg w0]
      by_cases w1 : w = 1
      · rw [if_pos w1, if_pos w1]
        rfl
      · rw [if_neg w1, if_neg w1]
        by_cases w2 : w = 2
        · rw [if_pos w2, if_pos w2]
          rfl
        · rw [if_neg w2, if_neg w2]
          by_cases w3 : w = 3
          · rw [if_pos w3, if_pos w3]
          · rw [if_neg w3, if_neg w3]
theorem c_letter {M : Mm} (x y : Int32) (h : Rel M) : AnsI (fw_L_letter_0_120 x y M) (f_X10_letter_67 x y) := by
  obtain ⟨σ, β, hR⟩ := id h
  obtain ⟨g, gB, hC, hM, hb, hm, hT, hI⟩ := id hR
  have s1 := hC.1.of
  have s2 := hM.of
  have hL : sL σ < 2 ^ 31 := by have := g.1; omega
  rcases idx x (n := sL σ) hL with ⟨k, hk, rfl⟩ | ⟨ho, hi⟩
  · obtain ⟨n1, n2⟩ := needL_t s1.1 hk hL
    have hk10 : k < 10 := by have := g.1; omega
    cases hy : inI y 0 4 with
    | false =>
      refine ans_t (c := 2) (w := 0) h (by decide) ?_ ?_
      · simp only [fw_L_letter_0_120, t_X9_letter_0, n2, n1, orx, bd_some, t_needR_f hy]
      · simp only [f_X10_letter_67, bb_X10_letter_67_0, ltv_eq, isL_t (M := wI M 67 0 0) s2.1 hk hL, bd_some, i10, if_false, bb_X10_letter_67_19, bad0 (M := wI M 67 0 0) rfl, bd2_some, if_true, f_inI, hy, bb_X10_letter_67_41, bad1 (M := wI M 67 0 0) (k := 2) rfl (by decide), Bool.false_eq_true]
    | true =>
      obtain ⟨fst, e3, hf⟩ := first_c g hC.1 hk10
      have cl : f_X9_letter_0 (nI k) y M = some (letV σ k fst y) := by
        unfold f_X9_letter_0 bb_X9_letter_0_0 letV
        rw [n1, bd_some, f_needR hy, bd_some, gd_of (inb_nI hk10 (by decide)), ltv_eq, ix_nI (by omega), s1.2.2.2.1 k hk, f_bits, f_beside, f_broad, e3, many_c g hC.1 hk10]
        simp only [bd_some, f_bits]
        by_cases w0 : y = 0
        · rw [if_pos w0, if_pos w0]
        · rw [if_neg w0, if_neg w0]
          by_cases w1 : y = 1
          · rw [if_pos w1, if_pos w1]
          · rw [if_neg w1, if_neg w1]
            by_cases w2 : y = 2
            · rw [if_pos w2, if_pos w2]
            · rw [if_neg w2, if_neg w2]
              by_cases w3 : y = 3
              · rw [if_pos w3, if_pos w3]
              · rw [if_neg w3, if_neg w3]
      refine ans_g (L := []) (v := letV σ k fst y) h ?_ ⟨_, ?_, Fr.refl⟩ rfl rfl rfl
      · simp only [fw_L_letter_0_120, t_X9_letter_0, n2, n1, orx, bd_some, t_needR_t hy, f_L_letter_0_120, bb_L_letter_0_120_0, cl, ltv_eq]
      · obtain ⟨hM', _⟩ := hR.md (letV σ k fst y).toInt64
        generalize hN : wI (wJ M 120 0 (letV σ k fst y).toInt64) 67 0 0 = N at hM'
        have N0 : N.1 67 0 = 0 := by rw [← hN]; rfl
        simp only [f_X10_letter_67, bb_X10_letter_67_0, ltv_eq, hN, isL_t hM'.of.1 hk hL, bd_some, i10, if_false, bb_X10_letter_67_19, bad0 N0, bd2_some, if_true, f_inI, hy, bb_X10_letter_67_41, hM'.of.2.2.1, letter_m g hM' hk hf]
  · refine ans_t (c := 1) (w := 0) h (by decide) ?_ ?_
    · simp only [fw_L_letter_0_120, t_X9_letter_0, needL_f s1.1 ho, orx]
    · simp only [f_X10_letter_67, bb_X10_letter_67_0, ltv_eq, isL_f (M := wI M 67 0 0) s2.1 hi, bd_some, if_true, bb_X10_letter_67_19, bad1 (M := wI M 67 0 0) (k := 1) rfl (by decide), bd2_some, i10, if_false]
-- ===== apart =====
theorem trn_4 (x : Int64) : trn x 4 = x := Qrt4 x
theorem min_nI {a b : Nat} (ha : a < 2 ^ 31) (hb : b < 2 ^ 31) : (if nI a < nI b then nI a else nI b) = nI (min b a) := by
  by_cases h : a < b
  · rw [if_pos (nI_lt h hb), Nat.min_eq_right (by omega)]
  · rw [if_neg (fun q => h ((nI_ltI ha hb).mp q)), Nat.min_eq_left (by omega)]
/-- how many turns -/
def tnN (m : Int32) : Nat := if m = 0 then 4 else 8
theorem tnN_8 (m : Int32) : tnN m ≤ 8 := by unfold tnN; split <;> omega
theorem apt_tn (a b : Int64) (m : Int32) : Apt a b (decide (m ≠ 0)) = apN a (Cor b) (tnN m) := by
  unfold Apt tnN
  by_cases h : m = 0
  · simp [h]
  · simp [h]
theorem tur_s {x : Int64} {k : Nat} (hk : k < 8) : tur x k = Cor (if k < 4 then trn x k else trn (Mir x) (k - 4)) := by
  unfold tur
  split <;> rfl
theorem apart_m (x y : Int64) (m : Int32) : f_X10_apartOf x y m = some (nI (Apt x y (decide (m ≠ 0)))) := by
  have h8 := tnN_8 m
  unfold f_X10_apartOf bb_X10_apartOf_0
  rw [g_shape, bd_some, apt_tn]
  refine for_q (fun n i (a : Int64 × Int32) => b_X10_apartOf_16 n m (Cor y) a.1 a.2 (nI i)) (tnN m) (fun i a => a.1 = (if i ≤ 4 then trn x i else trn (Mir x) (i - 4)) ∧ a.2 = nI (apN x (Cor y) i)) (fun o => o = some (nI (apN x (Cor y) (tnN m)))) ?_ ?_ (tnN m) 0 (x, nI 64) FU (Nat.zero_add _) (by show tnN m < 200000; omega) ⟨rfl, rfl⟩
  · rintro n i ⟨z, a⟩ hi ⟨h1, h2⟩
    have hz : z = (if i ≤ 4 then trn x i else trn (Mir x) (i - 4)) := h1
    have ha : a = nI (apN x (Cor y) i) := h2
    right
    have key : ∀ s0, s0 = (if i < 4 then trn x i else trn (Mir x) (i - 4)) → bb_X10_apartOf_48 (b_X10_apartOf_16 n) m (Cor y) a (nI i) s0 = b_X10_apartOf_16 n m (Cor y) (Qrt s0) (nI (apN x (Cor y) (i + 1))) (nI (i + 1)) := by
      intro s0 hs
      unfold bb_X10_apartOf_48
      have ht : Cor s0 = tur x i := by rw [tur_s (by omega), hs]
      rw [g_shape, bd_some, f_ones, bd_some, g_quarter, bd_some, bd_some, ltv_eq, ltv_eq, nI_1, ht, ha]
      have hp := pop_le (tur x i ^^^ Cor y)
      have hq := apN_le x (Cor y) i
      show _ = b_X10_apartOf_16 n m (Cor y) (Qrt s0) (nI (min (apN x (Cor y) i) (pop (tur x i ^^^ Cor y)))) _
      by_cases e : apN x (Cor y) i ≤ pop (tur x i ^^^ Cor y)
      · rw [if_pos (nI_le e (by omega)), Nat.min_eq_left e]
      · rw [if_neg (nI_ge (by omega) (by omega)), Nat.min_eq_right (by omega)]
    have k29 : bb_X10_apartOf_29 (b_X10_apartOf_16 n) m (Cor y) z a (nI i) (nI i) (nI (tnN m)) = b_X10_apartOf_16 n m (Cor y) (if i < 3 then trn x (i + 1) else if i = 3 then trn x 4 else trn (Mir x) (i - 3)) (nI (apN x (Cor y) (i + 1))) (nI (i + 1)) := by
      unfold bb_X10_apartOf_29
      rw [if_neg (nI_ge hi (by omega))]
      by_cases e4 : i = 4
      · rw [if_pos (by rw [e4]; rfl), g_mirrored, bd_some, key (Mir z) (by rw [hz]; subst e4; rw [if_pos (by decide), trn_4]; rfl)]
        congr 1
        subst e4
        rw [hz]
        show Qrt (Mir (trn x 4)) = Qrt (Mir x)
        rw [trn_4]
      · have hz4 : z = if i < 4 then trn x i else trn (Mir x) (i - 4) := by
          rw [hz]
          by_cases q : i < 4
          · rw [if_pos q, if_pos (by omega)]
          · rw [if_neg q, if_neg (by omega)]
        rw [if_neg (show ¬ nI i = (4 : Int32) from fun q => e4 ((nI_eq (b := 4) (by omega) (by decide)).mp q)), key z hz4]
        congr 1
        rw [hz]
        by_cases q : i < 3
        · rw [if_pos (by omega), if_pos q]
          rfl
        · rw [if_neg q]
          by_cases q3 : i = 3
          · subst q3
            rfl
          · rw [if_neg (by omega), if_neg q3]
            obtain ⟨j, rfl⟩ : ∃ j, i = j + 4 := ⟨i - 4, by omega⟩
            rw [Nat.add_sub_cancel, show j + 4 - 3 = j + 1 by omega]
            rfl
    refine ⟨((if i < 3 then trn x (i + 1) else if i = 3 then trn x 4 else trn (Mir x) (i - 3)), nI (apN x (Cor y) (i + 1))), ?_, ?_, rfl⟩
    · show bb_X10_apartOf_16 _ _ _ _ _ _ = _
      unfold bb_X10_apartOf_16
      unfold tnN at k29
      by_cases hm : m = 0
      · rw [if_pos hm]
        rw [if_pos hm] at k29
        exact k29
      · rw [if_neg hm]
        rw [if_neg hm] at k29
        exact k29
    · show (if i < 3 then trn x (i + 1) else if i = 3 then trn x 4 else trn (Mir x) (i - 3)) = _
      by_cases q : i < 3
      · rw [if_pos q, if_pos (by omega)]
      · rw [if_neg q]
        by_cases q3 : i = 3
        · subst q3
          rfl
        · rw [if_neg q3, if_neg (by omega)]
          congr 1
  · rintro n ⟨z, a⟩ ⟨h1, h2⟩
    have ha : a = nI (apN x (Cor y) (tnN m)) := h2
    show bb_X10_apartOf_16 _ _ _ _ _ _ = _
    unfold bb_X10_apartOf_16 bb_X10_apartOf_29
    rw [ha]
    unfold tnN
    by_cases hm : m = 0
    · rw [if_pos hm, if_pos hm, if_pos (by decide)]
    · rw [if_neg hm, if_neg hm, if_pos (by decide)]
theorem apartBy_25 {M : Mm} {h : Nat} {x c : Int64} (m : Int32) (hh : 8 * h + 8 ≤ 128) (hM : ∀ k, k < 8 → M.2 25 (8 * h + k) = tur x k) : f_X4_apartBy_25 (nI h) c m M = some (nI (apN x c (tnN m))) := by
  have h8 := tnN_8 m
  have key : b_X4_apartBy_25_20 FU (nI h) c (nI 64) (nI (tnN m)) (nI 0) M = some (nI (apN x c (tnN m))) := by
    refine for_q (fun n i a => b_X4_apartBy_25_20 n (nI h) c a (nI (tnN m)) (nI i) M) (tnN m) (fun i a => a = nI (apN x c i)) (fun o => o = some (nI (apN x c (tnN m)))) ?_ ?_ (tnN m) 0 (nI 64) FU (Nat.zero_add _) (by show tnN m < 200000; omega) rfl
    · rintro n i a hi rfl
      right
      refine ⟨nI (apN x c (i + 1)), ?_, rfl⟩
      show bb_X4_apartBy_25_20 _ _ _ _ _ _ _ = _
      unfold bb_X4_apartBy_25_20
      have hp := pop_le (tur x i ^^^ c)
      have hq := apN_le x c i
      rw [if_neg (nI_ge hi (by omega)), ltv_eq, show (8 : Int32) * nI h + nI i = nI (8 * h + i) from by rw [← nI_add, ← pk_mul]; rfl, if_neg (nI_pos (by omega)), if_neg (show ¬ (128 : Int32) ≤ nI (8 * h + i) from nI_ge (b := 128) (by omega) (by decide)), gd_of (inb_nI (by omega) (by decide)), ix_nI (by omega), hM i (by omega), f_bits, bd_some, ltv_eq, ltv_eq, nI_1, min_nI (by omega) (by omega)]
      rfl
    · rintro n a rfl
      show bb_X4_apartBy_25_20 _ _ _ _ _ _ _ = _
      unfold bb_X4_apartBy_25_20
      rw [if_pos (nI_le (Nat.le_refl _) (by omega))]
  unfold f_X4_apartBy_25 bb_X4_apartBy_25_0
  unfold tnN at key ⊢
  by_cases hm : m = 0
  · rw [if_pos hm] at key
    rw [if_pos hm, if_pos hm]
    exact key
  · rw [if_neg hm] at key
    rw [if_neg hm, if_neg hm]
    exact key
theorem turnsInto_25 {M : Mm} {h : Nat} (x : Int64) (hh : 8 * h + 8 ≤ 128) : ∃ M', f_X4_turnsInto_25 x (nI h) M = some M' ∧ Fr [(25, 999)] M M' ∧ (∀ k, k < 8 → M'.2 25 (8 * h + k) = tur x k) ∧ ∀ i, (i < 8 * h ∨ 8 * h + 8 ≤ i) → M'.2 25 i = M.2 25 i := by
  have key : Gv (fun M' => Fr [(25, 999)] M M' ∧ (∀ k, k < 8 → M'.2 25 (8 * h + k) = tur x k) ∧ ∀ i, (i < 8 * h ∨ 8 * h + 8 ≤ i) → M'.2 25 i = M.2 25 i) (b_X4_turnsInto_25_29 FU (nI h) x (Mir x) (nI 0) M) := by
    refine for_q (fun n i (a : Int64 × Int64 × Mm) => b_X4_turnsInto_25_29 n (nI h) a.1 a.2.1 (nI i) a.2.2) 4 (fun i a => a.1 = trn x i ∧ a.2.1 = trn (Mir x) i ∧ Fr [(25, 999)] M a.2.2 ∧ (∀ k, k < i → a.2.2.2 25 (8 * h + k) = tur x k ∧ a.2.2.2 25 (8 * h + (4 + k)) = tur x (4 + k)) ∧ ∀ j, (j < 8 * h ∨ 8 * h + 8 ≤ j) → a.2.2.2 25 j = M.2 25 j) (Gv (fun M' => Fr [(25, 999)] M M' ∧ (∀ k, k < 8 → M'.2 25 (8 * h + k) = tur x k) ∧ ∀ i, (i < 8 * h ∨ 8 * h + 8 ≤ i) → M'.2 25 i = M.2 25 i)) ?_ ?_ 4 0 (x, Mir x, M) FU rfl (by decide) ⟨rfl, rfl, Fr.refl, fun k hk => absurd hk (Nat.not_lt_zero k), fun _ _ => rfl⟩
    · rintro n i ⟨p, q, N⟩ hi ⟨h1, h2, h3, h4, h5⟩
      have hp : p = trn x i := h1
      have hq : q = trn (Mir x) i := h2
      subst hp hq
      right
      refine ⟨(Qrt (trn x i), Qrt (trn (Mir x) i), wJ (wJ N 25 (8 * h + i) (Cor (trn x i))) 25 (8 * h + (4 + i)) (Cor (trn (Mir x) i))), ?_, rfl, rfl, Fr.tr h3 (Fr.tr (Fr.wJa rfl) (Fr.wJa rfl)), ?_, ?_⟩
      · show bb_X4_turnsInto_25_29 _ _ _ _ _ _ = _
        unfold bb_X4_turnsInto_25_29
        rw [if_neg (show ¬ (4 : Int32) ≤ nI i from nI_ge hi (by decide)), f_corner, bd_some, show (8 : Int32) * nI h + nI i = nI (8 * h + i) from by rw [← nI_add, ← pk_mul]; rfl, gd_of (inb_nI (by omega) (by decide)), ltv_eq, f_corner, bd_some, show (8 : Int32) * nI h + 4 + nI i = nI (8 * h + (4 + i)) from by rw [← Nat.add_assoc, ← nI_add, ← nI_add, ← pk_mul]; rfl, gd_of (inb_nI (by omega) (by decide)), ltv_eq, f_quarter, bd_some, f_quarter, bd_some, ltv_eq, nI_1, ix_nI (by omega), ix_nI (by omega)]
      · intro k hk
        have e4 : tur x (4 + i) = Cor (trn (Mir x) i) := by
          unfold tur
          rw [if_neg (by omega), Nat.add_sub_cancel_left]
        have e0 : tur x i = Cor (trn x i) := by
          unfold tur
          rw [if_pos (by omega)]
        show (if 25 = 25 ∧ 8 * h + k = 8 * h + (4 + i) then Cor (trn (Mir x) i) else (if 25 = 25 ∧ 8 * h + k = 8 * h + i then Cor (trn x i) else N.2 25 (8 * h + k))) = tur x k ∧ (if 25 = 25 ∧ 8 * h + (4 + k) = 8 * h + (4 + i) then Cor (trn (Mir x) i) else (if 25 = 25 ∧ 8 * h + (4 + k) = 8 * h + i then Cor (trn x i) else N.2 25 (8 * h + (4 + k)))) = tur x (4 + k)
        rw [if_neg (fun z => absurd z.2 (by omega))]
        by_cases e : k = i
        · subst e
          rw [if_pos ⟨rfl, rfl⟩, if_pos ⟨rfl, rfl⟩, e0, e4]
          exact ⟨rfl, rfl⟩
        · rw [if_neg (fun z => absurd z.2 (by omega)), if_neg (fun z => absurd z.2 (by omega)), if_neg (fun z => absurd z.2 (by omega))]
          exact h4 k (by omega)
      · intro j hj
        show (if 25 = 25 ∧ j = 8 * h + (4 + i) then Cor (trn (Mir x) i) else (if 25 = 25 ∧ j = 8 * h + i then Cor (trn x i) else N.2 25 j)) = M.2 25 j
        rw [if_neg (fun z => absurd z.2 (by omega)), if_neg (fun z => absurd z.2 (by omega))]
        exact h5 j hj
    · rintro n ⟨p, q, N⟩ ⟨h1, h2, h3, h4, h5⟩
      show Gv _ (bb_X4_turnsInto_25_29 _ _ _ _ _ _)
      unfold bb_X4_turnsInto_25_29
      rw [if_pos (by decide)]
      refine Gv.ret ⟨h3, ?_, h5⟩
      intro k hk
      by_cases q : k < 4
      · exact (h4 k q).1
      · obtain ⟨j, rfl⟩ : ∃ j, k = 4 + j := ⟨k - 4, by omega⟩
        exact (h4 j (by omega)).2
  obtain ⟨M', e, r⟩ := key
  refine ⟨M', ?_, r⟩
  unfold f_X4_turnsInto_25 bb_X4_turnsInto_25_0
  rw [if_neg (nI_pos (by omega)), show (8 : Int32) * nI h + 8 = nI (8 * h + 8) from by rw [← nI_add, ← pk_mul]; rfl, if_pos (show nI (8 * h + 8) ≤ (128 : Int32) from nI_le (b := 128) hh (by decide)), f_mirrored, bd_some]
  exact e
theorem apartBy_26 {M : Mm} {h : Nat} {x c : Int64} (m : Int32) (hh : 8 * h + 8 ≤ 8) (hM : ∀ k, k < 8 → M.2 26 (8 * h + k) = tur x k) : f_X4_apartBy_26 (nI h) c m M = some (nI (apN x c (tnN m))) := by
  have h8 := tnN_8 m
  have key : b_X4_apartBy_26_20 FU (nI h) c (nI 64) (nI (tnN m)) (nI 0) M = some (nI (apN x c (tnN m))) := by
    refine for_q (fun n i a => b_X4_apartBy_26_20 n (nI h) c a (nI (tnN m)) (nI i) M) (tnN m) (fun i a => a = nI (apN x c i)) (fun o => o = some (nI (apN x c (tnN m)))) ?_ ?_ (tnN m) 0 (nI 64) FU (Nat.zero_add _) (by show tnN m < 200000; omega) rfl
    · rintro n i a hi rfl
      right
      refine ⟨nI (apN x c (i + 1)), ?_, rfl⟩
      show bb_X4_apartBy_26_20 _ _ _ _ _ _ _ = _
      unfold bb_X4_apartBy_26_20
      have hp := pop_le (tur x i ^^^ c)
      have hq := apN_le x c i
      rw [if_neg (nI_ge hi (by omega)), ltv_eq, show (8 : Int32) * nI h + nI i = nI (8 * h + i) from by rw [← nI_add, ← pk_mul]; rfl, if_neg (nI_pos (by omega)), if_neg (show ¬ (8 : Int32) ≤ nI (8 * h + i) from nI_ge (b := 8) (by omega) (by decide)), gd_of (inb_nI (by omega) (by decide)), ix_nI (by omega), hM i (by omega), f_bits, bd_some, ltv_eq, ltv_eq, nI_1, min_nI (by omega) (by omega)]
      rfl
    · rintro n a rfl
      show bb_X4_apartBy_26_20 _ _ _ _ _ _ _ = _
      unfold bb_X4_apartBy_26_20
      rw [if_pos (nI_le (Nat.le_refl _) (by omega))]
  unfold f_X4_apartBy_26 bb_X4_apartBy_26_0
  unfold tnN at key ⊢
  by_cases hm : m = 0
  · rw [if_pos hm] at key
    rw [if_pos hm, if_pos hm]
    exact key
  · rw [if_neg hm] at key
    rw [if_neg hm, if_neg hm]
    exact key
theorem turnsInto_26 {M : Mm} {h : Nat} (x : Int64) (hh : 8 * h + 8 ≤ 8) : ∃ M', f_X4_turnsInto_26 x (nI h) M = some M' ∧ Fr [(26, 999)] M M' ∧ (∀ k, k < 8 → M'.2 26 (8 * h + k) = tur x k) ∧ ∀ i, (i < 8 * h ∨ 8 * h + 8 ≤ i) → M'.2 26 i = M.2 26 i := by
  have key : Gv (fun M' => Fr [(26, 999)] M M' ∧ (∀ k, k < 8 → M'.2 26 (8 * h + k) = tur x k) ∧ ∀ i, (i < 8 * h ∨ 8 * h + 8 ≤ i) → M'.2 26 i = M.2 26 i) (b_X4_turnsInto_26_29 FU (nI h) x (Mir x) (nI 0) M) := by
    refine for_q (fun n i (a : Int64 × Int64 × Mm) => b_X4_turnsInto_26_29 n (nI h) a.1 a.2.1 (nI i) a.2.2) 4 (fun i a => a.1 = trn x i ∧ a.2.1 = trn (Mir x) i ∧ Fr [(26, 999)] M a.2.2 ∧ (∀ k, k < i → a.2.2.2 26 (8 * h + k) = tur x k ∧ a.2.2.2 26 (8 * h + (4 + k)) = tur x (4 + k)) ∧ ∀ j, (j < 8 * h ∨ 8 * h + 8 ≤ j) → a.2.2.2 26 j = M.2 26 j) (Gv (fun M' => Fr [(26, 999)] M M' ∧ (∀ k, k < 8 → M'.2 26 (8 * h + k) = tur x k) ∧ ∀ i, (i < 8 * h ∨ 8 * h + 8 ≤ i) → M'.2 26 i = M.2 26 i)) ?_ ?_ 4 0 (x, Mir x, M) FU rfl (by decide) ⟨rfl, rfl, Fr.refl, fun k hk => absurd hk (Nat.not_lt_zero k), fun _ _ => rfl⟩
    · rintro n i ⟨p, q, N⟩ hi ⟨h1, h2, h3, h4, h5⟩
      have hp : p = trn x i := h1
      have hq : q = trn (Mir x) i := h2
      subst hp hq
      right
      refine ⟨(Qrt (trn x i), Qrt (trn (Mir x) i), wJ (wJ N 26 (8 * h + i) (Cor (trn x i))) 26 (8 * h + (4 + i)) (Cor (trn (Mir x) i))), ?_, rfl, rfl, Fr.tr h3 (Fr.tr (Fr.wJa rfl) (Fr.wJa rfl)), ?_, ?_⟩
      · show bb_X4_turnsInto_26_29 _ _ _ _ _ _ = _
        unfold bb_X4_turnsInto_26_29
        rw [if_neg (show ¬ (4 : Int32) ≤ nI i from nI_ge hi (by decide)), f_corner, bd_some, show (8 : Int32) * nI h + nI i = nI (8 * h + i) from by rw [← nI_add, ← pk_mul]; rfl, gd_of (inb_nI (by omega) (by decide)), ltv_eq, f_corner, bd_some, show (8 : Int32) * nI h + 4 + nI i = nI (8 * h + (4 + i)) from by rw [← Nat.add_assoc, ← nI_add, ← nI_add, ← pk_mul]; rfl, gd_of (inb_nI (by omega) (by decide)), ltv_eq, f_quarter, bd_some, f_quarter, bd_some, ltv_eq, nI_1, ix_nI (by omega), ix_nI (by omega)]
      · intro k hk
        have e4 : tur x (4 + i) = Cor (trn (Mir x) i) := by
          unfold tur
          rw [if_neg (by omega), Nat.add_sub_cancel_left]
        have e0 : tur x i = Cor (trn x i) := by
          unfold tur
          rw [if_pos (by omega)]
        show (if 26 = 26 ∧ 8 * h + k = 8 * h + (4 + i) then Cor (trn (Mir x) i) else (if 26 = 26 ∧ 8 * h + k = 8 * h + i then Cor (trn x i) else N.2 26 (8 * h + k))) = tur x k ∧ (if 26 = 26 ∧ 8 * h + (4 + k) = 8 * h + (4 + i) then Cor (trn (Mir x) i) else (if 26 = 26 ∧ 8 * h + (4 + k) = 8 * h + i then Cor (trn x i) else N.2 26 (8 * h + (4 + k)))) = tur x (4 + k)
        rw [if_neg (fun z => absurd z.2 (by omega))]
        by_cases e : k = i
        · subst e
          rw [if_pos ⟨rfl, rfl⟩, if_pos ⟨rfl, rfl⟩, e0, e4]
          exact ⟨rfl, rfl⟩
        · rw [if_neg (fun z => absurd z.2 (by omega)), if_neg (fun z => absurd z.2 (by omega)), if_neg (fun z => absurd z.2 (by omega))]
          exact h4 k (by omega)
      · intro j hj
        show (if 26 = 26 ∧ j = 8 * h + (4 + i) then Cor (trn (Mir x) i) else (if 26 = 26 ∧ j = 8 * h + i then Cor (trn x i) else N.2 26 j)) = M.2 26 j
        rw [if_neg (fun z => absurd z.2 (by omega)), if_neg (fun z => absurd z.2 (by omega))]
        exact h5 j hj
    · rintro n ⟨p, q, N⟩ ⟨h1, h2, h3, h4, h5⟩
      show Gv _ (bb_X4_turnsInto_26_29 _ _ _ _ _ _)
      unfold bb_X4_turnsInto_26_29
      rw [if_pos (by decide)]
      refine Gv.ret ⟨h3, ?_, h5⟩
      intro k hk
      by_cases q : k < 4
      · exact (h4 k q).1
      · obtain ⟨j, rfl⟩ : ∃ j, k = 4 + j := ⟨k - 4, by omega⟩
        exact (h4 j (by omega)).2
  obtain ⟨M', e, r⟩ := key
  refine ⟨M', ?_, r⟩
  unfold f_X4_turnsInto_26 bb_X4_turnsInto_26_0
  rw [if_neg (nI_pos (by omega)), show (8 : Int32) * nI h + 8 = nI (8 * h + 8) from by rw [← nI_add, ← pk_mul]; rfl, if_pos (show nI (8 * h + 8) ≤ (8 : Int32) from nI_le (b := 8) hh (by decide)), f_mirrored, bd_some]
  exact e
theorem apartBy_45 {M : Mm} {h : Nat} {x c : Int64} (m : Int32) (hh : 8 * h + 8 ≤ 64) (hM : ∀ k, k < 8 → M.2 45 (8 * h + k) = tur x k) : f_X4_apartBy_45 (nI h) c m M = some (nI (apN x c (tnN m))) := by
  have h8 := tnN_8 m
  have key : b_X4_apartBy_45_20 FU (nI h) c (nI 64) (nI (tnN m)) (nI 0) M = some (nI (apN x c (tnN m))) := by
    refine for_q (fun n i a => b_X4_apartBy_45_20 n (nI h) c a (nI (tnN m)) (nI i) M) (tnN m) (fun i a => a = nI (apN x c i)) (fun o => o = some (nI (apN x c (tnN m)))) ?_ ?_ (tnN m) 0 (nI 64) FU (Nat.zero_add _) (by show tnN m < 200000; omega) rfl
    · rintro n i a hi rfl
      right
      refine ⟨nI (apN x c (i + 1)), ?_, rfl⟩
      show bb_X4_apartBy_45_20 _ _ _ _ _ _ _ = _
      unfold bb_X4_apartBy_45_20
      have hp := pop_le (tur x i ^^^ c)
      have hq := apN_le x c i
      rw [if_neg (nI_ge hi (by omega)), ltv_eq, show (8 : Int32) * nI h + nI i = nI (8 * h + i) from by rw [← nI_add, ← pk_mul]; rfl, if_neg (nI_pos (by omega)), if_neg (show ¬ (64 : Int32) ≤ nI (8 * h + i) from nI_ge (b := 64) (by omega) (by decide)), gd_of (inb_nI (by omega) (by decide)), ix_nI (by omega), hM i (by omega), f_bits, bd_some, ltv_eq, ltv_eq, nI_1, min_nI (by omega) (by omega)]
      rfl
    · rintro n a rfl
      show bb_X4_apartBy_45_20 _ _ _ _ _ _ _ = _
      unfold bb_X4_apartBy_45_20
      rw [if_pos (nI_le (Nat.le_refl _) (by omega))]
  unfold f_X4_apartBy_45 bb_X4_apartBy_45_0
  unfold tnN at key ⊢
  by_cases hm : m = 0
  · rw [if_pos hm] at key
    rw [if_pos hm, if_pos hm]
    exact key
  · rw [if_neg hm] at key
    rw [if_neg hm, if_neg hm]
    exact key
theorem turnsInto_45 {M : Mm} {h : Nat} (x : Int64) (hh : 8 * h + 8 ≤ 64) : ∃ M', f_X4_turnsInto_45 x (nI h) M = some M' ∧ Fr [(45, 999)] M M' ∧ (∀ k, k < 8 → M'.2 45 (8 * h + k) = tur x k) ∧ ∀ i, (i < 8 * h ∨ 8 * h + 8 ≤ i) → M'.2 45 i = M.2 45 i := by
  have key : Gv (fun M' => Fr [(45, 999)] M M' ∧ (∀ k, k < 8 → M'.2 45 (8 * h + k) = tur x k) ∧ ∀ i, (i < 8 * h ∨ 8 * h + 8 ≤ i) → M'.2 45 i = M.2 45 i) (b_X4_turnsInto_45_29 FU (nI h) x (Mir x) (nI 0) M) := by
    refine for_q (fun n i (a : Int64 × Int64 × Mm) => b_X4_turnsInto_45_29 n (nI h) a.1 a.2.1 (nI i) a.2.2) 4 (fun i a => a.1 = trn x i ∧ a.2.1 = trn (Mir x) i ∧ Fr [(45, 999)] M a.2.2 ∧ (∀ k, k < i → a.2.2.2 45 (8 * h + k) = tur x k ∧ a.2.2.2 45 (8 * h + (4 + k)) = tur x (4 + k)) ∧ ∀ j, (j < 8 * h ∨ 8 * h + 8 ≤ j) → a.2.2.2 45 j = M.2 45 j) (Gv (fun M' => Fr [(45, 999)] M M' ∧ (∀ k, k < 8 → M'.2 45 (8 * h + k) = tur x k) ∧ ∀ i, (i < 8 * h ∨ 8 * h + 8 ≤ i) → M'.2 45 i = M.2 45 i)) ?_ ?_ 4 0 (x, Mir x, M) FU rfl (by decide) ⟨rfl, rfl, Fr.refl, fun k hk => absurd hk (Nat.not_lt_zero k), fun _ _ => rfl⟩
    · rintro n i ⟨p, q, N⟩ hi ⟨h1, h2, h3, h4, h5⟩
      have hp : p = trn x i := h1
      have hq : q = trn (Mir x) i := h2
      subst hp hq
      right
      refine ⟨(Qrt (trn x i), Qrt (trn (Mir x) i), wJ (wJ N 45 (8 * h + i) (Cor (trn x i))) 45 (8 * h + (4 + i)) (Cor (trn (Mir x) i))), ?_, rfl, rfl, Fr.tr h3 (Fr.tr (Fr.wJa rfl) (Fr.wJa rfl)), ?_, ?_⟩
      · show bb_X4_turnsInto_45_29 _ _ _ _ _ _ = _
        unfold bb_X4_turnsInto_45_29
        rw [if_neg (show ¬ (4 : Int32) ≤ nI i from nI_ge hi (by decide)), f_corner, bd_some, show (8 : Int32) * nI h + nI i = nI (8 * h + i) from by rw [← nI_add, ← pk_mul]; rfl, gd_of (inb_nI (by omega) (by decide)), ltv_eq, f_corner, bd_some, show (8 : Int32) * nI h + 4 + nI i = nI (8 * h + (4 + i)) from by rw [← Nat.add_assoc, ← nI_add, ← nI_add, ← pk_mul]; rfl, gd_of (inb_nI (by omega) (by decide)), ltv_eq, f_quarter, bd_some, f_quarter, bd_some, ltv_eq, nI_1, ix_nI (by omega), ix_nI (by omega)]
      · intro k hk
        have e4 : tur x (4 + i) = Cor (trn (Mir x) i) := by
          unfold tur
          rw [if_neg (by omega), Nat.add_sub_cancel_left]
        have e0 : tur x i = Cor (trn x i) := by
          unfold tur
          rw [if_pos (by omega)]
        show (if 45 = 45 ∧ 8 * h + k = 8 * h + (4 + i) then Cor (trn (Mir x) i) else (if 45 = 45 ∧ 8 * h + k = 8 * h + i then Cor (trn x i) else N.2 45 (8 * h + k))) = tur x k ∧ (if 45 = 45 ∧ 8 * h + (4 + k) = 8 * h + (4 + i) then Cor (trn (Mir x) i) else (if 45 = 45 ∧ 8 * h + (4 + k) = 8 * h + i then Cor (trn x i) else N.2 45 (8 * h + (4 + k)))) = tur x (4 + k)
        rw [if_neg (fun z => absurd z.2 (by omega))]
        by_cases e : k = i
        · subst e
          rw [if_pos ⟨rfl, rfl⟩, if_pos ⟨rfl, rfl⟩, e0, e4]
          exact ⟨rfl, rfl⟩
        · rw [if_neg (fun z => absurd z.2 (by omega)), if_neg (fun z => absurd z.2 (by omega)), if_neg (fun z => absurd z.2 (by omega))]
          exact h4 k (by omega)
      · intro j hj
        show (if 45 = 45 ∧ j = 8 * h + (4 + i) then Cor (trn (Mir x) i) else (if 45 = 45 ∧ j = 8 * h + i then Cor (trn x i) else N.2 45 j)) = M.2 45 j
        rw [if_neg (fun z => absurd z.2 (by omega)), if_neg (fun z => absurd z.2 (by omega))]
        exact h5 j hj
    · rintro n ⟨p, q, N⟩ ⟨h1, h2, h3, h4, h5⟩
      show Gv _ (bb_X4_turnsInto_45_29 _ _ _ _ _ _)
      unfold bb_X4_turnsInto_45_29
      rw [if_pos (by decide)]
      refine Gv.ret ⟨h3, ?_, h5⟩
      intro k hk
      by_cases q : k < 4
      · exact (h4 k q).1
      · obtain ⟨j, rfl⟩ : ∃ j, k = 4 + j := ⟨k - 4, by omega⟩
        exact (h4 j (by omega)).2
  obtain ⟨M', e, r⟩ := key
  refine ⟨M', ?_, r⟩
  unfold f_X4_turnsInto_45 bb_X4_turnsInto_45_0
  rw [if_neg (nI_pos (by omega)), show (8 : Int32) * nI h + 8 = nI (8 * h + 8) from by rw [← nI_add, ← pk_mul]; rfl, if_pos (show nI (8 * h + 8) ≤ (64 : Int32) from nI_le (b := 64) hh (by decide)), f_mirrored, bd_some]
  exact e
theorem apart_c {M : Mm} {σ : Sg} {a b : Nat} (m : Int32) (g : Good σ) (hC : C2 σ M) (ha : a < sH σ) (hb : b < sH σ) : f_X1_apartOf_24 (nI a) (nI b) m M = some (nI (Apt (sHol σ a) (sHol σ b) (decide (m ≠ 0)))) := by
  have h16 := g.2.2.2.2.1
  have c : C20 σ M := hC
  unfold f_X1_apartOf_24 bb_X1_apartOf_24_0
  rw [if_neg (nI_pos (by omega)), c.1, if_pos (nI_lt hb (by omega)), show (8 : Int32) * nI b = nI (8 * b) from pk_mul 8 b, gd_of (inb_nI (by omega) (by decide)), ix_nI (by omega), apartBy_25 (x := sHol σ a) m (by omega) (fun k hk => c.2 a ha k hk), bd_some, apt_tn, show M.2 25 (8 * b) = Cor (sHol σ b) from c.2 b hb 0 (by decide)]
theorem apartF_c {M : Mm} {σ : Sg} {a : Nat} (y : Int64) (m : Int32) (g : Good σ) (hC : C2 σ M) (ha : a < sH σ) : f_X1_apartFrom_24 (nI a) y m M = some (nI (Apt (sHol σ a) y (decide (m ≠ 0)))) := by
  have h16 := g.2.2.2.2.1
  have c : C20 σ M := hC
  unfold f_X1_apartFrom_24 bb_X1_apartFrom_24_0
  rw [f_corner, bd_some, apartBy_25 (x := sHol σ a) m (by omega) (fun k hk => c.2 a ha k hk), bd_some, apt_tn]
theorem c_apart {M : Mm} (x y z : Int32) (h : Rel M) : AnsI (fw_L_apart_0_120 x y z M) (f_X10_apart_67 x y z) := by
  obtain ⟨σ, β, hR⟩ := id h
  obtain ⟨g, gB, hC, hM, hb, hm, hT, hI⟩ := id hR
  have s1 := hC.1.of
  have s2 := hM.of
  have h16 := g.2.2.2.2.1
  have hH : sH σ < 2 ^ 31 := by omega
  rcases idx x (n := sH σ) hH with ⟨k, hk, rfl⟩ | ⟨ho, hi⟩
  · obtain ⟨n1, n2⟩ := needH_t s1.2.2.1 hk hH
    rcases idx y (n := sH σ) hH with ⟨j, hj, rfl⟩ | ⟨ho, hi⟩
    · obtain ⟨m1, m2⟩ := needH_t s1.2.2.1 hj hH
      refine ans_g (L := []) (v := nI (Apt (sHol σ k) (sHol σ j) (decide (z ≠ 0)))) h ?_ ⟨_, ?_, Fr.refl⟩ rfl rfl rfl
      · simp only [fw_L_apart_0_120, t_X9_apart_0, n2, n1, m1, m2, orx, bd_some, f_L_apart_0_120, bb_L_apart_0_120_0, f_X9_apart_0, bb_X9_apart_0_0, apart_c z g hC.2.2.1 hk hj, ltv_eq]
      · obtain ⟨hM', _⟩ := hR.md (nI (Apt (sHol σ k) (sHol σ j) (decide (z ≠ 0)))).toInt64
        generalize hN : wI (wJ M 120 0 (nI (Apt (sHol σ k) (sHol σ j) (decide (z ≠ 0)))).toInt64) 67 0 0 = N at hM'
        have N0 : N.1 67 0 = 0 := by rw [← hN]; rfl
        have p1 : N.2 91 k = sHol σ k := (hM'.of.2.2.2.2.2.2 k hk).1
        have p2 : N.2 91 j = sHol σ j := (hM'.of.2.2.2.2.2.2 j hj).1
        simp only [f_X10_apart_67, bb_X10_apart_67_0, ltv_eq, hN, isH_t hM'.of.2.2.1 hk hH, isH_t hM'.of.2.2.1 hj hH, bd_some, i10, if_false, bb_X10_apart_67_27, bad0 N0, bd2_some, if_true, gd_of (inb_nI (n := 16) (show k < 16 by omega) (by decide)), gd_of (inb_nI (n := 16) (show j < 16 by omega) (by decide)), ix_nI (show k < 2 ^ 31 by omega), ix_nI (show j < 2 ^ 31 by omega), p1, p2, apart_m]
    · refine ans_t (c := 1) (w := 0) h (by decide) ?_ ?_
      · simp only [fw_L_apart_0_120, t_X9_apart_0, n2, n1, needH_f s1.2.2.1 ho, orx, bd_some]
      · simp only [f_X10_apart_67, bb_X10_apart_67_0, ltv_eq, isH_t (M := wI M 67 0 0) s2.2.2.1 hk hH, isH_f (M := wI M 67 0 0) s2.2.2.1 hi, bd_some, if_true, i10, if_false, bb_X10_apart_67_22, bb_X10_apart_67_27, bad1 (M := wI M 67 0 0) (k := 1) rfl (by decide), bd2_some]
  · refine ans_t (c := 1) (w := 0) h (by decide) ?_ ?_
    · simp only [fw_L_apart_0_120, t_X9_apart_0, needH_f s1.2.2.1 ho, orx]
    · simp only [f_X10_apart_67, bb_X10_apart_67_0, ltv_eq, isH_f (M := wI M 67 0 0) s2.2.2.1 hi, bd_some, if_true, i10, if_false, bb_X10_apart_67_22, bb_X10_apart_67_27, bad1 (M := wI M 67 0 0) (k := 1) rfl (by decide), bd2_some]
-- ===== nearest =====
/-- the first of the least of f, and it -/
def IsNr (f : Nat → Nat) (n : Nat) (v w : Int32) : Prop := (n = 0 → v = -1 ∧ w = -1) ∧ (0 < n → ∃ h, h < n ∧ v = nI h ∧ w = nI (f h) ∧ (∀ j, j < n → f h ≤ f j) ∧ ∀ j, j < h → f h < f j)
theorem IsNr.uniq {f : Nat → Nat} {n : Nat} {v w v' w' : Int32} (h1 : IsNr f n v w) (h2 : IsNr f n v' w') : v = v' ∧ w = w' := by
  by_cases e : n = 0
  · rw [(h1.1 e).1, (h1.1 e).2, (h2.1 e).1, (h2.1 e).2]
    exact ⟨rfl, rfl⟩
  · obtain ⟨h, a1, rfl, rfl, a2, a3⟩ := h1.2 (by omega)
    obtain ⟨j, b1, rfl, rfl, b2, b3⟩ := h2.2 (by omega)
    obtain rfl : h = j := by
      rcases Nat.lt_trichotomy h j with q | q | q
      · have := b3 h q
        have := a2 j b1
        omega
      · exact q
      · have := a3 j q
        have := b2 h a1
        omega
    exact ⟨rfl, rfl⟩
theorem IsNr.step {f : Nat → Nat} {n : Nat} {v w : Int32} (h : IsNr f (n + 1) v w) : (∀ j, j ≤ n → f (n + 1) < f j) → IsNr f (n + 2) (nI (n + 1)) (nI (f (n + 1))) := fun q => ⟨fun e => absurd e (by omega), fun _ => ⟨n + 1, by omega, rfl, rfl, fun j hj => by
  rcases Nat.lt_or_ge j (n + 1) with z | z
  · exact Nat.le_of_lt (q j (by omega))
  · obtain rfl : j = n + 1 := by omega
    exact Nat.le_refl _, fun j hj => q j (by omega)⟩⟩
theorem near_c {M : Mm} {σ : Sg} (x : Int64) (m : Int32) (g : Good σ) (hC : C2 σ M) : Gv (fun v => ∃ w, IsNr (fun h => Apt (sHol σ h) x (decide (m ≠ 0))) (sH σ) v w) (f_X1_nearestTo_24 x m M) := by
  have h16 := g.2.2.2.2.1
  have c : C20 σ M := hC
  let f : Nat → Nat := fun h => Apt (sHol σ h) x (decide (m ≠ 0))
  have f64 : ∀ h, f h ≤ 64 := fun h => apN_le _ _ _
  refine for_q (fun n i (a : Int32 × Int32) => b_X1_nearestTo_24_10 n x m a.1 a.2 (nI i) M) (sH σ) (fun i a => (i = 0 ∧ a = (-1, nI 65)) ∨ (0 < i ∧ IsNr f i a.1 a.2)) (Gv (fun v => ∃ w, IsNr f (sH σ) v w)) ?_ ?_ (sH σ) 0 (-1, nI 65) FU (Nat.zero_add _) (by show sH σ < 200000; omega) (Or.inl ⟨rfl, rfl⟩)
  · rintro n i ⟨a, b⟩ hi hI
    right
    show ∃ a', bb_X1_nearestTo_24_10 _ _ _ _ _ _ _ = _ ∧ _
    unfold bb_X1_nearestTo_24_10
    have hf := f64 i
    rw [c.1, if_neg (nI_ge hi (by omega)), apartF_c x m g hC hi, bd_some, ltv_eq, ltv_eq, nI_1]
    show ∃ a', (if b ≤ nI (f i) then _ else _) = _ ∧ _
    rcases hI with ⟨rfl, q⟩ | ⟨h0, q⟩
    · obtain ⟨rfl, rfl⟩ := Prod.mk.inj q
      refine ⟨(nI 0, nI (f 0)), by rw [if_neg (nI_ge (by omega) (by decide))], Or.inr ⟨by decide, fun e => absurd e (by decide), fun _ => ⟨0, by decide, rfl, rfl, fun j hj => ?_, fun j hj => absurd hj (Nat.not_lt_zero j)⟩⟩⟩
      obtain rfl : j = 0 := by omega
      exact Nat.le_refl _
    · obtain ⟨h, q1, q2, q3, q4, q5⟩ := q.2 h0
      have q2' : a = nI h := q2
      have q3' : b = nI (f h) := q3
      have fh := f64 h
      by_cases e : f h ≤ f i
      · refine ⟨(a, b), by rw [if_pos (by rw [q3']; exact nI_le e (by omega))], Or.inr ⟨by omega, fun e => absurd e (by omega), fun _ => ⟨h, by omega, q2, q3, fun j hj => ?_, q5⟩⟩⟩
        rcases Nat.lt_or_ge j i with z | z
        · exact q4 j z
        · obtain rfl : j = i := by omega
          exact e
      · refine ⟨(nI i, nI (f i)), by rw [if_neg (by rw [q3']; exact nI_ge (by omega) (by omega))], Or.inr ⟨by omega, fun e => absurd e (by omega), fun _ => ⟨i, by omega, rfl, rfl, fun j hj => ?_, fun j hj => ?_⟩⟩⟩
        · rcases Nat.lt_or_ge j i with z | z
          · have := q4 j z
            omega
          · obtain rfl : j = i := by omega
            exact Nat.le_refl _
        · have := q4 j hj
          omega
  · rintro n ⟨a, b⟩ hI
    show Gv _ (bb_X1_nearestTo_24_10 _ _ _ _ _ _ _)
    unfold bb_X1_nearestTo_24_10
    rw [c.1, if_pos (nI_le (Nat.le_refl _) (by omega))]
    rcases hI with ⟨e, q⟩ | ⟨h0, q⟩
    · obtain ⟨rfl, rfl⟩ := Prod.mk.inj q
      exact Gv.ret ⟨-1, fun _ => ⟨rfl, rfl⟩, fun z => absurd z (by omega)⟩
    · exact Gv.ret ⟨b, q⟩
theorem near_m {N : Mm} {σ : Sg} {x : Int64} {m y v w : Int32} (g : Good σ) (hM : SM σ N) (hn : IsNr (fun h => Apt (sHol σ h) x (decide (m ≠ 0))) (sH σ) v w) : b_X10_nearest_67_45 FU x m y (-1) (-1) 0 N = some (if y = 0 then v else w, N) := by
  have s := hM.of
  have h16 := g.2.2.2.2.1
  let f : Nat → Nat := fun h => Apt (sHol σ h) x (decide (m ≠ 0))
  have f64 : ∀ h, f h ≤ 64 := fun h => apN_le _ _ _
  refine for_q (fun n i (a : Int32 × Int32) => b_X10_nearest_67_45 n x m y a.1 a.2 (nI i) N) (sH σ) (fun i a => IsNr f i a.1 a.2) (fun o => o = some (if y = 0 then v else w, N)) ?_ ?_ (sH σ) 0 (-1, -1) FU (Nat.zero_add _) (by show sH σ < 200000; omega) ⟨fun _ => ⟨rfl, rfl⟩, fun e => absurd e (by omega)⟩
  · rintro n i ⟨a, b⟩ hi hI
    right
    show ∃ a', bb_X10_nearest_67_45 _ _ _ _ _ _ _ _ = _ ∧ _
    unfold bb_X10_nearest_67_45
    have hf := f64 i
    rw [s.2.2.1, if_neg (nI_ge hi (by omega)), gd_of (inb_nI (by omega) (by decide)), ix_nI (by omega), (s.2.2.2.2.2.2 i hi).1, apart_m, bd_some]
    simp only [ltv_eq, nI_1]
    show ∃ a', (if a = -1 then _ else (if nI (f i) < b then _ else _)) = _ ∧ _
    by_cases h0 : i = 0
    · subst h0
      obtain ⟨q1, q2⟩ := hI.1 rfl
      refine ⟨(nI 0, nI (f 0)), by rw [if_pos q1], fun e => absurd e (by decide), fun _ => ⟨0, by decide, rfl, rfl, fun j hj => ?_, fun j hj => absurd hj (Nat.not_lt_zero j)⟩⟩
      obtain rfl : j = 0 := by omega
      exact Nat.le_refl _
    · obtain ⟨h, q1, q2, q3, q4, q5⟩ := hI.2 (by omega)
      have q2' : a = nI h := q2
      have q3' : b = nI (f h) := q3
      have fh := f64 h
      have na : ¬ a = -1 := by rw [q2']; exact m1_ne (by omega)
      by_cases e : f h ≤ f i
      · refine ⟨(a, b), by rw [if_neg na, if_neg (by rw [q3']; exact nI_nlt e (by omega))], fun e => absurd e (by omega), fun _ => ⟨h, by omega, q2, q3, fun j hj => ?_, q5⟩⟩
        rcases Nat.lt_or_ge j i with z | z
        · exact q4 j z
        · obtain rfl : j = i := by omega
          exact e
      · refine ⟨(nI i, nI (f i)), by rw [if_neg na, if_pos (by rw [q3']; exact nI_lt (by omega) (by omega))], fun e => absurd e (by omega), fun _ => ⟨i, by omega, rfl, rfl, fun j hj => ?_, fun j hj => ?_⟩⟩
        · rcases Nat.lt_or_ge j i with z | z
          · have := q4 j z
            omega
          · obtain rfl : j = i := by omega
            exact Nat.le_refl _
        · have := q4 j hj
          omega
  · rintro n ⟨a, b⟩ hI
    obtain ⟨rfl, rfl⟩ := IsNr.uniq hI hn
    show bb_X10_nearest_67_45 _ _ _ _ _ _ _ _ = _
    unfold bb_X10_nearest_67_45
    rw [s.2.2.1, if_pos (nI_le (Nat.le_refl _) (by omega))]
    by_cases e : y = 0
    · rw [if_pos e, if_pos e]
    · rw [if_neg e, if_neg e]
theorem c_nearest {M : Mm} (x : Int64) (z y : Int32) (h : Rel M) : AnsI (fw_L_nearest_0_120 x z y M) (f_X10_nearest_67 x z y) := by
  obtain ⟨σ, β, hR⟩ := id h
  obtain ⟨g, gB, hC, hM, hb, hm, hT, hI⟩ := id hR
  have h16 := g.2.2.2.2.1
  by_cases hx : x = 0
  · refine ans_t (c := 1) (w := 0) h (by decide) ?_ ?_
    · simp only [fw_L_nearest_0_120, t_X9_nearest_0, if_pos hx]
    · simp only [f_X10_nearest_67, bb_X10_nearest_67_0, ltv_eq, if_pos hx, bb_X10_nearest_67_22, bb_X10_nearest_67_27, bad1 (M := wI M 67 0 0) (k := 1) rfl (by decide), bd2_some, i10, if_false]
  · cases hy : inI y 0 1 with
    | false =>
      refine ans_t (c := 1) (w := 0) h (by decide) ?_ ?_
      · simp only [fw_L_nearest_0_120, t_X9_nearest_0, if_neg hx, t_needR_f hy, orx]
      · simp only [f_X10_nearest_67, bb_X10_nearest_67_0, ltv_eq, if_neg hx, f_inI, hy, bd_some, Bool.false_eq_true, if_false, if_true, bb_X10_nearest_67_22, bb_X10_nearest_67_27, bad1 (M := wI M 67 0 0) (k := 1) rfl (by decide), bd2_some, i10]
    | true =>
      obtain ⟨v, e1, w, hn⟩ := near_c x z g hC.2.2.1
      have cl : f_X9_nearest_0 x z y M = some (if y = 0 then v else w) := by
        unfold f_X9_nearest_0 bb_X9_nearest_0_0
        rw [if_neg hx, f_needR hy, bd_some, e1, bd_some]
        by_cases y0 : y = 0
        · rw [if_pos y0, if_pos y0]
        · rw [if_neg y0, if_neg y0]
          by_cases h0 : sH σ = 0
          · obtain ⟨q1, q2⟩ := hn.1 h0
            rw [q1, q2, if_pos rfl]
          · obtain ⟨k, q1, q2, q3, _, _⟩ := hn.2 (by omega)
            rw [q2, if_neg (m1_ne (by omega)), apartF_c x z g hC.2.2.1 q1, q3]
            rfl
      refine ans_g (L := []) (v := if y = 0 then v else w) h ?_ ⟨_, ?_, Fr.refl⟩ rfl rfl rfl
      · simp only [fw_L_nearest_0_120, t_X9_nearest_0, if_neg hx, t_needR_t hy, orx, f_L_nearest_0_120, bb_L_nearest_0_120_0, cl, bd_some, ltv_eq]
      · generalize ho : (if y = 0 then v else w).toInt64 = o
        obtain ⟨hM', _⟩ := hR.md o
        generalize hN : wI (wJ M 120 0 o) 67 0 0 = N at hM'
        have N0 : N.1 67 0 = 0 := by rw [← hN]; rfl
        simp only [f_X10_nearest_67, bb_X10_nearest_67_0, ltv_eq, hN, if_neg hx, f_inI, hy, bd_some, if_true, i10, if_false, bb_X10_nearest_67_27, bad0 N0, bd2_some]
        exact near_m g hM' hn
-- ===== black =====
theorem black_m {N : Mm} {σ : Sg} {k : Nat} (gr : Nat) (g : Good σ) (hM : SM σ N) (hk : k < sL σ) : f_X10_blackOf_67 (nI k) (nI gr) N = some (nI (Blk σ gr k)) := by
  have hL := g.1
  unfold f_X10_blackOf_67 bb_X10_blackOf_67_0
  rw [gd_of (inb_nI (by omega) (by decide)), ix_nI (by omega), f_ones, bd_some, edge_m (by omega), bd_some, hM.of.2.2.2.1 k hk, pk_mul, show (16 : Int32) * nI (pop (sInk σ k)) = nI (16 * pop (sInk σ k)) from pk_mul 16 _, nI_add]
  rfl
theorem black_c {M : Mm} {σ : Sg} {k : Nat} (gr : Nat) (g : Good σ) (hC : C4 σ M) (hk : k < sL σ) : f_X6_blackOf_34 (nI k) (nI gr) M = some (nI (Blk σ gr k)) := by
  have hL := g.1
  have c : C40 σ M := hC
  unfold f_X6_blackOf_34 bb_X6_blackOf_34_0
  rw [if_neg (nI_pos (by omega)), if_neg (show ¬ (10 : Int32) ≤ nI k from nI_ge (b := 10) (by omega) (by decide)), gd_of (inb_nI (by omega) (by decide)), gd_of (inb_nI (by omega) (by decide)), ix_nI (by omega), (c.2.2.1 k hk).1, (c.2.2.1 k hk).2.1, pk_mul, show (16 : Int32) * nI (pop (sInk σ k)) = nI (16 * pop (sInk σ k)) from pk_mul 16 _, nI_add]
  rfl
theorem inI_19 {y : Int32} (h : inI y 1 9 = true) : ∃ z, y = nI z ∧ 1 ≤ z ∧ z ≤ 9 := inI_nI (b := 1) (c := 9) (by decide) h (by decide)
theorem c_black {M : Mm} (x y : Int32) (h : Rel M) : AnsI (fw_L_black_0_120 x y M) (f_X10_black_67 x y) := by
  obtain ⟨σ, β, hR⟩ := id h
  obtain ⟨g, gB, hC, hM, hb, hm, hT, hI⟩ := id hR
  have s1 := hC.1.of
  have s2 := hM.of
  have hL : sL σ < 2 ^ 31 := by have := g.1; omega
  rcases idx x (n := sL σ) hL with ⟨k, hk, rfl⟩ | ⟨ho, hi⟩
  · obtain ⟨n1, n2⟩ := needL_t s1.1 hk hL
    have hk10 : k < 10 := by have := g.1; omega
    cases hy : inI y 1 9 with
    | false =>
      refine ans_t (c := 2) (w := 0) h (by decide) ?_ ?_
      · simp only [fw_L_black_0_120, t_X9_black_0, n2, n1, orx, bd_some, t_needR_f hy]
      · simp only [f_X10_black_67, bb_X10_black_67_0, ltv_eq, isL_t (M := wI M 67 0 0) s2.1 hk hL, bd_some, i10, if_false, bb_X10_black_67_19, bad0 (M := wI M 67 0 0) rfl, bd2_some, if_true, f_inI, hy, bb_X10_black_67_42, bad1 (M := wI M 67 0 0) (k := 2) rfl (by decide), Bool.false_eq_true]
    | true =>
      obtain ⟨z, rfl, z1, z9⟩ := inI_19 hy
      refine ans_g (L := []) (v := nI (Blk σ (sSpr σ z) k)) h ?_ ⟨_, ?_, Fr.refl⟩ rfl rfl rfl
      · simp only [fw_L_black_0_120, t_X9_black_0, n2, n1, orx, bd_some, t_needR_t hy, f_L_black_0_120, bb_L_black_0_120_0, f_X9_black_0, bb_X9_black_0_0, f_needR hy, gd_of (inb_nI (n := 10) (show z < 10 by omega) (by decide)), ix_nI (show z < 2 ^ 31 by omega), s1.2.2.2.2.2.1 z (by omega), black_c _ g hC.2.2.2.2.1 hk, ltv_eq]
      · obtain ⟨hM', _⟩ := hR.md (nI (Blk σ (sSpr σ z) k)).toInt64
        generalize hN : wI (wJ M 120 0 (nI (Blk σ (sSpr σ z) k)).toInt64) 67 0 0 = N at hM'
        have N0 : N.1 67 0 = 0 := by rw [← hN]; rfl
        simp only [f_X10_black_67, bb_X10_black_67_0, ltv_eq, hN, isL_t hM'.of.1 hk hL, bd_some, i10, if_false, bb_X10_black_67_19, bad0 N0, bd2_some, if_true, f_inI, hy, bb_X10_black_67_42, gd_of (inb_nI (n := 10) (show z < 10 by omega) (by decide)), ix_nI (show z < 2 ^ 31 by omega), hM'.of.2.2.2.2.2.1 z (by omega), black_m _ g hM' hk]
  · refine ans_t (c := 1) (w := 0) h (by decide) ?_ ?_
    · simp only [fw_L_black_0_120, t_X9_black_0, needL_f s1.1 ho, orx]
    · simp only [f_X10_black_67, bb_X10_black_67_0, ltv_eq, isL_f (M := wI M 67 0 0) s2.1 hi, bd_some, if_true, bb_X10_black_67_19, bad1 (M := wI M 67 0 0) (k := 1) rfl (by decide), bd2_some, i10, if_false]
