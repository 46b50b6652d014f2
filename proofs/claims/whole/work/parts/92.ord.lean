-- ===== the model puts acts in order =====
def RqA (N : Mm) (T : Nat → It) (n : Nat) : Prop := ∀ j, j < n → N.1 106 j = nI (T j).1 ∧ N.1 104 j = nI (iT (T j)) ∧ N.1 105 j = nI (iF (T j))
def LSO : List (Nat × Nat) := [(104, 999), (105, 999), (106, 999)]
theorem later_m {N : Mm} {T : Nat → It} {n i : Nat} (hR : RqA N T n) (hn : n ≤ 60) (hi : i + 1 < n) (h1 : itOk (T i)) (h2 : itOk (T (i + 1))) : (leI (T i) (T (i + 1)) → f_X10_isLater_67 (nI i) (nI (i + 1)) N = some 0) ∧ (¬ leI (T i) (T (i + 1)) → f_X10_isLater_67 (nI i) (nI (i + 1)) N = some 1) := by
  obtain ⟨_, a1, a2⟩ := hR i (by omega)
  obtain ⟨_, b1, b2⟩ := hR (i + 1) hi
  have i64 : inb (nI i) 64 = true := inb_nI (by omega) (by decide)
  have j64 : inb (nI (i + 1)) 64 = true := inb_nI (by omega) (by decide)
  have hle := le_tf h1.2 h2.2
  unfold f_X10_isLater_67 bb_X10_isLater_67_0 bb_X10_isLater_67_18
  simp only [gd_of i64, gd_of j64, ix_nI (show i < 2 ^ 31 by omega), ix_nI (show i + 1 < 2 ^ 31 by omega), a1, a2, b1, b2]
  have f1 := h1.2.2
  have f2 := h2.2.2
  have t1 := h1.1
  have t2 := h2.1
  have z1 := nI_z0 (show iF (T i) < 2 ^ 31 by omega)
  have z2 := nI_z0 (show iF (T (i + 1)) < 2 ^ 31 by omega)
  by_cases c1 : iF (T i) = 0
  · rw [if_pos (z1.mpr c1), if_pos (z1.mpr c1)]
    have lei : leI (T i) (T (i + 1)) ↔ iF (T (i + 1)) = 0 := by
      unfold leI
      rw [c1, Nat.mul_zero, Nat.le_zero, Nat.mul_eq_zero]
      omega
    by_cases c2 : iF (T (i + 1)) = 0
    · rw [c2]
      refine ⟨fun _ => by rw [if_pos (by decide)], fun q => absurd (lei.mpr c2) q⟩
    · refine ⟨fun q => absurd (lei.mp q) c2, fun _ => by rw [if_neg (nI_nle (by omega) (by omega))]⟩
  · rw [if_neg (fun z => c1 (z1.mp z)), if_neg (fun z => c1 (z1.mp z))]
    by_cases c2 : iF (T (i + 1)) = 0
    · have lei : leI (T i) (T (i + 1)) := by
        unfold leI
        rw [c2, Nat.mul_zero]
        exact Nat.zero_le _
      rw [if_pos (z2.mpr c2)]
      exact ⟨fun _ => rfl, fun q => absurd lei q⟩
    · rw [if_neg (fun z => c2 (z2.mp z))]
      refine ⟨fun q => by rw [if_pos (hle.mpr q)], fun q => by rw [if_neg (fun z => q (hle.mp z))]⟩
theorem swap_104 {N : Mm} {i : Nat} (hi : i < 60) : f_X10_swaps_67_104 (nI i) N = some (wI (wI N 104 i (N.1 104 (i + 1))) 104 (i + 1) (N.1 104 i)) := by
  unfold f_X10_swaps_67_104 bb_X10_swaps_67_104_0
  simp only [nI_1, gd_of (inb_nI (n := 64) (show i < 64 by omega) (by decide)), gd_of (inb_nI (n := 64) (show i + 1 < 64 by omega) (by decide)), ltv_eq, ix_nI (show i < 2 ^ 31 by omega), ix_nI (show i + 1 < 2 ^ 31 by omega)]
theorem swap_105 {N : Mm} {i : Nat} (hi : i < 60) : f_X10_swaps_67_105 (nI i) N = some (wI (wI N 105 i (N.1 105 (i + 1))) 105 (i + 1) (N.1 105 i)) := by
  unfold f_X10_swaps_67_105 bb_X10_swaps_67_105_0
  simp only [nI_1, gd_of (inb_nI (n := 64) (show i < 64 by omega) (by decide)), gd_of (inb_nI (n := 64) (show i + 1 < 64 by omega) (by decide)), ltv_eq, ix_nI (show i < 2 ^ 31 by omega), ix_nI (show i + 1 < 2 ^ 31 by omega)]
theorem swap_106 {N : Mm} {i : Nat} (hi : i < 60) : f_X10_swaps_67_106 (nI i) N = some (wI (wI N 106 i (N.1 106 (i + 1))) 106 (i + 1) (N.1 106 i)) := by
  unfold f_X10_swaps_67_106 bb_X10_swaps_67_106_0
  simp only [nI_1, gd_of (inb_nI (n := 64) (show i < 64 by omega) (by decide)), gd_of (inb_nI (n := 64) (show i + 1 < 64 by omega) (by decide)), ltv_eq, ix_nI (show i < 2 ^ 31 by omega), ix_nI (show i + 1 < 2 ^ 31 by omega)]
theorem sw_cell {N : Mm} {c i : Nat} {f : Nat → Nat} {n : Nat} (h : ∀ j, j < n → N.1 c j = nI (f j)) (hi : i + 1 < n) : ∀ j, j < n → (wI (wI N c i (N.1 c (i + 1))) c (i + 1) (N.1 c i)).1 c j = nI (if j = i then f (i + 1) else if j = i + 1 then f i else f j) := by
  intro j hj
  by_cases e1 : j = i + 1
  · subst e1
    rw [wI_at, if_neg (by omega), if_pos rfl, h i (by omega)]
  · rw [wI_i e1]
    by_cases e2 : j = i
    · subst e2
      rw [wI_at, if_pos rfl, h (j + 1) hi]
    · rw [wI_i e2, if_neg e2, if_neg e1, h j hj]
theorem swp_fst {T : Nat → It} {i j : Nat} {α : Type} (f : It → α) : f (swp T i j) = if j = i then f (T (i + 1)) else if j = i + 1 then f (T i) else f (T j) := by
  unfold swp
  by_cases e1 : j = i
  · rw [if_pos e1, if_pos e1]
  · rw [if_neg e1, if_neg e1]
    by_cases e2 : j = i + 1
    · rw [if_pos e2, if_pos e2]
    · rw [if_neg e2, if_neg e2]
theorem swaps_m {N : Mm} {T : Nat → It} {n i : Nat} (hR : RqA N T n) (hn : n ≤ 60) (hi : i + 1 < n) : ∃ N1 N2 N3, f_X10_swaps_67_104 (nI i) N = some N1 ∧ f_X10_swaps_67_105 (nI i) N1 = some N2 ∧ f_X10_swaps_67_106 (nI i) N2 = some N3 ∧ Fr LSO N N3 ∧ RqA N3 (swp T i) n := by
  refine ⟨_, _, _, swap_104 (by omega), swap_105 (by omega), swap_106 (by omega), Fr.tr (Fr.tr (Fr.wIa rfl) (Fr.wIa rfl)) (Fr.tr (Fr.tr (Fr.wIa rfl) (Fr.wIa rfl)) (Fr.tr (Fr.wIa rfl) (Fr.wIa rfl))), fun j hj => ⟨?_, ?_, ?_⟩⟩
  · refine (sw_cell (f := fun j => (T j).1) (n := n) (fun j hj => (hR j hj).1) hi j hj).trans ?_
    rw [swp_fst (fun a => a.1)]
  · rw [wI_c (by decide), wI_c (by decide), wI_c (by decide), wI_c (by decide), sw_cell (f := fun j => iT (T j)) (fun j hj => (hR j hj).2.1) hi j hj, swp_fst iT]
  · rw [wI_c (by decide), wI_c (by decide)]
    refine (sw_cell (f := fun j => iF (T j)) (n := n) (fun j hj => (hR j hj).2.2) hi j hj).trans ?_
    rw [swp_fst iF]
/-- a state of the sort -/
def SoI (N : Mm) (T0 : Nat → It) (p n : Nat) (a : Mm) (T : Nat → It) : Prop := Fr LSO N a ∧ RqA a T n ∧ PosI T p n ∧ (∀ x : It, 0 < iT x → (lst T p (n - p)).filter (eqv x) = (lst T0 p (n - p)).filter (eqv x)) ∧ ∀ j, j < p → T j = T0 j
theorem pass_m {N a : Mm} {T0 T : Nat → It} {p n k : Nat} (k2 : Int32 → Int32 → Mm → Option Mm) (y : Int32) (hn : n ≤ 60) (hp : p < n) (h41 : N.1 67 41 = nI n) (h : SoI N T0 p n a T) (hQ : Qk T p n k) : ∃ a' T', b_X10_sorts_67_12 k2 FU (nI p) y (nI p) a = k2 (nI p) (y + 1) a' ∧ SoI N T0 p n a' T' ∧ Qk T' p n (k + 1) := by
  obtain ⟨m, rfl⟩ : ∃ m, n = p + m + 1 := ⟨n - p - 1, by omega⟩
  refine for_q (fun q d (b : Mm) => b_X10_sorts_67_12 k2 q (nI p) y (nI (p + d)) b) m (fun d b => ∃ T1, SoI N T0 p (p + m + 1) b T1 ∧ Pk T1 p (p + m + 1) k (p + d)) (fun o => ∃ a' T', o = k2 (nI p) (y + 1) a' ∧ SoI N T0 p (p + m + 1) a' T' ∧ Qk T' p (p + m + 1) (k + 1)) ?_ ?_ m 0 a FU (Nat.zero_add _) (by show m < 200000; omega) ⟨T, h, Pk.start hQ⟩
  · rintro q d b hd ⟨T1, s1, p1⟩
    right
    obtain ⟨f1, r1, o1, l1, k1⟩ := s1
    have b41 : b.1 67 41 = nI (p + m + 1) := ((f1 67 41 rfl).1).trans h41
    have hi : p + d + 1 < p + m + 1 := by omega
    obtain ⟨la, lb'⟩ := later_m r1 hn hi (o1 (p + d) (by omega) (by omega)) (o1 (p + d + 1) (by omega) hi)
    show ∃ a', bb_X10_sorts_67_12 _ _ _ _ _ _ = b_X10_sorts_67_12 k2 q (nI p) y (nI (p + d + 1)) a' ∧ ∃ T1, SoI N T0 p (p + m + 1) a' T1 ∧ Pk T1 p (p + m + 1) k (p + d + 1)
    unfold bb_X10_sorts_67_12
    rw [b41, nI_1, if_neg (nI_ge hi (by omega))]
    by_cases c : leI (T1 (p + d)) (T1 (p + d + 1))
    · rw [la c, bd_some, if_pos rfl, ltv_eq]
      exact ⟨b, rfl, T1, ⟨f1, r1, o1, l1, k1⟩, p1.stay o1 (by omega) hi c⟩
    · obtain ⟨N1, N2, N3, e1, e2, e3, f2, r2⟩ := swaps_m r1 hn hi
      rw [lb' c, bd_some, if_neg (by decide), e1, bd_some, e2, bd_some, e3, bd_some, ltv_eq]
      refine ⟨N3, rfl, swp T1 (p + d), ⟨Fr.tr f1 f2, r2, o1.swp (by omega) hi, fun x hx => ?_, fun j hj => ?_⟩, p1.swap o1 (by omega) hi c⟩
      · rw [swp_flt (by omega) (by omega) c hx]
        exact l1 x hx
      · rw [swp_o (by omega) (by omega)]
        exact k1 j hj
  · rintro q b ⟨T1, s1, p1⟩
    have b41 : b.1 67 41 = nI (p + m + 1) := ((s1.1 67 41 rfl).1).trans h41
    show ∃ a' T', bb_X10_sorts_67_12 _ _ _ _ _ _ = _ ∧ _
    unfold bb_X10_sorts_67_12
    rw [b41, nI_1, if_pos (nI_le (Nat.le_refl _) (by omega)), ltv_eq]
    exact ⟨b, T1, rfl, s1, p1.2.2 (by omega)⟩
theorem sorts_m {N : Mm} {T0 : Nat → It} {p n : Nat} (hn : n ≤ 60) (hp : p ≤ n) (h41 : N.1 67 41 = nI n) (hR : RqA N T0 n) (hP : PosI T0 p n) : ∃ N' T', f_X10_sorts_67 (nI p) N = some N' ∧ SoI N T0 p n N' T' ∧ Srt T' p n := by
  obtain ⟨m, rfl⟩ : ∃ m, n = p + m := ⟨n - p, by omega⟩
  refine for_q (fun q d (b : Mm) => b_X10_sorts_67_2 q (nI p) (nI (p + d)) b) m (fun d b => ∃ T1, SoI N T0 p (p + m) b T1 ∧ Qk T1 p (p + m) d) (fun o => ∃ N' T', o = some N' ∧ SoI N T0 p (p + m) N' T' ∧ Srt T' p (p + m)) ?_ ?_ m 0 N FU (Nat.zero_add _) (by show m < 200000; omega) ⟨T0, ⟨Fr.refl, hR, hP, fun x _ => rfl, fun j _ => rfl⟩, fun i j h1 h2 h3 h4 => by omega⟩
  · rintro q d b hd ⟨T1, s1, q1⟩
    right
    have b41 : b.1 67 41 = nI (p + m) := ((s1.1 67 41 rfl).1).trans h41
    obtain ⟨a', T', e1, e2, e3⟩ := pass_m (b_X10_sorts_67_2 q) (nI (p + d)) hn (by omega) h41 s1 q1
    refine ⟨a', ?_, T', e2, e3⟩
    show bb_X10_sorts_67_2 _ _ _ _ = _
    unfold bb_X10_sorts_67_2
    rw [b41, if_neg (nI_ge (by omega) (by omega)), e1, nI_1]
    rfl
  · rintro q b ⟨T1, s1, q1⟩
    have b41 : b.1 67 41 = nI (p + m) := ((s1.1 67 41 rfl).1).trans h41
    show ∃ N' T', bb_X10_sorts_67_2 _ _ _ _ = _ ∧ _
    unfold bb_X10_sorts_67_2
    rw [b41, if_pos (nI_le (Nat.le_refl _) (by omega))]
    exact ⟨b, T1, rfl, s1, fun i h1 h2 => q1 i (i + 1) h1 (by omega) h2 (by omega)⟩
def pshT (T : Nat → It) (n : Nat) (w : It) : Nat → It := fun j => if j = n then w else T j
theorem puts_m {N : Mm} {T : Nat → It} {n : Nat} (w : It) (hn : n < 60) (h41 : N.1 67 41 = nI n) (hR : RqA N T n) : ∃ N', f_X10_puts_67 (nI w.1) (nI (iT w)) (nI (iF w)) N = some N' ∧ Fr (LSO ++ [(67, 41)]) N N' ∧ N'.1 67 41 = nI (n + 1) ∧ RqA N' (pshT T n w) (n + 1) := by
  refine ⟨wI (wI (wI (wI N 104 n (nI (iT w))) 105 n (nI (iF w))) 106 n (nI w.1)) 67 41 (nI (n + 1)), ?_, Fr.tr (Fr.wIa rfl) (Fr.tr (Fr.wIa rfl) (Fr.tr (Fr.wIa rfl) (Fr.wrI rfl))), wI_at, fun j hj => ?_⟩
  · unfold f_X10_puts_67 bb_X10_puts_67_0
    have n64 : inb (nI n) 64 = true := inb_nI (by omega) (by decide)
    rw [h41, gd_of n64, ltv_eq, ix_nI (by omega), show (wI N 104 n (nI (iT w))).1 67 41 = nI n from h41, gd_of n64, ltv_eq, ix_nI (by omega), show (wI (wI N 104 n (nI (iT w))) 105 n (nI (iF w))).1 67 41 = nI n from h41, gd_of n64, ltv_eq, ltv_eq, ix_nI (by omega), show (wI (wI (wI N 104 n (nI (iT w))) 105 n (nI (iF w))) 106 n (nI w.1)).1 67 41 = nI n from h41, nI_1]
  · unfold pshT
    by_cases e : j = n
    · subst e
      rw [if_pos rfl]
      refine ⟨?_, ?_, ?_⟩
      · rw [wI_c (by decide), wI_at]
      · rw [wI_c (by decide), wI_c (by decide), wI_c (by decide), wI_at]
      · rw [wI_c (by decide), wI_c (by decide), wI_at]
    · rw [if_neg e]
      obtain ⟨q1, q2, q3⟩ := hR j (by omega)
      refine ⟨?_, ?_, ?_⟩
      · rw [wI_c (by decide), wI_i e, wI_i e, wI_i e]
        exact q1
      · rw [wI_c (by decide), wI_i e, wI_i e, wI_i e]
        exact q2
      · rw [wI_c (by decide), wI_i e, wI_i e, wI_i e]
        exact q3
theorem psh_lst {T : Nat → It} {w : It} {p m : Nat} : lst (pshT T (p + m) w) p (m + 1) = lst T p m ++ [w] := by
  rw [lst_snoc]
  congr 1
  · exact lst_cong _ _ (fun j h1 h2 => if_neg (by omega))
  · show [if p + m = p + m then w else T (p + m)] = [w]
    rw [if_pos rfl]
/-- the model's acts from p on, not yet in order: L -/
def MoS (a : Mm) (T : Nat → It) (p : Nat) (L : List It) : Prop := a.1 67 41 = nI (p + L.length) ∧ RqA a T (p + L.length) ∧ PosI T p (p + L.length) ∧ lst T p L.length = L
theorem MoS.push {a : Mm} {T : Nat → It} {p : Nat} {L : List It} {w : It} (hw : itOk w) (hn : p + L.length < 60) (h : MoS a T p L) : ∃ a', f_X10_puts_67 (nI w.1) (nI (iT w)) (nI (iF w)) a = some a' ∧ Fr (LSO ++ [(67, 41)]) a a' ∧ MoS a' (pshT T (p + L.length) w) p (L ++ [w]) := by
  obtain ⟨h1, h2, h3, h4⟩ := h
  obtain ⟨a', e1, f1, g1, g2⟩ := puts_m w hn h1 h2
  have hl : (L ++ [w]).length = L.length + 1 := List.length_append
  refine ⟨a', e1, f1, by rw [hl]; exact g1, by rw [hl]; exact g2, fun j j1 j2 => ?_, ?_⟩
  · rw [hl] at j2
    unfold pshT
    by_cases e : j = p + L.length
    · rw [if_pos e]
      exact hw
    · rw [if_neg e]
      exact h3 j j1 (by omega)
  · rw [hl, psh_lst, h4]
theorem bl_len (σ : Sg) (p c : Nat) : ∀ h, (blL σ p c h).length ≤ h
  | 0 => Nat.le_refl _
  | h + 1 => by
    have := bl_len σ p c h
    unfold blL
    split
    · rw [List.length_append]
      show _ + 1 ≤ _
      omega
    · omega
theorem bi_len (ink : Int64) (S s : Nat) : ∀ l, (biL ink S s l).length ≤ l
  | 0 => Nat.le_refl _
  | l + 1 => by
    have := bi_len ink S s l
    unfold biL
    split
    · rw [List.length_append]
      show _ + 1 ≤ _
      omega
    · omega
def LFO : List (Nat × Nat) := LSO ++ [(67, 41)] ++ LMD
theorem order_m {N : Mm} {σ : Sg} {p c s S : Nat} (g : Good σ) (hM : SM σ N) (hp : p < sL σ) (hc : c ≤ 15) (hs : s ≤ 15) (hS : IsLns (sInk σ p) S) : ∃ v N' T, f_X10_findOrder_67 (nI p) (nI c) (nI s) N = some (v, N') ∧ Fr LFO N N' ∧ N'.1 67 41 = nI ((blL σ p c (sH σ)).length + (biL (sInk σ p) S s 32).length) ∧ v = (if (blL σ p c (sH σ)).length + (biL (sInk σ p) S s 32).length ≤ 11 then 1 else 0) ∧ RqA N' T ((blL σ p c (sH σ)).length + (biL (sInk σ p) S s 32).length) ∧ SS T 0 (blL σ p c (sH σ)) ∧ SS T (blL σ p c (sH σ)).length (biL (sInk σ p) S s 32) := by
  have hL := g.1
  have h16 := g.2.2.2.2.1
  have bl := bl_len σ p c (sH σ)
  have bi := bi_len (sInk σ p) S s 32
  generalize hL1 : blL σ p c (sH σ) = L1 at *
  -- the bites, then the end
  have part2 : ∀ (b : Mm) (T : Nat → It), Fr LFO N b → RcM (sInk σ p) b → b.1 67 41 = nI L1.length → RqA b T L1.length → SS T 0 L1 → ∃ v N' T, b_X10_findOrder_67_118 FU (nI s) (nI L1.length) (nI S) 0 b = some (v, N') ∧ Fr LFO N N' ∧ N'.1 67 41 = nI (L1.length + (biL (sInk σ p) S s 32).length) ∧ v = (if L1.length + (biL (sInk σ p) S s 32).length ≤ 11 then 1 else 0) ∧ RqA N' T (L1.length + (biL (sInk σ p) S s 32).length) ∧ SS T 0 L1 ∧ SS T L1.length (biL (sInk σ p) S s 32) := by
    intro b T fb rc b41 rb ss
    refine for_q (fun q l (a : Mm) => b_X10_findOrder_67_118 q (nI s) (nI L1.length) (nI S) (nI l) a) 32 (fun l a => Fr LFO N a ∧ Fr (LSO ++ [(67, 41)]) b a ∧ ∃ T1, MoS a T1 L1.length (biL (sInk σ p) S s l) ∧ ∀ j, j < L1.length → T1 j = T j) (fun o => ∃ v N' T, o = some (v, N') ∧ Fr LFO N N' ∧ N'.1 67 41 = nI (L1.length + (biL (sInk σ p) S s 32).length) ∧ v = (if L1.length + (biL (sInk σ p) S s 32).length ≤ 11 then 1 else 0) ∧ RqA N' T (L1.length + (biL (sInk σ p) S s 32).length) ∧ SS T 0 L1 ∧ SS T L1.length (biL (sInk σ p) S s 32)) ?_ ?_ 32 0 b FU rfl (by decide) ⟨fb, Fr.refl, T, ⟨b41, rb, fun j j1 j2 => absurd j2 (by show ¬ j < L1.length + 0; omega), rfl⟩, fun j _ => rfl⟩
    · rintro q l a hl ⟨f1, f2, T1, m1, k1⟩
      right
      have hlen := bi_len (sInk σ p) S s l
      show ∃ a', bb_X10_findOrder_67_118 _ _ _ _ _ _ = _ ∧ Fr LFO N a' ∧ Fr (LSO ++ [(67, 41)]) b a' ∧ ∃ T1, MoS a' T1 L1.length (if S.testBit l then biL (sInk σ p) S s l ++ [(100 + l, pop (Tk (sInk σ p) l), s)] else biL (sInk σ p) S s l) ∧ ∀ j, j < L1.length → T1 j = T j
      unfold bb_X10_findOrder_67_118
      rw [if_neg (show ¬ (32 : Int32) ≤ nI l from nI_ge (b := 32) hl (by decide))]
      cases hb : S.testBit l with
      | false =>
        rw [if_neg (fun z => by rw [(b32_1 hl).mp z] at hb; cases hb), ltv_eq, nI_1]
        exact ⟨a, rfl, f1, f2, T1, m1, k1⟩
      | true =>
        obtain ⟨a', e1, f3, m3⟩ := m1.push (bi_ok hS hl hb hs) (by omega)
        have q99 : a.2 99 l = Tk (sInk σ p) l := ((f2 99 l rfl).2).trans (rc.2 l hl)
        rw [if_pos ((b32_1 hl).mpr hb), gd_of (inb_nI hl (by decide)), ix_nI (by omega), q99, f_ones, bd_some, show (100 : Int32) + nI l = nI (100 + l) from nI_add 100 l, e1, bd_some, ltv_eq, nI_1]
        refine ⟨a', rfl, Fr.tr f1 (Fr.sub f3 (by decide)), Fr.tr f2 f3, _, m3, fun j hj => ?_⟩
        rw [← k1 j hj]
        exact if_neg (by omega)
    · rintro q a ⟨f1, f2, T1, ⟨a41, ra, pa, la⟩, k1⟩
      generalize biL (sInk σ p) S s 32 = L2 at *
      obtain ⟨N', T', e1, ⟨fs, rs, ps, ls, ks⟩, srt⟩ := sorts_m (p := L1.length) (n := L1.length + L2.length) (by omega) (by omega) a41 ra pa
      have n41 : N'.1 67 41 = nI (L1.length + L2.length) := ((fs 67 41 rfl).1).trans a41
      refine ⟨if L1.length + L2.length ≤ 11 then 1 else 0, N', T', ?_, Fr.tr f1 (Fr.sub fs (by decide)), n41, rfl, rs, ss.cong (fun j _ h2 => by rw [ks j (by omega), k1 j (by omega)]), ps, srt, fun x hx => ?_⟩
      · show bb_X10_findOrder_67_118 _ _ _ _ _ _ = _
        unfold bb_X10_findOrder_67_118
        rw [if_pos (by decide), e1, bd_some, n41]
        by_cases h11 : L1.length + L2.length ≤ 11
        · rw [if_neg (show ¬ (11 : Int32) < nI (L1.length + L2.length) from nI_nlt (a := 11) h11 (by decide)), if_pos h11]
        · rw [if_pos (show (11 : Int32) < nI (L1.length + L2.length) from nI_lt (a := 11) (by omega) (by omega)), if_neg h11]
      · have e := ls x hx
        rw [show L1.length + L2.length - L1.length = L2.length by omega, la] at e
        exact e
  unfold f_X10_findOrder_67 bb_X10_findOrder_67_0
  rw [ltv_eq]
  refine for_q (fun q h (a : Mm) => b_X10_findOrder_67_8 q (nI p) (nI c) (nI s) (nI h) a) (sH σ) (fun h a => Fr (LSO ++ [(67, 41)]) N a ∧ ∃ T1, MoS a T1 0 (blL σ p c h)) (fun o => ∃ v N' T, o = some (v, N') ∧ Fr LFO N N' ∧ N'.1 67 41 = nI (L1.length + (biL (sInk σ p) S s 32).length) ∧ v = (if L1.length + (biL (sInk σ p) S s 32).length ≤ 11 then 1 else 0) ∧ RqA N' T (L1.length + (biL (sInk σ p) S s 32).length) ∧ SS T 0 L1 ∧ SS T L1.length (biL (sInk σ p) S s 32)) ?_ ?_ (sH σ) 0 _ FU (Nat.zero_add _) (by show _ < 200000; omega) ⟨Fr.wrI rfl, fun _ => (0, 0, 0), wI_at, fun j hj => absurd hj (Nat.not_lt_zero _), fun j j1 j2 => absurd j2 (Nat.not_lt_zero _), rfl⟩
  · rintro q h a hh ⟨f1, T1, m1⟩
    right
    have hlen := bl_len σ p c h
    have sm := (hM.fr f1 (by decide)).of
    have ho := (g.2.2.2.2.2 h hh).1
    have hpl := pop_le (sHol σ h)
    have i16 : inb (nI h) 16 = true := inb_nI (by omega) (by decide)
    show ∃ a', bb_X10_findOrder_67_8 _ _ _ _ _ _ = _ ∧ Fr (LSO ++ [(67, 41)]) N a' ∧ ∃ T1, MoS a' T1 0 (if sOwn σ h = p then blL σ p c h ++ [blI σ c h] else blL σ p c h)
    unfold bb_X10_findOrder_67_8
    rw [sm.2.2.1, if_neg (nI_ge hh (by omega)), gd_of i16, ix_nI (by omega), (sm.2.2.2.2.2.2 h hh).2]
    by_cases e : sOwn σ h = p
    · obtain ⟨a', e1, f2, m2⟩ := m1.push (blI_ok (c := c) g hh) (by omega)
      refine ⟨a', ?_, Fr.tr f1 f2, by rw [if_pos e]; exact ⟨_, m2⟩⟩
      have e1' : f_X10_puts_67 (nI h) (nI (pop (sHol σ h))) (nI (min (c + pop (sHol σ h) / 4) 15)) a = some a' := e1
      rw [if_pos (by rw [e]), gd_of i16, (sm.2.2.2.2.2.2 h hh).1, f_ones, bd_some, ltv_eq, show nI (pop (sHol σ h)) / 4 = nI (pop (sHol σ h) / 4) from pk_div (by omega) (by decide) (by decide), nI_add]
      by_cases c15 : c + pop (sHol σ h) / 4 ≤ 15
      · rw [Nat.min_eq_left c15] at e1'
        rw [if_pos (show nI (c + pop (sHol σ h) / 4) ≤ (15 : Int32) from nI_le (b := 15) c15 (by decide)), e1', bd_some, ltv_eq, nI_1]
      · rw [Nat.min_eq_right (by omega)] at e1'
        rw [if_neg (show ¬ nI (c + pop (sHol σ h) / 4) ≤ (15 : Int32) from nI_ge (a := 15) (by omega) (by omega)), show f_X10_puts_67 (nI h) (nI (pop (sHol σ h))) 15 a = some a' from e1', bd_some, ltv_eq, nI_1]
    · refine ⟨a, ?_, f1, by rw [if_neg e]; exact ⟨T1, m1⟩⟩
      rw [if_neg (fun z => e ((nI_inj10 (by omega) (by omega)).mp z)), ltv_eq, nI_1]
  · rintro q a ⟨f1, T1, m1⟩
    rw [hL1] at m1
    obtain ⟨a41, ra, pa, la⟩ := m1
    rw [Nat.zero_add] at a41 ra pa
    have sm := (hM.fr f1 (by decide)).of
    obtain ⟨N', T', e1, ⟨fs, rs, ps, ls, ks⟩, srt⟩ := sorts_m (p := 0) (n := L1.length) (by omega) (by omega) a41 ra pa
    have n41 : N'.1 67 41 = nI L1.length := ((fs 67 41 rfl).1).trans a41
    have n72 : N'.2 72 p = sInk σ p := ((fs 72 p rfl).2).trans (sm.2.2.2.1 p hp)
    have ss : SS T' 0 L1 := by
      refine ⟨by rw [Nat.zero_add]; exact ps, by rw [Nat.zero_add]; exact srt, fun x hx => ?_⟩
      have e := ls x hx
      rw [Nat.sub_zero, la] at e
      exact e
    obtain ⟨N1, t1, ft, rc⟩ := takes_m (sInk σ p) N'
    have m72 : N1.2 72 p = sInk σ p := ((ft 72 p rfl).2).trans n72
    obtain ⟨N2, e2, f2⟩ := lines_m hS rc
    have ff : Fr LFO N N2 := Fr.tr (Fr.sub f1 (by decide)) (Fr.tr (Fr.sub fs (by decide)) (Fr.tr (Fr.sub ft (by decide)) (Fr.sub f2 (by decide))))
    have rc2 : RcM (sInk σ p) N2 := ⟨fun z hz => by rw [(f2 100 z rfl).1, (f2 101 z rfl).1]; exact rc.1 z hz, fun l hl => ((f2 99 l rfl).2).trans (rc.2 l hl)⟩
    have r2 : RqA N2 T' L1.length := fun j hj => by
      rw [(f2 106 j rfl).1, (f2 104 j rfl).1, (f2 105 j rfl).1, (ft 106 j rfl).1, (ft 104 j rfl).1, (ft 105 j rfl).1]
      exact rs j hj
    have q41 : N2.1 67 41 = nI L1.length := ((f2 67 41 rfl).1).trans (((ft 67 41 rfl).1).trans n41)
    show ∃ v N' T, bb_X10_findOrder_67_8 _ _ _ _ _ _ = _ ∧ _
    unfold bb_X10_findOrder_67_8
    rw [sm.2.2.1, if_pos (nI_le (Nat.le_refl _) (by omega)), show f_X10_sorts_67 0 a = some N' from e1, bd_some, ltv_eq, n41, gd_of (inb_nI (by omega) (by decide)), ix_nI (by omega), n72, t1, bd_some, gd_of (inb_nI (by omega) (by decide)), m72, g_reached, bd_some, e2, bd2_some]
    exact part2 N2 T' ff rc2 q41 r2 ss
