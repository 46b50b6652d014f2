-- ===== the model: a bar =====
def fbB (kw : Int32) (o r m : Bool) : Bool := if kw = 5 then o && !r else if kw = 3 then o || r else o || (r && m)
def rmC (x y w k i : Nat) : Bool := ((decide (i % 8 = x) || decide (i / 8 = y)) || decide (i % 8 + 1 = x + w)) || decide (i / 8 + 1 = y + k)
def BrI (N0 N : Mm) (l : Nat) (kw : Int32) (m : Nat → Bool) (R : Nat → Bool) : Prop := Fr [(71, 999)] N0 N ∧ (∀ i, i ≠ l → N.2 71 i = N0.2 71 i) ∧ ∀ i, i < 64 → lb (N.2 71 l) i = fbB kw (lb (N0.2 71 l) i) (R i) (m i)
theorem BrI.set {N0 N : Mm} {l : Nat} {kw : Int32} {m R : Nat → Bool} (h : BrI N0 N l kw m R) {s : Nat} (hs : s < 64) (hk : ¬ kw = 5) (hm : kw = 3 ∨ m s = true) : BrI N0 (wJ N 71 l (N.2 71 l ||| shL 1 (nI s))) l kw m (fun i => R i || decide (i = s)) := by
  obtain ⟨h1, h2, h3⟩ := h
  refine ⟨Fr.tr h1 (Fr.wJa rfl), fun i hi => (wJ_i hi).trans (h2 i hi), fun i hi => ?_⟩
  rw [wJ_at, lb_set _ hs hi, h3 i hi]
  unfold fbB
  rw [if_neg hk, if_neg hk]
  by_cases k3 : kw = 3
  · rw [if_pos k3, if_pos k3, Bool.or_assoc]
  · rw [if_neg k3, if_neg k3]
    have hm' := hm.resolve_left k3
    by_cases e : i = s
    · rw [e, hm', decide_eq_true rfl]
      simp
    · simp [e]
theorem BrI.clr {N0 N : Mm} {l : Nat} {kw : Int32} {m R : Nat → Bool} (h : BrI N0 N l kw m R) {s : Nat} (hs : s < 64) (hk : kw = 5) : BrI N0 (wJ N 71 l (N.2 71 l &&& (shL 1 (nI s) ^^^ -1))) l kw m (fun i => R i || decide (i = s)) := by
  obtain ⟨h1, h2, h3⟩ := h
  refine ⟨Fr.tr h1 (Fr.wJa rfl), fun i hi => (wJ_i hi).trans (h2 i hi), fun i hi => ?_⟩
  rw [wJ_at, lb_and, lb_not _ hi, lb_one hs hi, h3 i hi]
  unfold fbB
  rw [if_pos hk, if_pos hk, Bool.not_or, Bool.and_assoc]
theorem BrI.skip {N0 N : Mm} {l : Nat} {kw : Int32} {m R : Nat → Bool} (h : BrI N0 N l kw m R) {s : Nat} (hk : ¬ kw = 5) (h3 : ¬ kw = 3) (hm : m s = false) : BrI N0 N l kw m (fun i => R i || decide (i = s)) := by
  obtain ⟨h1, h2, h4⟩ := h
  refine ⟨h1, h2, fun i hi => ?_⟩
  rw [h4 i hi]
  unfold fbB
  rw [if_neg hk, if_neg hk, if_neg h3, if_neg h3]
  by_cases e : i = s
  · rw [e, hm]
    simp
  · simp [e]
theorem BrI.cong {N0 N : Mm} {l : Nat} {kw : Int32} {m R R' : Nat → Bool} (h : BrI N0 N l kw m R) (e : ∀ i, i < 64 → R i = R' i) : BrI N0 N l kw m R' := ⟨h.1, h.2.1, fun i hi => by rw [h.2.2 i hi, e i hi]⟩
theorem bar_108 {N0 N : Mm} {l x y w k c r : Nat} {kw s0 : Int32} {R : Nat → Bool} (k60 : Int32 → Int32 → Int32 → Int32 → Int32 → Int32 → Int32 → Mm → Option Mm) (hl : N0.1 69 0 = nI (l + 1)) (h10 : l < 10) (hc : c < 8) (hr : r < 8) (hs : s0 = if rmC x y w k (8 * r + c) then 1 else 0) (h : BrI N0 N l kw (rmC x y w k) R) : ∃ N1, bb_X10_readsBar_67_108 k60 kw (nI x) (nI y) (nI w) (nI k) (nI c) (nI r) s0 N = k60 kw (nI x) (nI y) (nI w) (nI k) (nI c) (nI (r + 1)) N1 ∧ BrI N0 N1 l kw (rmC x y w k) (fun i => R i || decide (i = 8 * r + c)) := by
  have e69 : N.1 69 0 - 1 = nI l := by
    rw [(h.1 69 0 rfl).1, hl]
    exact nI_sub (a := l + 1) (b := 1) (by omega)
  have es : (8 : Int32) * nI r + nI c = nI (8 * r + c) := by rw [show (8 : Int32) * nI r = nI (8 * r) from pk_mul 8 _, nI_add]
  have i10' : inb (nI l) 10 = true := inb_nI h10 (by decide)
  have set : ¬ kw = 5 → (kw = 3 ∨ rmC x y w k (8 * r + c) = true) → ∃ N1, bb_X10_readsBar_67_162 k60 kw (nI x) (nI y) (nI w) (nI k) (nI c) (nI r) (shL 1 (nI (8 * r + c))) N = k60 kw (nI x) (nI y) (nI w) (nI k) (nI c) (nI (r + 1)) N1 ∧ BrI N0 N1 l kw (rmC x y w k) (fun i => R i || decide (i = 8 * r + c)) := by
    intro k5 hm
    unfold bb_X10_readsBar_67_162
    rw [e69, ltv_eq, gd_of i10', gd_of i10', ltv_eq, ltv_eq, ix_nI (by omega), nI_1]
    exact ⟨_, rfl, h.set (by omega) k5 hm⟩
  unfold bb_X10_readsBar_67_108
  rw [es, ltv_eq]
  by_cases k5 : kw = 5
  · rw [if_pos k5, e69, ltv_eq, gd_of i10', gd_of i10', ltv_eq, ltv_eq, ix_nI (by omega), nI_1]
    exact ⟨_, rfl, h.clr (by omega) k5⟩
  rw [if_neg k5]
  by_cases k3 : kw = 3
  · rw [if_pos k3]
    exact set k5 (Or.inl k3)
  rw [if_neg k3, hs]
  cases hm : rmC x y w k (8 * r + c) with
  | true =>
    rw [if_neg (by decide)]
    exact set k5 (Or.inr hm)
  | false =>
    rw [if_pos (by decide), ltv_eq, nI_1]
    exact ⟨N, rfl, h.skip k5 k3 hm⟩
theorem bar_60 {N0 N : Mm} {l x y w k c : Nat} {kw : Int32} {R : Nat → Bool} (k41 : Int32 → Int32 → Int32 → Int32 → Int32 → Int32 → Mm → Option Mm) (hl : N0.1 69 0 = nI (l + 1)) (h10 : l < 10) (hw : x + w ≤ 8) (hk : y + k ≤ 8) (k1 : 1 ≤ k) (hc : c < x + w) (h : BrI N0 N l kw (rmC x y w k) R) : ∃ N1, b_X10_readsBar_67_60 k41 FU kw (nI x) (nI y) (nI w) (nI k) (nI c) (nI y) N = k41 kw (nI x) (nI y) (nI w) (nI k) (nI (c + 1)) N1 ∧ BrI N0 N1 l kw (rmC x y w k) (fun i => R i || (decide (i % 8 = c) && (decide (y ≤ i / 8) && decide (i / 8 < y + k)))) := by
  refine for_q (fun q r (z : Mm) => b_X10_readsBar_67_60 k41 q kw (nI x) (nI y) (nI w) (nI k) (nI c) (nI (y + r)) z) k (fun r z => BrI N0 z l kw (rmC x y w k) (fun i => R i || (decide (i % 8 = c) && (decide (y ≤ i / 8) && decide (i / 8 < y + r))))) (fun o => ∃ N1, o = k41 kw (nI x) (nI y) (nI w) (nI k) (nI (c + 1)) N1 ∧ BrI N0 N1 l kw (rmC x y w k) (fun i => R i || (decide (i % 8 = c) && (decide (y ≤ i / 8) && decide (i / 8 < y + k))))) ?_ ?_ k 0 N FU (Nat.zero_add _) (by show _ < 200000; omega) (h.cong (fun i hi => by
    have : (decide (y ≤ i / 8) && decide (i / 8 < y + 0)) = false := by
      rw [Bool.and_eq_false_iff, decide_eq_false_iff_not, decide_eq_false_iff_not]
      omega
    rw [this, Bool.and_false, Bool.or_false]))
  · intro q r z hr hI
    right
    have fin : ∀ s0 : Int32, (s0 = if rmC x y w k (8 * (y + r) + c) then 1 else 0) → ∃ a', bb_X10_readsBar_67_108 (b_X10_readsBar_67_60 k41 q) kw (nI x) (nI y) (nI w) (nI k) (nI c) (nI (y + r)) s0 z = b_X10_readsBar_67_60 k41 q kw (nI x) (nI y) (nI w) (nI k) (nI c) (nI (y + (r + 1))) a' ∧ BrI N0 a' l kw (rmC x y w k) (fun i => R i || (decide (i % 8 = c) && (decide (y ≤ i / 8) && decide (i / 8 < y + (r + 1))))) := by
      intro s0 hs
      obtain ⟨N1, e1, b1⟩ := bar_108 (b_X10_readsBar_67_60 k41 q) hl h10 (show c < 8 by omega) (show y + r < 8 by omega) hs hI
      refine ⟨N1, e1, b1.cong (fun i hi => ?_)⟩
      rw [Bool.or_assoc]
      congr 1
      apply Bool.eq_iff_iff.mpr
      simp only [Bool.and_eq_true, Bool.or_eq_true, decide_eq_true_eq]
      omega
    have m8 : (8 * (y + r) + c) % 8 = c := by omega
    have d8 : (8 * (y + r) + c) / 8 = y + r := by omega
    show ∃ a', bb_X10_readsBar_67_60 _ _ _ _ _ _ _ _ _ _ = _ ∧ _
    unfold bb_X10_readsBar_67_60 bb_X10_readsBar_67_103
    rw [nI_add, if_neg (nI_ge (show y + r < y + k by omega) (by omega))]
    have rt : rmC x y w k (8 * (y + r) + c) = true → (1 : Int32) = if rmC x y w k (8 * (y + r) + c) then 1 else 0 := fun z => by rw [z]; rfl
    have ew : nI x + nI w - 1 = nI (x + w - 1) := by rw [nI_add]; exact nI_sub (b := 1) (by omega)
    have ek : nI (y + k) - 1 = nI (y + k - 1) := nI_sub (b := 1) (by omega)
    have ne : ∀ {a b : Nat}, a < 100 → b < 100 → ¬ a = b → ¬ nI a = nI b := fun ha hb hn z => hn ((nI_eq (by omega) (by omega)).mp z)
    by_cases c1 : c = x
    · rw [if_pos (by rw [c1])]
      exact fin 1 (rt (by unfold rmC; rw [m8, decide_eq_true c1]; rfl))
    rw [if_neg (ne (by omega) (by omega) c1)]
    by_cases c2 : r = 0
    · rw [if_pos (by rw [c2, Nat.add_zero])]
      exact fin 1 (rt (by unfold rmC; rw [d8, decide_eq_true (show y + r = y by omega)]; simp))
    rw [if_neg (ne (by omega) (by omega) (by omega)), ew]
    by_cases c3 : c = x + w - 1
    · rw [if_pos (by rw [c3])]
      exact fin 1 (rt (by unfold rmC; rw [m8, decide_eq_true (show c + 1 = x + w by omega)]; simp))
    rw [if_neg (ne (by omega) (by omega) c3), ek]
    by_cases c4 : y + r = y + k - 1
    · rw [if_pos (by rw [c4])]
      exact fin 1 (rt (by unfold rmC; rw [d8, decide_eq_true (show y + r + 1 = y + k by omega)]; simp))
    rw [if_neg (ne (by omega) (by omega) c4)]
    refine fin 0 ?_
    have : rmC x y w k (8 * (y + r) + c) = false := by
      unfold rmC
      rw [m8, d8, decide_eq_false c1, decide_eq_false (show ¬ y + r = y by omega), decide_eq_false (show ¬ c + 1 = x + w by omega), decide_eq_false (show ¬ y + r + 1 = y + k by omega)]
      rfl
    rw [this]
    rfl
  · intro q z hI
    refine ⟨z, ?_, hI⟩
    show bb_X10_readsBar_67_60 _ _ _ _ _ _ _ _ _ _ = _
    unfold bb_X10_readsBar_67_60
    rw [nI_add, if_pos (nI_le (Nat.le_refl _) (by omega)), ltv_eq, nI_1]
theorem bar_41 {N : Mm} {l x y w k : Nat} {kw : Int32} (hl : N.1 69 0 = nI (l + 1)) (h10 : l < 10) (hw : x + w ≤ 8) (hk : y + k ≤ 8) (k1 : 1 ≤ k) (h0 : N.1 67 5 = 0) : ∃ N1, b_X10_readsBar_67_41 FU kw (nI x) (nI y) (nI w) (nI k) (nI x) N = some N1 ∧ BrI N N1 l kw (rmC x y w k) (blkB x y w k) := by
  refine for_q (fun q c (z : Mm) => b_X10_readsBar_67_41 q kw (nI x) (nI y) (nI w) (nI k) (nI (x + c)) z) w (fun c z => BrI N z l kw (rmC x y w k) (fun i => (decide (x ≤ i % 8) && decide (i % 8 < x + c)) && (decide (y ≤ i / 8) && decide (i / 8 < y + k)))) (fun o => ∃ N1, o = some N1 ∧ BrI N N1 l kw (rmC x y w k) (blkB x y w k)) ?_ ?_ w 0 N FU (Nat.zero_add _) (by show _ < 200000; omega) ⟨Fr.refl, fun _ _ => rfl, fun i hi => ?_⟩
  · intro q c z hc hI
    right
    obtain ⟨N1, e1, b1⟩ := bar_60 (b_X10_readsBar_67_41 q) hl h10 hw hk k1 (show x + c < x + w by omega) hI
    refine ⟨N1, ?_, b1.cong (fun i hi => ?_)⟩
    · show bb_X10_readsBar_67_41 _ _ _ _ _ _ _ _ = _
      unfold bb_X10_readsBar_67_41
      rw [nI_add, if_neg (nI_ge (show x + c < x + w by omega) (by omega)), if_pos (((hI.1 67 5 rfl).1).trans h0)]
      exact e1
    · apply Bool.eq_iff_iff.mpr
      simp only [Bool.and_eq_true, Bool.or_eq_true, decide_eq_true_eq]
      omega
  · intro q z hI
    refine ⟨z, ?_, hI⟩
    show bb_X10_readsBar_67_41 _ _ _ _ _ _ _ _ = _
    unfold bb_X10_readsBar_67_41
    rw [nI_add, if_pos (nI_le (Nat.le_refl _) (by omega))]
  · have : (decide (x ≤ i % 8) && decide (i % 8 < x + 0)) = false := by
      rw [Bool.and_eq_false_iff, decide_eq_false_iff_not, decide_eq_false_iff_not]
      omega
    show lb (N.2 71 l) i = fbB kw (lb (N.2 71 l) i) ((decide (x ≤ i % 8) && decide (i % 8 < x + 0)) && (decide (y ≤ i / 8) && decide (i / 8 < y + k))) _
    rw [this, Bool.false_and]
    unfold fbB
    by_cases k5 : kw = 5
    · rw [if_pos k5]
      simp
    · rw [if_neg k5]
      by_cases k3 : kw = 3
      · rw [if_pos k3, Bool.or_false]
      · rw [if_neg k3, Bool.false_and, Bool.or_false]
theorem bar_f {N : Mm} (a b c d e f : Int32) (h : ¬ N.1 67 5 = 0) : b_X10_readsBar_67_41 FU a b c d e f N = some N := by
  show bb_X10_readsBar_67_41 (b_X10_readsBar_67_41 199999) a b c d e f N = some N
  unfold bb_X10_readsBar_67_41
  rw [if_neg h, ite_self]
theorem bar_m {h : Nat → Int32} {n a c : Nat} {δ : Dr} {M : Mm} {kw : Int32} (t : Tx h n) (cs : MS h n δ a c M) (h1 : 1 ≤ dL δ) (hk : kw = 3 ∨ kw = 4 ∨ kw = 5) : ∃ M', f_X10_readsBar_67 kw M = some M' ∧ RsM h n c (drP h kw δ a) M M' := by
  obtain ⟨hT, hD, p, h0, hl, g, pl, hc⟩ := cs
  have g1 := g.1
  obtain ⟨M1, v1, e1, f1, r1⟩ := num_m (lo := 0) (hi := 8) t hT p hl h0 (by decide) (by decide)
  unfold f_X10_readsBar_67 bb_X10_readsBar_67_0
  rw [show f_X10_numberHere_67 0 7 M = some (v1, M1) from e1, bd2_some]
  have s1 : Fr LRN M M1 := Fr.sub f1 (by decide)
  rcases r1 with ⟨k, q, n1, _, fs⟩ | ⟨x, e, n1, rfl, p1, z1, y1⟩
  · simp only [numm_f _ _ fs.ne, bd2_some, bar_f _ _ _ _ _ _ fs.ne]
    exact ⟨M1, rfl, s1, Or.inl ⟨k, q, by simp only [drP, n1, obd_l], fs⟩⟩
  obtain ⟨_, b2, b3⟩ := nmP_r t hl n1
  have hT1 := hT.F46 f1
  obtain ⟨M2, v2, e2, f2, r2⟩ := num_m (lo := 0) (hi := 8) t hT1 p1 b3 z1 (by decide) (by decide)
  rw [show f_X10_numberHere_67 0 7 M1 = some (v2, M2) from e2, bd2_some]
  have s2 : Fr LRN M M2 := Fr.tr s1 (Fr.sub f2 (by decide))
  rcases r2 with ⟨k, q, n2, _, fs⟩ | ⟨y, e', n2, rfl, p2, z2, y2⟩
  · simp only [numm_f _ _ fs.ne, bd2_some, bar_f _ _ _ _ _ _ fs.ne]
    exact ⟨M2, rfl, s2, Or.inl ⟨k, q, by simp only [drP, n1, n2, obd_l, obd_r], fs⟩⟩
  obtain ⟨_, c2, c3⟩ := nmP_r t b3 n2
  have hT2 := hT1.F46 f2
  obtain ⟨M3, v3, e3, f3, r3⟩ := num_m (lo := 1) (hi := 9 - x) t hT2 p2 c3 z2 (by decide) (by omega)
  rw [e8x b2, show f_X10_numberHere_67 1 (nI (9 - x) - 1) M2 = some (v3, M3) from e3, bd2_some]
  have s3 : Fr LRN M M3 := Fr.tr s2 (Fr.sub f3 (by decide))
  rcases r3 with ⟨k, q, n3, _, fs⟩ | ⟨w, e'', n3, rfl, p3, z3, y3⟩
  · simp only [numm_f _ _ fs.ne, bd2_some, bar_f _ _ _ _ _ _ fs.ne]
    exact ⟨M3, rfl, s3, Or.inl ⟨k, q, by simp only [drP, n1, n2, n3, obd_l, obd_r], fs⟩⟩
  obtain ⟨d1, d2, d3⟩ := nmP_r t c3 n3
  have hT3 := hT2.F46 f3
  obtain ⟨M4, v4, e4, f4, r4⟩ := num_m (lo := 1) (hi := 9 - y) t hT3 p3 d3 z3 (by decide) (by omega)
  rw [e8x c2, show f_X10_numberHere_67 1 (nI (9 - y) - 1) M3 = some (v4, M4) from e4, bd2_some]
  have s4 : Fr LRN M M4 := Fr.tr s3 (Fr.sub f4 (by decide))
  rcases r4 with ⟨k, q, n4, _, fs⟩ | ⟨k, e''', n4, rfl, p4, z4, y4⟩
  · rw [bar_f _ _ _ _ _ _ fs.ne]
    exact ⟨M4, rfl, s4, Or.inl ⟨k, q, by simp only [drP, n1, n2, n3, n4, obd_l, obd_r], fs⟩⟩
  obtain ⟨g1', g2', g3'⟩ := nmP_r t d3 n4
  have hD4 : DM δ M4 := (((hD.fr f1 (by decide)).fr f2 (by decide)).fr f3 (by decide)).fr f4 (by decide)
  obtain ⟨m1, m2, m3, m4, m5⟩ := hD4.of g
  obtain ⟨l, hl'⟩ : ∃ l, dL δ = l + 1 := ⟨dL δ - 1, by omega⟩
  obtain ⟨N1, e5, b1, b2', b3'⟩ := bar_41 (kw := kw) (N := M4) (l := l) (x := x) (y := y) (w := w) (k := k) (by rw [m1, hl']) (by omega) (by omega) (by omega) g1' z4
  have fw : Fr LRN M N1 := Fr.tr s4 (Fr.sub b1 (by decide))
  refine ⟨N1, e5, fw, Or.inr ⟨setI δ (drI kw x y w k (dI δ (dL δ - 1))), e''', by simp only [drP, n1, n2, n3, n4, obd_r], hT.LRN fw, ?_, ((b1 67 4 rfl).1).trans p4, ((b1 67 5 rfl).1).trans z4, g3', g.setI, ((b1 67 6 rfl).1).trans (y4.trans (y3.trans (y2.trans (y1.trans pl)))), ((fw 67 7 rfl).1).trans hc⟩⟩
  refine DM.mk ⟨((b1 69 0 rfl).1).trans m1, fun i hi => ?_, ((b1 69 1 rfl).1).trans m3, fun w hw => ⟨((b1 87 w rfl).1).trans (m4 w hw).1, fun k hk => ?_⟩, fun z hz => ((b1 89 z rfl).1).trans (m5 z hz)⟩ g.setI
  · show N1.2 71 i = (if i = dL δ - 1 then drI kw x y w k (dI δ (dL δ - 1)) else dI δ i)
    have hi' : i < dL δ := hi
    by_cases ei : i = dL δ - 1
    · rw [if_pos ei, ei, show dL δ - 1 = l by omega]
      apply lb_ext
      intro j hj
      rw [b3' j hj, m2 l (by omega)]
      unfold fbB drI
      rcases hk with rfl | rfl | rfl
      · rw [if_neg (by decide), if_pos rfl, if_pos rfl, lb_or, lb_ofB _ hj]
      · rw [if_neg (by decide), if_neg (by decide), if_neg (by decide), if_pos rfl, lb_or, lb_ofB _ hj]
        rfl
      · rw [if_pos rfl, if_neg (by decide), if_neg (by decide), lb_and, lb_not _ hj, lb_ofB _ hj]
    · rw [if_neg ei, b2' i (by omega)]
      exact m2 i hi'
  · have hw' : w < dW δ := hw
    have g6 := g.2.1
    have : inW [(71, 999)] (74 + w) k = false := by
      rcases w with _ | _ | _ | _ | _ | _ | w
      · rfl
      · rfl
      · rfl
      · rfl
      · rfl
      · rfl
      · omega
    exact ((b1 (74 + w) k this).1).trans ((m4 w hw).2 k hk)
