-- ===== the class: drawing =====
def obd {α β : Type} (o : Oc α) (f : α → Oc β) : Oc β := match o with
  | .inl q => .inl q
  | .inr x => f x
theorem obd_l {α β : Type} (q : Nat × Nat) (f : α → Oc β) : obd (.inl q) f = .inl q := rfl
theorem obd_r {α β : Type} (x : α) (f : α → Oc β) : obd (.inr x) f = f x := rfl
def rimB (x y w h i : Nat) : Bool := blkB x y w h i && (((decide (i % 8 = x) || decide (i / 8 = y)) || decide (i % 8 + 1 = x + w)) || decide (i / 8 + 1 = y + h))
theorem rim_ok {x y w h : Nat} (w1 : 1 ≤ w) (h1 : 1 ≤ h) (hw : x + w ≤ 8) (hh : y + h ≤ 8) : f_X4_rim (nI x) (nI y) (nI w) (nI h) = some (ofB (rimB x y w h) 64) := by
  have inner : ∃ v, f_X4_block (nI x + 1) (nI y + 1) (nI w - 2) (nI h - 2) = some v ∧ ∀ i, i < 64 → lb v i = ((decide (x + 1 ≤ i % 8) && decide (i % 8 + 1 < x + w)) && (decide (y + 1 ≤ i / 8) && decide (i / 8 + 1 < y + h))) := by
    by_cases c : h = 1
    · refine ⟨0, ?_, fun i hi => ?_⟩
      · rw [c, show nI 1 - 2 = (-1 : Int32) from by decide, block_h]
      · rw [lb_0]
        symm
        rw [Bool.and_eq_false_iff]
        right
        rw [Bool.and_eq_false_iff, decide_eq_false_iff_not, decide_eq_false_iff_not]
        omega
    · have e2 : nI h - 2 = nI (h - 2) := nI_sub (b := 2) (by omega)
      by_cases d : w = 1
      · refine ⟨0, ?_, fun i hi => ?_⟩
        · rw [d, show nI 1 - 2 = (-1 : Int32) from by decide, e2, block_w _ _ (by omega)]
        · rw [lb_0]
          symm
          rw [Bool.and_eq_false_iff]
          left
          rw [Bool.and_eq_false_iff, decide_eq_false_iff_not, decide_eq_false_iff_not]
          omega
      · refine ⟨ofB (blkB (x + 1) (y + 1) (w - 2) (h - 2)) 64, ?_, fun i hi => ?_⟩
        · rw [e2, show nI w - 2 = nI (w - 2) from nI_sub (b := 2) (by omega), nI_1, nI_1, block_ok (by omega) (by omega)]
        · rw [lb_ofB _ hi]
          unfold blkB
          have q1 : decide (i % 8 < x + 1 + (w - 2)) = decide (i % 8 + 1 < x + w) := by
            congr 1
            apply propext
            omega
          have q2 : decide (i / 8 < y + 1 + (h - 2)) = decide (i / 8 + 1 < y + h) := by
            congr 1
            apply propext
            omega
          rw [q1, q2]
  obtain ⟨v, e1, e2⟩ := inner
  unfold f_X4_rim bb_X4_rim_0
  rw [block_ok hw hh, bd_some, e1, bd_some]
  congr 1
  apply lb_ext
  intro i hi
  rw [lb_and, lb_not _ hi, lb_ofB _ hi, lb_ofB _ hi, e2 i hi]
  unfold rimB blkB
  apply Bool.eq_iff_iff.mpr
  simp only [Bool.and_eq_true, Bool.or_eq_true, Bool.not_eq_true', Bool.and_eq_false_iff, decide_eq_true_eq, decide_eq_false_iff_not]
  omega
def drI (kw : Int32) (x y w k : Nat) (ink : Int64) : Int64 := if kw = 3 then ink ||| ofB (blkB x y w k) 64 else if kw = 4 then ink ||| ofB (rimB x y w k) 64 else ink &&& (ofB (blkB x y w k) 64 ^^^ -1)
def drP (h : Nat → Int32) (kw : Int32) (δ : Dr) (a : Nat) : Oc (Dr × Nat) := obd (nmP h a 0 8) fun q1 => obd (nmP h q1.2 0 8) fun q2 => obd (nmP h q2.2 1 (9 - q1.1)) fun q3 => obd (nmP h q3.2 1 (9 - q2.1)) fun q4 => .inr (setI δ (drI kw q1.1 q2.1 q3.1 q4.1 (dI δ (dL δ - 1))), q4.2)
theorem e8x {x : Nat} (h : x < 8) : (8 : Int32) - nI x = nI (9 - x) - 1 := by
  rw [show (8 : Int32) = nI 8 from rfl, nI_sub (by omega), show nI (9 - x) - 1 = nI (9 - x - 1) from nI_sub (b := 1) (by omega)]
  congr 1
  omega
theorem latest_c {δ : Dr} {M : Mm} (hD : DC δ M) (g : GD δ) (h1 : 1 ≤ dL δ) : f_X7_latestInk_3 M = some (dI δ (dL δ - 1)) := by
  have hd := hD.of
  have hL := g.1
  unfold f_X7_latestInk_3 bb_X7_latestInk_3_0 f_X7_inkOf_3 bb_X7_inkOf_3_0
  rw [hd.1, show nI (dL δ) - 1 = nI (dL δ - 1) from nI_sub (b := 1) h1, if_neg (nI_pos (by omega)), if_neg (nI_ge (by omega) (by omega)), gd_of (inb_nI (by omega) (by decide)), ix_nI (by omega), hd.2.1 _ (by omega), bd_some]
theorem setLat_c {δ : Dr} {M : Mm} {x : Int64} (hD : DC δ M) (g : GD δ) (h1 : 1 ≤ dL δ) : f_X7_setLatestInk_3 x M = some (wJ M 4 (dL δ - 1) x) ∧ DC (setI δ x) (wJ M 4 (dL δ - 1) x) := by
  have hL := g.1
  obtain ⟨d1, d2, d3, d4, d5⟩ := hD.of
  constructor
  · unfold f_X7_setLatestInk_3 bb_X7_setLatestInk_3_0
    rw [d1, if_neg (show ¬ nI (dL δ) ≤ (0 : Int32) from nI_ge (a := 0) (by omega) (by omega)), if_neg (show ¬ (10 : Int32) < nI (dL δ) from nI_nlt (a := 10) (by omega) (by omega)), show nI (dL δ) - 1 = nI (dL δ - 1) from nI_sub (b := 1) h1, gd_of (inb_nI (by omega) (by decide)), ltv_eq, ix_nI (by omega)]
  · refine DC.mk ⟨d1, fun i hi => ?_, d3, d4, d5⟩
    show (wJ M 4 (dL δ - 1) x).2 4 i = (if i = dL δ - 1 then x else dI δ i)
    by_cases e : i = dL δ - 1
    · rw [if_pos e, e, wJ_at]
    · rw [if_neg e, wJ_i e]
      exact d2 i hi
theorem draw_c {h : Nat → Int32} {n a : Nat} {δ : Dr} {M : Mm} {kw : Int32} (t : Tx h n) (c : CS h n δ a M) (h1 : 1 ≤ dL δ) : ∃ M', f_X8_readDrawing_1 kw M = some M' ∧ RsC h n (drP h kw δ a) M M' := by
  obtain ⟨hT, hD, p, h0, hl, g, pl⟩ := c
  obtain ⟨M1, v1, e1, f1, r1⟩ := num_c (lo := 0) (hi := 8) t hT p hl h0 (by decide) (by decide)
  unfold f_X8_readDrawing_1 bb_X8_readDrawing_1_0
  rw [show f_X8_readNumber_1 0 7 M = some (v1, M1) from e1, bd2_some]
  have s1 : Fr LRD M M1 := Fr.sub f1 (by decide)
  rcases r1 with ⟨k, q, n1, fs⟩ | ⟨x, e, n1, rfl, p1, z1, y1⟩
  · simp only [num_f _ _ fs.ne, bd2_some, if_neg fs.ne]
    exact ⟨M1, rfl, s1, Or.inl ⟨k, q, by simp only [drP, n1, obd_l], fs⟩⟩
  obtain ⟨_, b2, b3⟩ := nmP_r t hl n1
  have hT1 := hT.L46 f1
  obtain ⟨M2, v2, e2, f2, r2⟩ := num_c (lo := 0) (hi := 8) t hT1 p1 b3 z1 (by decide) (by decide)
  rw [show f_X8_readNumber_1 0 7 M1 = some (v2, M2) from e2, bd2_some]
  have s2 : Fr LRD M M2 := Fr.tr s1 (Fr.sub f2 (by decide))
  rcases r2 with ⟨k, q, n2, fs⟩ | ⟨y, e', n2, rfl, p2, z2, y2⟩
  · simp only [num_f _ _ fs.ne, bd2_some, if_neg fs.ne]
    exact ⟨M2, rfl, s2, Or.inl ⟨k, q, by simp only [drP, n1, n2, obd_l, obd_r], fs⟩⟩
  obtain ⟨_, c2, c3⟩ := nmP_r t b3 n2
  have hT2 := hT1.L46 f2
  obtain ⟨M3, v3, e3, f3, r3⟩ := num_c (lo := 1) (hi := 9 - x) t hT2 p2 c3 z2 (by decide) (by omega)
  rw [e8x b2, show f_X8_readNumber_1 1 (nI (9 - x) - 1) M2 = some (v3, M3) from e3, bd2_some]
  have s3 : Fr LRD M M3 := Fr.tr s2 (Fr.sub f3 (by decide))
  rcases r3 with ⟨k, q, n3, fs⟩ | ⟨w, e'', n3, rfl, p3, z3, y3⟩
  · simp only [num_f _ _ fs.ne, bd2_some, if_neg fs.ne]
    exact ⟨M3, rfl, s3, Or.inl ⟨k, q, by simp only [drP, n1, n2, n3, obd_l, obd_r], fs⟩⟩
  obtain ⟨d1, d2, d3⟩ := nmP_r t c3 n3
  have hT3 := hT2.L46 f3
  obtain ⟨M4, v4, e4, f4, r4⟩ := num_c (lo := 1) (hi := 9 - y) t hT3 p3 d3 z3 (by decide) (by omega)
  rw [e8x c2, show f_X8_readNumber_1 1 (nI (9 - y) - 1) M3 = some (v4, M4) from e4, bd2_some]
  have s4 : Fr LRD M M4 := Fr.tr s3 (Fr.sub f4 (by decide))
  rcases r4 with ⟨k, q, n4, fs⟩ | ⟨k, e''', n4, rfl, p4, z4, y4⟩
  · simp only [if_neg fs.ne]
    exact ⟨M4, rfl, s4, Or.inl ⟨k, q, by simp only [drP, n1, n2, n3, n4, obd_l, obd_r], fs⟩⟩
  obtain ⟨g1, g2, g3⟩ := nmP_r t d3 n4
  have hD4 : DC δ M4 := (((hD.fr f1 (by decide)).fr f2 (by decide)).fr f3 (by decide)).fr f4 (by decide)
  have fin : ∀ v : Int64, v = drI kw x y w k (dI δ (dL δ - 1)) → ∃ M', (bd (f_X7_setLatestInk_3 v M4) fun M_26 => some M_26) = some M' ∧ RsC h n (drP h kw δ a) M M' := by
    intro v hv
    obtain ⟨a1, a2⟩ := setLat_c (x := v) hD4 g h1
    rw [a1, bd_some]
    have fw : Fr LRD M (wJ M4 4 (dL δ - 1) v) := Fr.tr s4 (Fr.wJa rfl)
    exact ⟨_, rfl, fw, Or.inr ⟨setI δ v, e''', by simp only [drP, n1, n2, n3, n4, obd_r, hv], hT.LRD fw, a2, p4, z4, g3, g.setI, y4.trans (y3.trans (y2.trans (y1.trans pl)))⟩⟩
  rw [if_pos z4, latest_c hD4 g h1, bd_some, block_ok (by omega) (by omega), rim_ok d1 g1 (by omega) (by omega)]
  by_cases k3 : kw = 3
  · rw [if_pos k3, bd_some]
    exact fin _ (by unfold drI; rw [if_pos k3])
  · rw [if_neg k3]
    by_cases k4 : kw = 4
    · rw [if_pos k4, bd_some]
      exact fin _ (by unfold drI; rw [if_neg k3, if_pos k4])
    · rw [if_neg k4, bd_some]
      exact fin _ (by unfold drI; rw [if_neg k3, if_neg k4])
-- ===== the class: a word =====
abbrev wgP (h : Nat → Int32) (δ : Dr) (s k : Nat) : Prop := k ≤ 8 ∧ ∀ i, i < k → dgt h (s + i) < dL δ
def wdP (h : Nat → Int32) (δ : Dr) (a : Nat) : Oc (Dr × Nat) := if dE h (sk h a) = sk h a then .inl (1, sk h a) else if wgP h δ (sk h a) (dE h (sk h a) - sk h a) then .inr (addW δ (fun k => dgt h (sk h a + k)) (dE h (sk h a) - sk h a), dE h (sk h a)) else .inl (2, sk h a)
theorem wgP_mono {h : Nat → Int32} {δ : Dr} {s k : Nat} (g : wgP h δ s (k + 1)) : wgP h δ s k := ⟨by have := g.1; omega, fun i hi => g.2 i (by omega)⟩
def WI (h : Nat → Int32) (δ : Dr) (s k : Nat) (M1 : Mm) (q : Int32 × Int32 × Mm) : Prop := Fr [(1, 4), (6, 999)] M1 q.2.2 ∧ q.2.2.1 1 4 = nI (s + k) ∧ (∀ i, s ≤ i → i < s + k → inI (h i) 48 57 = true) ∧ (∀ i, i < 8 * dW δ → q.2.2.1 6 i = M1.1 6 i) ∧ ((q.2.1 = 1 ∧ q.1 = nI k ∧ wgP h δ s k ∧ ∀ i, i < k → q.2.2.1 6 (8 * dW δ + i) = nI (dgt h (s + i))) ∨ (q.2.1 = 0 ∧ ¬ wgP h δ s k))
theorem word_c {h : Nat → Int32} {n a : Nat} {δ : Dr} {M : Mm} (t : Tx h n) (c : CS h n δ a M) (h6 : dW δ < 6) : ∃ M', f_X8_readLettersOfWord_1 M = some M' ∧ RsC h n (wdP h δ a) M M' := by
  have h5 := t.1
  obtain ⟨hT, hD, p, h0, hl, g, pl⟩ := c
  have hL := g.1
  obtain ⟨M1, e1, f1, p1⟩ := skip_c t hT p hl
  have hT1 := hT.f4 f1
  have sl := sk_le t hl
  have z1 : M1.1 1 5 = 0 := ((f1 1 5 rfl).1).trans h0
  have y1 : M1.1 1 6 = -1 := ((f1 1 6 rfl).1).trans pl
  have hD1 : DC δ M1 := hD.fr f1 (by decide)
  obtain ⟨d1, d2, d3, d4, d5⟩ := hD1.of
  unfold f_X8_readLettersOfWord_1 bb_X8_readLettersOfWord_1_0
  rw [e1, bd_some, ltv_eq, d3, if_neg (show ¬ (6 : Int32) ≤ nI (dW δ) from nI_ge (b := 6) h6 (by decide)), p1]
  generalize hs : sk h a = s at *
  have tcx : ∀ x : Mm, Fr [(1, 4), (6, 999)] M1 x → TC h n x := fun x f => ⟨((f 1 3 rfl).1).trans hT1.1, fun i hi => ((f 2 i rfl).1).trans (hT1.2 i hi)⟩
  have fin : ∀ k (q : Int32 × Int32 × Mm), WI h δ s k M1 q → s + k ≤ n → inI (h (s + k)) 48 57 = false → ∃ M', bb_X8_readLettersOfWord_1_129 (nI s) q.1 q.2.1 q.2.2 = some M' ∧ RsC h n (wdP h δ a) M M' := by
    rintro k ⟨x2, x3, x⟩ ⟨fx, x4, hb, pre, hw⟩ ln hk
    have fx' : Fr [(1, 4), (6, 999)] M1 x := fx
    have x4' : x.1 1 4 = nI (s + k) := x4
    have e : dE h s = s + k := rn_u t.1 t.d (by omega) hb hk
    have x0 : x.1 1 5 = 0 := ((fx' 1 5 rfl).1).trans z1
    have fr : Fr LRD M x := Fr.tr (Fr.sub f1 (by decide)) (Fr.sub fx' (by decide))
    show ∃ M', bb_X8_readLettersOfWord_1_129 (nI s) x2 x3 x = some M' ∧ _
    unfold bb_X8_readLettersOfWord_1_129
    rw [x4']
    have bad : ∀ c : Nat, 1 ≤ c → c ≤ 3 → wdP h δ a = .inl (c, s) → ∃ M', (bd (f_X8_fail_1 (nI c) (nI s) x) fun M_15 => some M_15) = some M' ∧ RsC h n (wdP h δ a) M M' := by
      intro c c1 c3 hc
      rw [fail_c x0, bd_some]
      exact ⟨_, rfl, Fr.tr fr (Fr.tr (Fr.wrI rfl) (Fr.wrI rfl)), Or.inl ⟨c, s, hc, rfl, wI_at, c1, c3, _, ln, x4'⟩⟩
    by_cases k0 : k = 0
    · rw [if_pos (by rw [k0, Nat.add_zero])]
      exact bad 1 (by decide) (by decide) (by unfold wdP; rw [hs, if_pos (by rw [e, k0, Nat.add_zero])])
    rw [if_neg (fun z => k0 (by have := (nI_eq (by omega) (by omega)).mp z; omega))]
    have ke : dE h s - s = k := by omega
    have nk : ¬ dE h s = s := by omega
    rcases hw with ⟨w1, w2, w3, w4⟩ | ⟨w1, w2⟩
    · have w1' : x3 = 1 := w1
      have w2' : x2 = nI k := w2
      have w4' : ∀ i, i < k → x.1 6 (8 * dW δ + i) = nI (dgt h (s + i)) := w4
      have pre' : ∀ i, i < 8 * dW δ → x.1 6 i = M1.1 6 i := pre
      rw [w1', if_neg (by decide), (fx' 3 8 rfl).1, d3, gd_of (inb_nI (by omega) (by decide)), ltv_eq, ltv_eq, ix_nI (by omega), w2']
      have fw : Fr LRD M (wI (wI x 7 (dW δ) (nI k)) 3 8 (nI (dW δ + 1))) := Fr.tr fr (Fr.tr (Fr.wIa rfl) (Fr.wrI rfl))
      refine ⟨_, ?_, fw, Or.inr ⟨addW δ (fun i => dgt h (s + i)) k, s + k, ?_, hT.LRD fw, ?_, x4', x0, ln, g.addW h6 (by omega) w3.1 w3.2, ?_⟩⟩
      · show some (wI (wI x 7 (dW δ) (nI k)) 3 8 (x.1 3 8 + 1)) = _
        rw [(fx' 3 8 rfl).1, d3, nI_1]
      · unfold wdP
        rw [hs, if_neg nk, ke, if_pos w3, e]
      · refine DC.mk ⟨((fx' 3 7 rfl).1).trans d1, fun i hi => ((fx' 4 i rfl).2).trans (d2 i hi), wI_at, fun w hw => ?_, fun z hz => ((fx' 8 z rfl).1).trans (d5 z hz)⟩
        show (wI x 7 (dW δ) (nI k)).1 7 w = nI (if w = dW δ then k else dN δ w) ∧ ∀ j, j < (if w = dW δ then k else dN δ w) → x.1 6 (8 * w + j) = nI ((if w = dW δ then (fun i => dgt h (s + i)) else dXw δ w) j)
        by_cases e : w = dW δ
        · rw [if_pos e, if_pos e, e, wI_at]
          exact ⟨rfl, w4'⟩
        · rw [if_neg e, if_neg e, wI_i e]
          have hw' : w < dW δ + 1 := hw
          have := d4 w (by omega)
          have n8 := (g.2.2.1 w (by omega)).2.1
          refine ⟨((fx' 7 w rfl).1).trans this.1, fun j hj => ?_⟩
          rw [pre' _ (by omega)]
          exact this.2 j hj
      · exact ((fx' 1 6 rfl).1).trans y1
    · have w1' : x3 = 0 := w1
      rw [w1', if_pos rfl]
      exact bad 2 (by decide) (by decide) (by unfold wdP; rw [hs, if_neg nk, ke, if_neg w2])
  refine for_q (fun q k (x : Int32 × Int32 × Mm) => b_X8_readLettersOfWord_1_32 q (nI s) x.1 x.2.1 (nI k) x.2.2) 500 (fun k x => WI h δ s k M1 x ∧ s + k ≤ n) (fun o => ∃ M', o = some M' ∧ RsC h n (wdP h δ a) M M') ?_ ?_ 500 0 (0, 1, M1) FU rfl (by decide) ⟨⟨Fr.refl, p1, fun i h1 h2 => absurd h2 (by omega), fun _ _ => rfl, Or.inl ⟨rfl, rfl, ⟨by decide, fun i hi => absurd hi (by omega)⟩, fun i hi => absurd hi (by omega)⟩⟩, sl⟩
  · rintro q k ⟨x2, x3, x⟩ hk ⟨hI, ln⟩
    obtain ⟨fx, x4, hb, pre, hw⟩ := id hI
    have fx' : Fr [(1, 4), (6, 999)] M1 x := fx
    have x4' : x.1 1 4 = nI (s + k) := x4
    have pre' : ∀ i, i < 8 * dW δ → x.1 6 i = M1.1 6 i := pre
    show (∃ M', bb_X8_readLettersOfWord_1_32 _ (nI s) x2 x3 (nI k) x = _ ∧ _) ∨ ∃ a' : Int32 × Int32 × Mm, bb_X8_readLettersOfWord_1_32 _ (nI s) x2 x3 (nI k) x = b_X8_readLettersOfWord_1_32 q (nI s) a'.1 a'.2.1 (nI (k + 1)) a'.2.2 ∧ _
    unfold bb_X8_readLettersOfWord_1_32
    rw [if_neg (show ¬ (500 : Int32) ≤ nI k from nI_ge (b := 500) hk (by decide)), digit_c t (tcx x fx') x4' ln, bd_some]
    cases ct : inI (h (s + k)) 48 57 with
    | false =>
      left
      rw [if_pos (by decide)]
      exact fin k (x2, x3, x) hI ln ct
    | true =>
      right
      have lt : s + k < n := by
        apply Classical.byContradiction
        intro z
        rw [t.d _ (by omega)] at ct
        cases ct
      obtain ⟨c1, c9⟩ := dgt_ok ct
      have hb' : ∀ i, s ≤ i → i < s + (k + 1) → inI (h i) 48 57 = true := by
        intro i h1 h2
        by_cases z : i = s + k
        · rw [z]
          exact ct
        · exact hb i h1 (by omega)
      have e48 : h (s + k) - 48 = nI (dgt h (s + k)) := by
        rw [c1, show (48 : Int32) = nI 48 from rfl, nI_sub (by omega)]
        congr 1
        omega
      have bad : ∀ v : Int32, ¬ wgP h δ s (k + 1) → ∃ a' : Int32 × Int32 × Mm, bb_X8_readLettersOfWord_1_82 (b_X8_readLettersOfWord_1_32 q) (nI s) x2 (nI k) v x = b_X8_readLettersOfWord_1_32 q (nI s) a'.1 a'.2.1 (nI (k + 1)) a'.2.2 ∧ WI h δ s (k + 1) M1 a' ∧ s + (k + 1) ≤ n := by
        intro v hv
        refine ⟨(x2, 0, wI x 1 4 (nI (s + (k + 1)))), ?_, ⟨Fr.tr fx' (Fr.wrI rfl), wI_at, hb', pre', Or.inr ⟨rfl, hv⟩⟩, by omega⟩
        unfold bb_X8_readLettersOfWord_1_82 bb_X8_readLettersOfWord_1_83
        rw [if_pos rfl, ltv_eq, ltv_eq, x4', nI_1, nI_1]
        rfl
      rw [if_neg (by decide), here_c t (tcx x fx') x4' ln, bd_some, ltv_eq, e48, (fx' 3 7 rfl).1, d1]
      rcases hw with ⟨w1, w2, w3, w4⟩ | ⟨w1, w2⟩
      · have w1' : x3 = 1 := w1
        have w2' : x2 = nI k := w2
        have w4' : ∀ i, i < k → x.1 6 (8 * dW δ + i) = nI (dgt h (s + i)) := w4
        have k8 := w3.1
        rw [w1', if_neg (by decide)]
        by_cases c8 : k = 8
        · rw [if_pos (show (8 : Int32) ≤ x2 from by rw [w2', c8]; decide)]
          exact bad _ (fun z => by have := z.1; omega)
        rw [if_neg (show ¬ (8 : Int32) ≤ x2 from by rw [w2']; exact nI_ge (b := 8) (by omega) (by decide))]
        by_cases cL : dL δ ≤ dgt h (s + k)
        · rw [if_pos (nI_le cL (by omega))]
          exact bad _ (fun z => by have := z.2 k (by omega); omega)
        rw [if_neg (nI_ge (by omega) (by omega))]
        unfold bb_X8_readLettersOfWord_1_83
        have i8 : (8 : Int32) * x.1 3 8 + x2 = nI (8 * dW δ + k) := by
          rw [(fx' 3 8 rfl).1, d3, w2', show (8 : Int32) * nI (dW δ) = nI (8 * dW δ) from pk_mul 8 _, nI_add]
        rw [if_neg (by decide), i8, gd_of (inb_nI (by omega) (by decide)), ltv_eq, ltv_eq, ltv_eq, ltv_eq, ix_nI (by omega), w2']
        refine ⟨(nI (k + 1), 1, wI (wI x 6 (8 * dW δ + k) (nI (dgt h (s + k)))) 1 4 (nI (s + (k + 1)))), ?_, ⟨Fr.tr fx' (Fr.tr (Fr.wIa rfl) (Fr.wrI rfl)), wI_at, hb', fun i hi => ?_, Or.inl ⟨rfl, rfl, ⟨by omega, fun i hi => ?_⟩, fun i hi => ?_⟩⟩, by omega⟩
        · show b_X8_readLettersOfWord_1_32 q (nI s) (nI k + 1) 1 (nI k + 1) (wI (wI x 6 (8 * dW δ + k) (nI (dgt h (s + k)))) 1 4 (x.1 1 4 + 1)) = _
          rw [x4', nI_1, nI_1]
          rfl
        · show (wI x 6 (8 * dW δ + k) (nI (dgt h (s + k)))).1 6 i = _
          rw [wI_i (by omega)]
          exact pre' i hi
        · by_cases z : i = k
          · rw [z]
            omega
          · exact w3.2 i (by omega)
        · show (wI x 6 (8 * dW δ + k) (nI (dgt h (s + k)))).1 6 (8 * dW δ + i) = _
          by_cases z : i = k
          · rw [z, wI_at]
          · rw [wI_i (by omega)]
            exact w4' i (by omega)
      · have w1' : x3 = 0 := w1
        rw [w1', if_pos rfl]
        exact bad _ (fun z => w2 (wgP_mono z))
  · rintro q ⟨x2, x3, x⟩ ⟨hI, ln⟩
    show ∃ M', bb_X8_readLettersOfWord_1_32 _ (nI s) x2 x3 (nI 500) x = _ ∧ _
    unfold bb_X8_readLettersOfWord_1_32
    rw [if_pos (by decide)]
    exact fin 500 (x2, x3, x) hI ln (t.d _ (by omega))
-- ===== the class: a semicolon =====
theorem semi_c {h : Nat → Int32} {n a : Nat} {δ : Dr} {M : Mm} (t : Tx h n) (c : CS h n δ a M) : ∃ M', f_X8_readSemicolon_1 M = some M' ∧ Fr LRD M M' ∧ ((∃ k p, smP h a = .inl (k, p) ∧ FS n k p M') ∨ ∃ e, smP h a = .inr e ∧ CS h n δ e M') := by
  have h5 := t.1
  obtain ⟨hT, hD, p, h0, hl, g, pl⟩ := c
  obtain ⟨M1, e1, f1, p1⟩ := skip_c t hT p hl
  have hT1 := hT.f4 f1
  have sl := sk_le t hl
  have z1 : M1.1 1 5 = 0 := ((f1 1 5 rfl).1).trans h0
  have y1 : M1.1 1 6 = -1 := ((f1 1 6 rfl).1).trans pl
  unfold f_X8_readSemicolon_1 bb_X8_readSemicolon_1_0 smP
  rw [if_pos h0, e1, bd_some, here_c t hT1 p1 sl, bd_some]
  by_cases c : h (sk h a) = 59
  · rw [if_pos c, if_pos c, ltv_eq, p1, nI_1]
    have fw : Fr LRD M (wI M1 1 4 (nI (sk h a + 1))) := Fr.tr (Fr.sub f1 (by decide)) (Fr.wrI rfl)
    have lt : sk h a < n := by
      apply Classical.byContradiction
      intro z
      rw [t.2 _ (by omega)] at c
      exact absurd c (by decide)
    exact ⟨_, rfl, fw, Or.inr ⟨_, rfl, hT.LRD fw, hD.fr (Fr.tr f1 (Fr.wrI rfl)) (by decide), wI_at, z1, by omega, g, y1⟩⟩
  · rw [if_neg c, if_neg c, p1, show f_X8_fail_1 1 (nI (sk h a)) M1 = _ from fail_c z1, bd_some]
    exact ⟨_, rfl, Fr.tr (Fr.sub f1 (by decide)) (Fr.tr (Fr.wrI rfl) (Fr.wrI rfl)), Or.inl ⟨1, _, rfl, rfl, wI_at, by decide, by decide, _, sl, p1⟩⟩
