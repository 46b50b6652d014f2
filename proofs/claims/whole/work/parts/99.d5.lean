-- ===== the model: a word =====
def LW7 : List (Nat × Nat) := [(67, 4), (74, 999), (75, 999), (76, 999), (77, 999), (78, 999), (79, 999)]
theorem lw7 : ∀ w, w < 6 → (LW7.any fun q => q.1 == 74 + w && q.2 == 999) = true := by decide
def WM (h : Nat → Int32) (δ : Dr) (s k : Nat) (M1 : Mm) (q : Int32 × Mm) : Prop := Fr LW7 M1 q.2 ∧ q.2.1 67 4 = nI (s + k) ∧ ((q.1 = 1 ∧ wgP h δ s k) ∨ (q.1 = 0 ∧ ¬ wgP h δ s k)) ∧ (∀ i, i < k → i < 8 → q.2.1 (74 + dW δ) i = nI (dgt h (s + i))) ∧ ∀ w, w < dW δ → ∀ j, q.2.1 (74 + w) j = M1.1 (74 + w) j
theorem word_m {h : Nat → Int32} {n a c : Nat} {δ : Dr} {M : Mm} (t : Tx h n) (cs : MS h n δ a c M) (h6 : dW δ < 6) : ∃ M', f_X10_readsWord_67 M = some M' ∧ RsM h n c (wdP h δ a) M M' := by
  have h5 := t.1
  obtain ⟨hT, hD, p, h0, hl, g, pl, hc⟩ := cs
  have hL := g.1
  obtain ⟨M1, e1, f1, p1⟩ := blanks_m t hT p hl
  have hT1 : TM h n M1 := hT.fr f1 rfl (fun _ => rfl)
  have sl := sk_le t hl
  have z1 : M1.1 67 5 = 0 := ((f1 67 5 rfl).1).trans h0
  have y1 : M1.1 67 6 = -1 := ((f1 67 6 rfl).1).trans pl
  have c1 : M1.1 67 7 = nI c := ((f1 67 7 rfl).1).trans hc
  have hD1 : DM δ M1 := hD.fr f1 (by decide)
  obtain ⟨d1, d2, d3, d4, d5⟩ := hD1.of g
  have s1 : Fr LRN M M1 := Fr.sub f1 (by decide)
  unfold f_X10_readsWord_67 bb_X10_readsWord_67_0 wdP
  rw [e1, bd_some, ltv_eq, p1, at_m t hT1 (by omega), bd_some, isDig, bd_some]
  generalize sk h a = s at *
  obtain ⟨de1, de2, de3⟩ := dE_ok t s
  have dl := dE_le t sl
  cases ct0 : inI (h s) 48 57 with
  | false =>
    have e : dE h s = s := rn_u t.1 t.d (Nat.le_refl _) (fun i h1 h2 => absurd h2 (by omega)) ct0
    rw [if_pos (by decide), show f_X10_wrong_67 1 (nI s) M1 = _ from wrong_m z1, bd_some, if_pos e]
    have hn : ¬ (wI (wI M1 67 5 1) 67 6 (nI s)).1 67 5 = 0 := show ¬ (1 : Int32) = 0 by decide
    have fw : Fr LRN M (wI (wI M1 67 5 1) 67 6 (nI s)) := Fr.tr s1 (Fr.tr (Fr.wrI rfl) (Fr.wrI rfl))
    have p2 : (wI (wI M1 67 5 1) 67 6 (nI s)).1 67 4 = nI s := p1
    have hT2 : TM h n (wI (wI M1 67 5 1) 67 6 (nI s)) := hT1
    have fs : FSm n 1 s (wI (wI M1 67 5 1) 67 6 (nI s)) := ⟨rfl, wI_at, by decide, by decide, s, sl, p1⟩
    generalize wI (wI M1 67 5 1) 67 6 (nI s) = N2 at *
    refine ⟨N2, ?_, fw, Or.inl ⟨1, s, rfl, fs⟩⟩
    show bb_X10_readsWord_67_36 (b_X10_readsWord_67_36 199999) (nI s) 0 1 N2 = _
    unfold bb_X10_readsWord_67_36 bb_X10_readsWord_67_137
    rw [p2, at_m t hT2 (by omega), bd_some, isDig, ct0, bd_some, if_pos (by decide), if_neg (by decide), if_neg hn]
  | true =>
    have nk : ¬ dE h s = s := by
      intro z
      rw [z, ct0] at de3
      cases de3
    rw [if_neg (by decide), if_neg nk]
    refine for_q (fun q k (x : Int32 × Mm) => b_X10_readsWord_67_36 q (nI s) (nI k) x.1 x.2) (dE h s - s) (fun k x => WM h δ s k M1 x) (fun o => ∃ M', o = some M' ∧ RsM h n c (if wgP h δ s (dE h s - s) then .inr (addW δ (fun k => dgt h (s + k)) (dE h s - s), dE h s) else .inl (2, s)) M M') ?_ ?_ (dE h s - s) 0 (1, M1) FU (Nat.zero_add _) (by show _ < 200000; omega) ⟨Fr.refl, p1, Or.inl ⟨rfl, by decide, fun i hi => absurd hi (by omega)⟩, fun i hi => absurd hi (by omega), fun _ _ _ => rfl⟩
    · rintro q k ⟨x3, x⟩ hk ⟨fx, x4, hw, w8, wo⟩
      have fx' : Fr LW7 M1 x := fx
      have x4' : x.1 67 4 = nI (s + k) := x4
      have w8' : ∀ i, i < k → i < 8 → x.1 (74 + dW δ) i = nI (dgt h (s + i)) := w8
      have wo' : ∀ w, w < dW δ → ∀ j, x.1 (74 + w) j = M1.1 (74 + w) j := wo
      right
      have ct := de2 (s + k) (by omega) (by omega)
      obtain ⟨c1', c9⟩ := dgt_ok ct
      have e48 : h (s + k) - 48 = nI (dgt h (s + k)) := by
        rw [c1', show (48 : Int32) = nI 48 from rfl, nI_sub (by omega)]
        congr 1
        omega
      have hTx : TM h n x := hT1.fr fx' rfl (fun _ => rfl)
      have ew : x.1 69 1 = nI (dW δ) := ((fx' 69 1 rfl).1).trans d3
      have st : ∀ s0 : Int32, ((s0 = 1 ∧ wgP h δ s (k + 1)) ∨ (s0 = 0 ∧ ¬ wgP h δ s (k + 1))) → ∃ a' : Int32 × Mm, bb_X10_readsWord_67_89 (b_X10_readsWord_67_36 q) (nI s) (nI k) (nI (dgt h (s + k))) s0 x = b_X10_readsWord_67_36 q (nI s) (nI (k + 1)) a'.1 a'.2 ∧ WM h δ s (k + 1) M1 a' := by
        intro s0 hs
        unfold bb_X10_readsWord_67_89
        by_cases k8 : 8 ≤ k
        · rw [if_pos (show (8 : Int32) ≤ nI k from nI_le (a := 8) k8 (by omega)), ltv_eq, ltv_eq, nI_1, x4', nI_1]
          exact ⟨(s0, wI x 67 4 (nI (s + k + 1))), rfl, Fr.tr fx' (Fr.wrI rfl), wI_at, hs, fun i h1 h2 => (wI_c (by omega)).trans (w8' i (by omega) h2), fun w hw j => (wI_c (by omega)).trans (wo' w hw j)⟩
        · rw [if_neg (show ¬ (8 : Int32) ≤ nI k from nI_ge (b := 8) (by omega) (by decide)), ew, gd_of (inb_nI h6 (by decide)), gd_of (inb_nI (show k < 8 by omega) (by decide)), ltv_eq, ltv_eq, ltv_eq, nI_1, ix_nI (by omega), ix_nI (by omega)]
          refine ⟨(s0, wI (wI x (74 + dW δ) k (nI (dgt h (s + k)))) 67 4 (nI (s + (k + 1)))), ?_, Fr.tr fx' (Fr.tr (Fr.wIa (lw7 _ h6)) (Fr.wrI rfl)), wI_at, hs, fun i h1 h2 => ?_, fun w hw j => ?_⟩
          · have : (wI x (74 + dW δ) k (nI (dgt h (s + k)))).1 67 4 = nI (s + k) := (wI_c (by omega)).trans x4'
            rw [this, nI_1]
            rfl
          · show (wI (wI x (74 + dW δ) k (nI (dgt h (s + k)))) 67 4 (nI (s + (k + 1)))).1 (74 + dW δ) i = _
            rw [wI_c (by omega)]
            by_cases z : i = k
            · rw [z, wI_at]
            · rw [wI_i z]
              exact w8' i (by omega) h2
          · show (wI (wI x (74 + dW δ) k (nI (dgt h (s + k)))) 67 4 (nI (s + (k + 1)))).1 (74 + w) j = _
            rw [wI_c (by omega), wI_c (by omega)]
            exact wo' w hw j
      show ∃ a' : Int32 × Mm, bb_X10_readsWord_67_36 _ (nI s) (nI k) x3 x = _ ∧ _
      unfold bb_X10_readsWord_67_36 bb_X10_readsWord_67_88
      rw [x4', at_m t hTx (by omega), bd_some, isDig, ct, bd_some, if_neg (by decide), bd_some, ltv_eq, e48, (fx' 69 0 rfl).1, d1]
      rcases hw with ⟨w1, w3⟩ | ⟨w1, w2⟩
      · have w1' : x3 = 1 := w1
        have k8 := w3.1
        rw [w1', if_neg (by decide)]
        by_cases c8 : k = 8
        · rw [if_pos (show (8 : Int32) ≤ nI k from by rw [c8]; decide)]
          exact st 0 (Or.inr ⟨rfl, fun z => by have := z.1; omega⟩)
        rw [if_neg (show ¬ (8 : Int32) ≤ nI k from nI_ge (b := 8) (by omega) (by decide))]
        by_cases cL : dL δ ≤ dgt h (s + k)
        · rw [if_pos (nI_le cL (by omega))]
          exact st 0 (Or.inr ⟨rfl, fun z => by have := z.2 k (by omega); omega⟩)
        rw [if_neg (nI_ge (by omega) (by omega))]
        refine st 1 (Or.inl ⟨rfl, by omega, fun i hi => ?_⟩)
        by_cases z : i = k
        · rw [z]
          omega
        · exact w3.2 i (by omega)
      · have w1' : x3 = 0 := w1
        rw [w1', if_pos rfl]
        exact st 0 (Or.inr ⟨rfl, fun z => w2 (wgP_mono z)⟩)
    · rintro q ⟨x3, x⟩ ⟨fx, x4, hw, w8, wo⟩
      have fx' : Fr LW7 M1 x := fx
      have x4' : x.1 67 4 = nI (dE h s) := by
        rw [show dE h s = s + (dE h s - s) by omega]
        exact x4
      have w8' : ∀ i, i < dE h s - s → i < 8 → x.1 (74 + dW δ) i = nI (dgt h (s + i)) := w8
      have wo' : ∀ w, w < dW δ → ∀ j, x.1 (74 + w) j = M1.1 (74 + w) j := wo
      have hTx : TM h n x := hT1.fr fx' rfl (fun _ => rfl)
      have x0 : x.1 67 5 = 0 := ((fx' 67 5 rfl).1).trans z1
      have ew : x.1 69 1 = nI (dW δ) := ((fx' 69 1 rfl).1).trans d3
      have fr : Fr LRN M x := Fr.tr s1 (Fr.sub fx' (by decide))
      show ∃ M', bb_X10_readsWord_67_36 _ (nI s) (nI (dE h s - s)) x3 x = _ ∧ _
      unfold bb_X10_readsWord_67_36
      rw [x4', at_m t hTx (by omega), bd_some, isDig, de3, bd_some, if_pos (by decide)]
      unfold bb_X10_readsWord_67_137
      rcases hw with ⟨w1, w3⟩ | ⟨w1, w2⟩
      · have w1' : x3 = 1 := w1
        rw [w1', if_neg (by decide), if_pos x0, ew, gd_of (inb_nI h6 (by decide)), ltv_eq, ltv_eq, ix_nI (by omega), if_pos w3]
        have gw : GD (addW δ (fun k => dgt h (s + k)) (dE h s - s)) := g.addW h6 (by omega) w3.1 w3.2
        have fw : Fr LRN M (wI (wI x 87 (dW δ) (nI (dE h s - s))) 69 1 (nI (dW δ + 1))) := Fr.tr fr (Fr.tr (Fr.wIa rfl) (Fr.wIa rfl))
        refine ⟨wI (wI x 87 (dW δ) (nI (dE h s - s))) 69 1 (nI (dW δ + 1)), ?_, fw, Or.inr ⟨_, _, rfl, hT.LRN fw, ?_, x4', x0, dl, gw, ((fx' 67 6 rfl).1).trans y1, ((fx' 67 7 rfl).1).trans c1⟩⟩
        · show some (wI (wI x 87 (dW δ) (nI (dE h s - s))) 69 1 (x.1 69 1 + 1)) = _
          rw [ew, nI_1]
        · refine DM.mk ⟨((fx' 69 0 rfl).1).trans d1, fun i hi => ((fx' 71 i rfl).2).trans (d2 i hi), wI_at, fun w hw => ?_, fun z hz => ((fx' 89 z rfl).1).trans (d5 z hz)⟩ gw
          have hw' : w < dW δ + 1 := hw
          show (wI x 87 (dW δ) (nI (dE h s - s))).1 87 w = nI (if w = dW δ then dE h s - s else dN δ w) ∧ ∀ j, j < (if w = dW δ then dE h s - s else dN δ w) → (wI (wI x 87 (dW δ) (nI (dE h s - s))) 69 1 (nI (dW δ + 1))).1 (74 + w) j = nI ((if w = dW δ then (fun i => dgt h (s + i)) else dXw δ w) j)
          by_cases e : w = dW δ
          · rw [if_pos e, if_pos e, e, wI_at]
            refine ⟨rfl, fun j hj => ?_⟩
            rw [wI_c (by omega), wI_c (by omega)]
            exact w8' j hj (by have := w3.1; omega)
          · rw [if_neg e, if_neg e, wI_i e]
            have := d4 w (by omega)
            refine ⟨((fx' 87 w rfl).1).trans this.1, fun j hj => ?_⟩
            rw [wI_c (by omega), wI_c (by omega), wo' w (by omega)]
            exact this.2 j hj
      · have w1' : x3 = 0 := w1
        rw [w1', if_pos rfl, show f_X10_wrong_67 2 (nI s) x = _ from wrong_m x0, bd_some, if_neg (show ¬ (wI (wI x 67 5 2) 67 6 (nI s)).1 67 5 = 0 from show ¬ (2 : Int32) = 0 by decide), if_neg w2]
        exact ⟨_, rfl, Fr.tr fr (Fr.tr (Fr.wrI rfl) (Fr.wrI rfl)), Or.inl ⟨2, s, rfl, rfl, wI_at, by decide, by decide, _, dl, x4'⟩⟩
-- ===== the model: a semicolon, a clause =====
theorem sign_m {h : Nat → Int32} {n a c : Nat} {δ : Dr} {M : Mm} (t : Tx h n) (cs : MS h n δ a c M) : ∃ M', f_X10_sign_67 59 M = some M' ∧ Fr LRN M M' ∧ ((∃ k p, smP h a = .inl (k, p) ∧ FSm n k p M') ∨ ∃ e, smP h a = .inr e ∧ MS h n δ e c M') := by
  have h5 := t.1
  obtain ⟨hT, hD, p, h0, hl, g, pl, hc⟩ := cs
  obtain ⟨M1, e1, f1, p1⟩ := blanks_m t hT p hl
  have hT1 : TM h n M1 := hT.fr f1 rfl (fun _ => rfl)
  have sl := sk_le t hl
  have z1 : M1.1 67 5 = 0 := ((f1 67 5 rfl).1).trans h0
  have y1 : M1.1 67 6 = -1 := ((f1 67 6 rfl).1).trans pl
  unfold f_X10_sign_67 bb_X10_sign_67_0 smP
  rw [if_pos h0, e1, bd_some, p1, at_m t hT1 (by omega), bd_some]
  by_cases q : h (sk h a) = 59
  · rw [if_pos q, if_pos q, ltv_eq, nI_1]
    have fw : Fr LRN M (wI M1 67 4 (nI (sk h a + 1))) := Fr.tr (Fr.sub f1 (by decide)) (Fr.wrI rfl)
    have lt : sk h a < n := by
      apply Classical.byContradiction
      intro z
      rw [t.2 _ (by omega)] at q
      exact absurd q (by decide)
    exact ⟨_, rfl, fw, Or.inr ⟨_, rfl, hT.LRN fw, hD.fr (Fr.tr f1 (Fr.wrI rfl)) (by decide), wI_at, z1, by omega, g, y1, ((f1 67 7 rfl).1).trans hc⟩⟩
  · rw [if_neg q, if_neg q, show f_X10_wrong_67 1 (nI (sk h a)) M1 = _ from wrong_m z1, bd_some]
    exact ⟨_, rfl, Fr.tr (Fr.sub f1 (by decide)) (Fr.tr (Fr.wrI rfl) (Fr.wrI rfl)), Or.inl ⟨1, _, rfl, rfl, wI_at, by decide, by decide, _, sl, p1⟩⟩
theorem sign_f {M : Mm} (h : ¬ M.1 67 5 = 0) : f_X10_sign_67 59 M = some M := by
  unfold f_X10_sign_67 bb_X10_sign_67_0
  rw [if_neg h]
def ClM (h : Nat → Int32) (n c : Nat) (o : Oc (Dr × Nat)) (M M' : Mm) : Prop := Fr LRM M M' ∧ ((∃ k p, o = .inl (k, p) ∧ FSm n k p M') ∨ ∃ δ a, o = .inr (δ, a) ∧ MS h n δ a (c + 1) M')
theorem clause_m {h : Nat → Int32} {n a c : Nat} {δ : Dr} {M : Mm} (t : Tx h n) (cs : MS h n δ a c M) (hc : c ≤ 60) (hb : ¬ h a = 32) : ∃ M', f_X10_clause_67 M = some M' ∧ ClM h n c (clP h δ c a) M M' := by
  have h5 := t.1
  obtain ⟨hT, hD, p, h0, hl, g, pl, h7⟩ := id cs
  have gL := g.1
  have gW := g.2.1
  obtain ⟨d1, d2, d3, d4, d5⟩ := hD.of g
  unfold f_X10_clause_67 bb_X10_clause_67_0
  rw [kind_m t hT p hl hb h0, bd2_some]
  have kin := kwV_in h a (aE h a)
  unfold clP
  generalize kwV h a (aE h a) = kw at *
  have bad : ∀ (k : Nat) (o : Oc (Dr × Nat)), 1 ≤ k → k ≤ 3 → o = .inl (k, a) → ∃ M', (bd (f_X10_wrong_67 (nI k) (M.1 67 4) M) fun M_7 => bb_X10_clause_67_91 kw M_7) = some M' ∧ ClM h n c o M M' := by
    intro k o k1 k3 ho
    rw [wrong_m h0, bd_some, p]
    have fs : FSm n k a (wI (wI M 67 5 (nI k)) 67 6 (nI a)) := ⟨rfl, wI_at, k1, k3, a, hl, p⟩
    unfold bb_X10_clause_67_91
    rw [if_neg fs.ne]
    exact ⟨_, rfl, Fr.tr (Fr.wrI rfl) (Fr.wrI rfl), Or.inl ⟨k, a, ho, fs⟩⟩
  have e91 : ¬ (kw = -1 ∨ (drB kw = true ∧ dL δ = 0)) → ¬ (60 ≤ c ∨ tmB kw δ = true) → ∃ M', bb_X10_clause_67_91 kw M = some M' ∧ ClM h n c (if kw = -1 ∨ (drB kw = true ∧ dL δ = 0) then .inl (1, a) else if 60 ≤ c ∨ tmB kw δ = true then .inl (3, a) else obd (rsP h kw δ (aE h a)) fun q => obd (smP h q.2) fun e => .inr (q.1, e)) M M' := by
    intro nb nt
    rw [if_neg nb, if_neg nt]
    have ht : tmB kw δ = false := by
      cases hq : tmB kw δ with
      | false => rfl
      | true => exact absurd (Or.inr hq) nt
    unfold bb_X10_clause_67_91
    obtain ⟨M1, e1, f1, p1⟩ := skipWord_m t hT p hl
    rw [if_pos h0, e1, bd_some, ltv_eq, (f1 67 7 rfl).1, h7, nI_1]
    have fw : Fr LRM M (wI M1 67 7 (nI (c + 1))) := Fr.tr (Fr.sub f1 (by decide)) (Fr.wrI rfl)
    have cs2 : MS h n δ (aE h a) (c + 1) (wI M1 67 7 (nI (c + 1))) := ⟨hT.LRM fw, (hD.fr f1 (by decide)).fr (Fr.wrI (L := [(67, 7)]) rfl) (by decide), p1, ((f1 67 5 rfl).1).trans h0, aE_le t hl, g, ((f1 67 6 rfl).1).trans pl, wI_at⟩
    generalize wI M1 67 7 (nI (c + 1)) = M2 at *
    have fin : ∀ o : Option Mm, (∃ M', o = some M' ∧ RsM h n (c + 1) (rsP h kw δ (aE h a)) M2 M') → ∃ M', (bd o fun M_16 => bd (f_X10_sign_67 59 M_16) fun M_18 => some M_18) = some M' ∧ ClM h n c (obd (rsP h kw δ (aE h a)) fun q => obd (smP h q.2) fun e => .inr (q.1, e)) M M' := by
      rintro o ⟨M3, e3, f3, r3⟩
      rw [e3, bd_some]
      have s3 : Fr LRM M M3 := Fr.tr fw (Fr.sub f3 (by decide))
      rcases r3 with ⟨k, q, ho, fs⟩ | ⟨δ', a', ho, cs3⟩
      · rw [sign_f fs.ne, bd_some, ho, obd_l]
        exact ⟨M3, rfl, s3, Or.inl ⟨k, q, rfl, fs⟩⟩
      · obtain ⟨M4, e4, f4, r4⟩ := sign_m t cs3
        rw [e4, bd_some, ho, obd_r]
        have s4 : Fr LRM M M4 := Fr.tr s3 (Fr.sub f4 (by decide))
        rcases r4 with ⟨k, q, hq, fs⟩ | ⟨e, hq, cs4⟩
        · exact ⟨M4, rfl, s4, Or.inl ⟨k, q, by show obd (smP h a') _ = _; rw [hq, obd_l], fs⟩⟩
        · exact ⟨M4, rfl, s4, Or.inr ⟨δ', e, by show obd (smP h a') _ = _; rw [hq, obd_r], cs4⟩⟩
    have t10 : kw = 0 ∨ kw = 1 ∨ kw = 2 → dL δ < 10 := by
      intro z
      have n6 : ¬ kw = 6 := by rcases z with rfl | rfl | rfl <;> decide
      unfold tmB at ht
      rw [if_neg n6, if_pos z] at ht
      have := of_decide_eq_false ht
      omega
    have hd : drB kw = true → 1 ≤ dL δ := fun z => by
      apply Classical.byContradiction
      intro y
      exact nb (Or.inr ⟨z, by omega⟩)
    rcases kin.resolve_left (fun z => nb (Or.inl z)) with rfl | rfl | rfl | rfl | rfl | rfl | rfl | rfl
    · rw [if_neg (by decide)]
      exact fin _ (rletter_m t cs2 (t10 (Or.inl rfl)) (Or.inl rfl))
    · rw [if_neg (by decide)]
      exact fin _ (rletter_m t cs2 (t10 (Or.inr (Or.inl rfl))) (Or.inr (Or.inl rfl)))
    · rw [if_neg (by decide)]
      exact fin _ (rletter_m t cs2 (t10 (Or.inr (Or.inr rfl))) (Or.inr (Or.inr rfl)))
    · rw [if_pos (by decide), if_neg (by decide)]
      exact fin _ (bar_m (kw := 3) t cs2 (hd rfl) (Or.inl rfl))
    · rw [if_pos (by decide), if_neg (by decide)]
      exact fin _ (bar_m (kw := 4) t cs2 (hd rfl) (Or.inr (Or.inl rfl)))
    · rw [if_pos (by decide), if_neg (by decide)]
      exact fin _ (bar_m (kw := 5) t cs2 (hd rfl) (Or.inr (Or.inr rfl)))
    · rw [if_pos (by decide), if_pos (by decide), if_pos rfl]
      exact fin _ (word_m t cs2 (by
        have := of_decide_eq_false ht
        omega))
    · rw [if_pos (by decide), if_pos (by decide), if_neg (by decide)]
      exact fin _ (spread_m t cs2)
  have e40 : ¬ (kw = -1 ∨ (drB kw = true ∧ dL δ = 0)) → ∃ M', bb_X10_clause_67_40 kw M = some M' ∧ ClM h n c (if kw = -1 ∨ (drB kw = true ∧ dL δ = 0) then .inl (1, a) else if 60 ≤ c ∨ tmB kw δ = true then .inl (3, a) else obd (rsP h kw δ (aE h a)) fun q => obd (smP h q.2) fun e => .inr (q.1, e)) M M' := by
    intro nb
    have b3 : (60 ≤ c ∨ tmB kw δ = true) → ∃ M', bb_X10_clause_67_82 kw M = some M' ∧ ClM h n c (if kw = -1 ∨ (drB kw = true ∧ dL δ = 0) then .inl (1, a) else if 60 ≤ c ∨ tmB kw δ = true then .inl (3, a) else obd (rsP h kw δ (aE h a)) fun q => obd (smP h q.2) fun e => .inr (q.1, e)) M M' := fun z => bad 3 _ (by decide) (by decide) (by rw [if_neg nb, if_pos z])
    unfold bb_X10_clause_67_40 bb_X10_clause_67_65
    rw [h7, d1, d3]
    by_cases c60 : c = 60
    · rw [if_pos (by rw [c60]; rfl)]
      exact b3 (Or.inl (by omega))
    rw [if_neg (show ¬ nI c = (60 : Int32) from fun z => c60 ((nI_eq (b := 60) (by omega) (by decide)).mp z))]
    have lt : tmB kw δ = false → ¬ (60 ≤ c ∨ tmB kw δ = true) := by
      intro z y
      rcases y with y | y
      · omega
      · rw [z] at y
        cases y
    rcases kin.resolve_left (fun z => nb (Or.inl z)) with hk | hk | hk | hk | hk | hk | hk | hk
    all_goals subst hk
    iterate 3
      · rw [if_neg (by decide)]
        by_cases q : dL δ = 10
        · rw [if_pos (by rw [q]; rfl)]
          exact b3 (Or.inr (decide_eq_true (by omega)))
        · rw [if_neg (show ¬ nI (dL δ) = (10 : Int32) from fun z => q ((nI_eq (b := 10) (by omega) (by decide)).mp z)), if_neg (by decide)]
          exact e91 nb (lt (decide_eq_false (by omega)))
    iterate 3
      · rw [if_pos (by decide), if_neg (by decide)]
        exact e91 nb (lt rfl)
    · rw [if_pos (by decide), if_pos rfl]
      by_cases q : dW δ = 6
      · rw [if_pos (by rw [q]; rfl)]
        exact b3 (Or.inr (decide_eq_true (by omega)))
      · rw [if_neg (show ¬ nI (dW δ) = (6 : Int32) from fun z => q ((nI_eq (b := 6) (by omega) (by decide)).mp z))]
        exact e91 nb (lt (decide_eq_false (by omega)))
    · rw [if_pos (by decide), if_neg (by decide)]
      exact e91 nb (lt rfl)
  by_cases km : kw = -1
  · rw [if_pos km]
    exact bad 1 _ (by decide) (by decide) (if_pos (Or.inl km))
  rw [if_neg km, f_inI, bd_some]
  have edr : inI kw 3 5 = drB kw := by
    rcases kin.resolve_left km with hk | hk | hk | hk | hk | hk | hk | hk
    all_goals rw [hk]; decide
  rw [edr]
  cases hq : drB kw with
  | false =>
    rw [if_pos (by decide)]
    rw [hq] at e40
    exact e40 (by
      rintro (z | z)
      · exact km z
      · cases z.1)
  | true =>
    rw [if_neg (by decide), d1]
    rw [hq] at e40
    by_cases z : dL δ = 0
    · rw [if_pos (by rw [z]; rfl)]
      exact bad 1 _ (by decide) (by decide) (if_pos (Or.inr ⟨rfl, z⟩))
    · rw [if_neg (show ¬ nI (dL δ) = (0 : Int32) from fun y => z ((nI_eq (b := 0) (by omega) (by decide)).mp y))]
      exact e40 (by rintro (y | y); exact km y; exact z y.2)
theorem load_m {h : Nat → Int32} {n : Nat} (t : Tx h n) : ∀ (f c fu : Nat) (δ : Dr) (a : Nat) (M : Mm), c + f = 62 → f + 1 < fu → c ≤ 60 → ¬ h a = 32 → MS h n δ a c M → ∃ M', b_X10_sheet_67_101 fu M = bb_X10_sheet_67_130 M' ∧ Fr LRM M M' ∧ ((∃ k p, ldP h n f c δ a = .inl (k, p) ∧ FSm n k p M') ∨ ∃ δ', ldP h n f c δ a = .inr δ' ∧ DM δ' M' ∧ GD δ' ∧ M'.1 67 5 = 0 ∧ M'.1 67 6 = -1) := by
  have h5 := t.1
  intro f
  induction f with
  | zero =>
    intro c fu δ a M h1 _ h3
    omega
  | succ f ih =>
    intro c fu δ a M h1 h2 h3 hb cs
    obtain ⟨fu, rfl⟩ : ∃ z, fu = z + 1 := ⟨fu - 1, by omega⟩
    obtain ⟨hT, hD, p, h0, hl, g, pl, h7⟩ := id cs
    show ∃ M', bb_X10_sheet_67_101 (b_X10_sheet_67_101 fu) M = bb_X10_sheet_67_130 M' ∧ Fr LRM M M' ∧ ((∃ k p, (if n ≤ a then .inr δ else obd (clP h δ c a) fun q => ldP h n f (c + 1) q.1 (sk h q.2)) = .inl (k, p) ∧ FSm n k p M') ∨ ∃ δ', (if n ≤ a then .inr δ else obd (clP h δ c a) fun q => ldP h n f (c + 1) q.1 (sk h q.2)) = .inr δ' ∧ DM δ' M' ∧ GD δ' ∧ M'.1 67 5 = 0 ∧ M'.1 67 6 = -1)
    unfold bb_X10_sheet_67_101
    rw [if_pos h0, hT.1, p]
    by_cases ce : n ≤ a
    · rw [if_pos (nI_le ce (by omega)), if_pos ce]
      exact ⟨M, rfl, Fr.refl, Or.inr ⟨δ, rfl, hD, g, h0, pl⟩⟩
    rw [if_neg (nI_ge (by omega) (by omega)), if_neg ce]
    obtain ⟨M1, e1, f1, r1⟩ := clause_m (c := c) t cs h3 hb
    rw [e1, bd_some]
    rcases r1 with ⟨k, q, ho, fs⟩ | ⟨δ', a', ho, cs1⟩
    · obtain ⟨fs1, fs2, fs3, fs4, a1, al, pa⟩ := id fs
      obtain ⟨M2, e2, f2, p2⟩ := blanks_m t (hT.LRM f1) pa al
      have fs' : FSm n k q M2 := ⟨((f2 67 5 rfl).1).trans fs1, ((f2 67 6 rfl).1).trans fs2, fs3, fs4, _, sk_le t al, p2⟩
      obtain ⟨fu, rfl⟩ : ∃ z, fu = z + 1 := ⟨fu - 1, by omega⟩
      have st : b_X10_sheet_67_101 (fu + 1) M2 = bb_X10_sheet_67_130 M2 := by
        show bb_X10_sheet_67_101 (b_X10_sheet_67_101 fu) M2 = _
        unfold bb_X10_sheet_67_101
        rw [if_neg fs'.ne]
      rw [e2, bd_some, st, ho, obd_l]
      exact ⟨M2, rfl, Fr.tr f1 (Fr.sub f2 (by decide)), Or.inl ⟨k, q, rfl, fs'⟩⟩
    · obtain ⟨hTa, hDa, pa, h0a, hla, ga, pla, h7a⟩ := id cs1
      obtain ⟨M2, e2, f2, p2⟩ := blanks_m t hTa pa hla
      have c60 : c < 60 := by
        apply Classical.byContradiction
        intro z
        have : c = 60 := by omega
        subst this
        obtain ⟨k, hk⟩ := clP_60 (h := h) (δ := δ) (a := a)
        rw [hk] at ho
        cases ho
      obtain ⟨M3, e3, f3, r3⟩ := ih (c + 1) fu δ' (sk h a') M2 (by omega) (by omega) (by omega) (sk_ok t a').2 ⟨hTa.fr f2 rfl (fun _ => rfl), hDa.fr f2 (by decide), p2, ((f2 67 5 rfl).1).trans h0a, sk_le t hla, ga, ((f2 67 6 rfl).1).trans pla, ((f2 67 7 rfl).1).trans h7a⟩
      rw [e2, bd_some, e3, ho, obd_r]
      exact ⟨M3, rfl, Fr.tr f1 (Fr.tr (Fr.sub f2 (by decide)) f3), r3⟩
