-- ===== the model: the draft =====
def LDM : List (Nat × Nat) := [(69, 999), (71, 999), (74, 999), (75, 999), (76, 999), (77, 999), (78, 999), (79, 999), (87, 999), (89, 999)]
def LRM : List (Nat × Nat) := [(67, 4), (67, 5), (67, 6), (67, 7)] ++ LDM
def LRN : List (Nat × Nat) := [(67, 4), (67, 5), (67, 6)] ++ LDM
def DM0 (δ : Dr) (M : Mm) : Prop := M.1 69 0 = nI (dL δ) ∧ (∀ i, i < dL δ → M.2 71 i = dI δ i) ∧ M.1 69 1 = nI (dW δ) ∧ (∀ w, w < dW δ → M.1 87 w = nI (dN δ w) ∧ ∀ k, k < dN δ w → M.1 (74 + w) k = nI (dXw δ w k)) ∧ ∀ z, z < 10 → M.1 89 z = nI (dS δ z)
def DM (δ : Dr) (M : Mm) : Prop := DM0 δ (vw LDM M)
theorem DM.fr {δ : Dr} {L : List (Nat × Nat)} {M M' : Mm} (h : DM δ M) (hf : Fr L M M') (hd : disjW L LDM = true) : DM δ M' := by
  unfold DM
  rw [vw_fr hf hd]
  exact h
theorem vw74 {M : Mm} : ∀ {w k : Nat}, w < 6 → (vw LDM M).1 (74 + w) k = M.1 (74 + w) k := by
  intro w k h
  rcases w with _ | _ | _ | _ | _ | _ | w
  · rfl
  · rfl
  · rfl
  · rfl
  · rfl
  · rfl
  · omega
theorem DM.of {δ : Dr} {M : Mm} (h : DM δ M) (g : GD δ) : DM0 δ M := by
  obtain ⟨h1, h2, h3, h4, h5⟩ := h
  exact ⟨h1, h2, h3, fun w hw => ⟨(h4 w hw).1, fun k hk => (vw74 (by have := g.2.1; omega)).symm.trans ((h4 w hw).2 k hk)⟩, h5⟩
theorem DM.mk {δ : Dr} {M : Mm} (h : DM0 δ M) (g : GD δ) : DM δ M := by
  obtain ⟨h1, h2, h3, h4, h5⟩ := h
  exact ⟨h1, h2, h3, fun w hw => ⟨(h4 w hw).1, fun k hk => (vw74 (by have := g.2.1; omega)).trans ((h4 w hw).2 k hk)⟩, h5⟩
def MS (h : Nat → Int32) (n : Nat) (δ : Dr) (a c : Nat) (M : Mm) : Prop := TM h n M ∧ DM δ M ∧ M.1 67 4 = nI a ∧ M.1 67 5 = 0 ∧ a ≤ n ∧ GD δ ∧ M.1 67 6 = -1 ∧ M.1 67 7 = nI c
theorem TM.LRN {h : Nat → Int32} {n : Nat} {M M' : Mm} (t : TM h n M) (f : Fr LRN M M') : TM h n M' := t.fr f rfl (fun _ => rfl)
theorem TM.LRM {h : Nat → Int32} {n : Nat} {M M' : Mm} (t : TM h n M) (f : Fr LRM M M') : TM h n M' := t.fr f rfl (fun _ => rfl)
theorem TM.F46 {h : Nat → Int32} {n : Nat} {M M' : Mm} (t : TM h n M) (f : Fr F46 M M') : TM h n M' := t.fr f rfl (fun _ => rfl)
def RsM (h : Nat → Int32) (n c : Nat) (o : Oc (Dr × Nat)) (M M' : Mm) : Prop := Fr LRN M M' ∧ ((∃ k p, o = .inl (k, p) ∧ FSm n k p M') ∨ ∃ δ a, o = .inr (δ, a) ∧ MS h n δ a c M')
-- ===== the model: spread =====
theorem spread_m {h : Nat → Int32} {n a c : Nat} {δ : Dr} {M : Mm} (t : Tx h n) (cs : MS h n δ a c M) : ∃ M', f_X10_readsSpread_67 M = some M' ∧ RsM h n c (spP h δ a) M M' := by
  obtain ⟨hT, hD, p, h0, hl, g, pl, hc⟩ := cs
  obtain ⟨M1, v1, e1, f1, r1⟩ := num_m (lo := 1) (hi := 10) t hT p hl h0 (by decide) (by decide)
  unfold f_X10_readsSpread_67 bb_X10_readsSpread_67_0
  rw [show f_X10_numberHere_67 1 9 M = some (v1, M1) from e1, bd2_some]
  have s1 : Fr LRN M M1 := Fr.sub f1 (by decide)
  rcases r1 with ⟨k, q, n1, _, fs⟩ | ⟨z, e, n1, rfl, p1, z1, y1⟩
  · rw [numm_f _ _ fs.ne, bd2_some, if_neg fs.ne]
    exact ⟨M1, rfl, s1, Or.inl ⟨k, q, by unfold spP; rw [n1], fs⟩⟩
  obtain ⟨b1, b2, b3⟩ := nmP_r t hl n1
  obtain ⟨M2, v2, e2, f2, r2⟩ := num_m (lo := 0) (hi := 17) t (hT.F46 f1) p1 b3 z1 (by decide) (by decide)
  rw [show f_X10_numberHere_67 0 16 M1 = some (v2, M2) from e2, bd2_some]
  have s2 : Fr LRN M M2 := Fr.tr s1 (Fr.sub f2 (by decide))
  rcases r2 with ⟨k, q, n2, _, fs⟩ | ⟨s, e', n2, rfl, p2, z2, y2⟩
  · rw [if_neg fs.ne]
    refine ⟨M2, rfl, s2, Or.inl ⟨k, q, ?_, fs⟩⟩
    unfold spP
    rw [n1]
    show (match nmP h e 0 17 with | .inl f => .inl f | .inr (s, e') => .inr (setS δ z s, e') : Oc (Dr × Nat)) = _
    rw [n2]
  obtain ⟨q1, q2, q3⟩ := nmP_r t b3 n2
  have hD2 : DM δ M2 := (hD.fr f1 (by decide)).fr f2 (by decide)
  rw [if_pos z2, gd_of (inb_nI (by omega) (by decide)), ltv_eq, ix_nI (by omega)]
  have fw : Fr LRN M (wI M2 89 z (nI s)) := Fr.tr s2 (Fr.wIa rfl)
  have gs : GD (setS δ z s) := g.setS (by omega)
  refine ⟨_, rfl, fw, Or.inr ⟨setS δ z s, e', ?_, hT.LRN fw, ?_, p2, z2, q3, gs, y2.trans (y1.trans pl), ((fw 67 7 rfl).1).trans hc⟩⟩
  · unfold spP
    rw [n1]
    show (match nmP h e 0 17 with | .inl f => .inl f | .inr (s, e') => .inr (setS δ z s, e') : Oc (Dr × Nat)) = _
    rw [n2]
  · obtain ⟨d1, d2, d3, d4, d5⟩ := hD2.of g
    refine DM.mk ⟨d1, d2, d3, fun w hw => ⟨(d4 w hw).1, fun k hk => ?_⟩, fun i hi => ?_⟩ gs
    · rw [wI_c (by have := g.2.1; have hw' : w < dW δ := hw; omega)]
      exact (d4 w hw).2 k hk
    · show (wI M2 89 z (nI s)).1 89 i = nI (if i = z then s else dS δ i)
      by_cases e : i = z
      · rw [if_pos e, e, wI_at]
      · rw [if_neg e, wI_i e]
        exact d5 i hi
-- ===== the model: a letter =====
def tauL (kw : Int32) (i : Nat) : Nat := if kw = 1 then 63 - i else mrS i
theorem tau_ok (kw : Int32) {i : Nat} (hi : i < 64) : tauL kw i < 64 ∧ tauL kw (tauL kw i) = i := by
  unfold tauL
  by_cases c : kw = 1
  · rw [if_pos c, if_pos c]
    omega
  · rw [if_neg c, if_neg c]
    exact mr_mr i hi
def tauV (kw : Int32) (x : Int64) : Int64 := if kw = 1 then Qrt (Qrt x) else Mir x
theorem tauV_lb (kw : Int32) (x : Int64) {i : Nat} (hi : i < 64) : lb (tauV kw x) i = lb x (tauL kw i) := by
  unfold tauV tauL
  by_cases c : kw = 1
  · rw [if_pos c, if_pos c, lb_half _ hi]
  · rw [if_neg c, if_neg c, lb_Mir _ hi]
theorem letter_in {kw : Int32} {x2 : Int64} {N : Mm} : b_X10_readsLetter_67_33 FU kw x2 0 0 N = (if N.1 67 5 = 0 then gd (inb (N.1 69 0) 10) (ltv (wJ N 71 (ix (N.1 69 0)) (tauV kw x2)) fun M_7 => ltv (wI M_7 69 0 (M_7.1 69 0 + 1)) fun M_8 => some M_8) else some N) := by
  refine for_q (fun q k (x4 : Int64) => b_X10_readsLetter_67_33 q kw x2 x4 (nI k) N) 64 (fun k x4 => ∀ i, i < 64 → lb x4 i = (decide (tauL kw i < k) && lb x2 (tauL kw i))) (fun o => o = (if N.1 67 5 = 0 then gd (inb (N.1 69 0) 10) (ltv (wJ N 71 (ix (N.1 69 0)) (tauV kw x2)) fun M_7 => ltv (wI M_7 69 0 (M_7.1 69 0 + 1)) fun M_8 => some M_8) else some N)) ?_ ?_ 64 0 0 FU rfl (by decide) (fun i hi => by rw [lb_0]; rfl)
  · intro q k x4 hk hI
    right
    show ∃ a', bb_X10_readsLetter_67_33 _ _ _ _ _ _ = _ ∧ _
    unfold bb_X10_readsLetter_67_33
    rw [if_neg (show ¬ (64 : Int32) ≤ nI k from nI_ge (b := 64) hk (by decide)), f_is x2 hk, bd_some]
    cases hb : lb x2 k with
    | false =>
      refine ⟨x4, ?_, fun i hi => ?_⟩
      · rw [if_pos (by decide), ltv_eq, nI_1]
      · rw [hI i hi]
        by_cases e : tauL kw i = k
        · rw [e, hb, Bool.and_false, Bool.and_false]
        · congr 1
          apply decide_eq_decide.mpr
          omega
    | true =>
      rw [if_neg (by decide)]
      obtain ⟨k1, k2⟩ := tau_ok kw hk
      refine ⟨x4 ||| shL 1 (nI (tauL kw k)), ?_, fun i hi => ?_⟩
      · by_cases c : kw = 1
        · rw [if_pos c, ltv_eq, ltv_eq, nI_1, show (63 : Int32) - nI k = nI (63 - k) from nI_sub (a := 63) (by omega)]
          unfold tauL
          rw [if_pos c]
        · have e : nI k - rmI (nI k) 8 + 7 - rmI (nI k) 8 = nI (mrS k) := by
            rw [show rmI (nI k) 8 = nI (k % 8) from rmI_nI (by omega) (by decide) (by decide), nI_sub (Nat.mod_le _ _), show nI (k - k % 8) + 7 = nI (k - k % 8 + 7) from nI_add _ 7, nI_sub (by omega)]
            rfl
          rw [if_neg c, ltv_eq, ltv_eq, nI_1, e]
          unfold tauL
          rw [if_neg c]
      · rw [lb_set _ k1 hi, hI i hi]
        by_cases e : tauL kw i = k
        · have : i = tauL kw k := by rw [← e, (tau_ok kw hi).2]
          rw [decide_eq_true this, e, hb, decide_eq_true (Nat.lt_succ_self k), Bool.or_true]
          rfl
        · have : ¬ i = tauL kw k := by
            intro z
            apply e
            rw [z, k2]
          rw [decide_eq_false this, Bool.or_false]
          congr 1
          apply decide_eq_decide.mpr
          omega
  · intro q x4 hI
    have e : x4 = tauV kw x2 := by
      apply lb_ext
      intro i hi
      rw [hI i hi, tauV_lb kw x2 hi, decide_eq_true (tau_ok kw hi).1]
      rfl
    rw [e]
    show bb_X10_readsLetter_67_33 _ _ _ _ _ _ = _
    unfold bb_X10_readsLetter_67_33
    rw [if_pos (by decide)]
theorem addm {h : Nat → Int32} {n a c : Nat} {δ : Dr} {M : Mm} {x : Int64} (cs : MS h n δ a c M) (h10 : dL δ < 10) : ∃ M', (if M.1 67 5 = 0 then gd (inb (M.1 69 0) 10) (ltv (wJ M 71 (ix (M.1 69 0)) x) fun M_7 => ltv (wI M_7 69 0 (M_7.1 69 0 + 1)) fun M_8 => some M_8) else some M) = some M' ∧ Fr LRN M M' ∧ MS h n (addL δ x) a c M' := by
  obtain ⟨hT, hD, p, h0, hl, g, pl, hc⟩ := cs
  obtain ⟨d1, d2, d3, d4, d5⟩ := hD.of g
  rw [if_pos h0, d1, gd_of (inb_nI h10 (by decide)), ltv_eq, ltv_eq, ix_nI (by omega)]
  have fw : Fr LRN M (wI (wJ M 71 (dL δ) x) 69 0 (nI (dL δ + 1))) := Fr.tr (Fr.wJa rfl) (Fr.wIa rfl)
  refine ⟨wI (wJ M 71 (dL δ) x) 69 0 (nI (dL δ + 1)), ?_, fw, hT.LRN fw, ?_, p, h0, hl, g.addL h10, pl, hc⟩
  · show some (wI (wJ M 71 (dL δ) x) 69 0 (M.1 69 0 + 1)) = _
    rw [d1, nI_1]
  · refine DM.mk ⟨wI_at, fun i hi => ?_, d3, fun w hw => ⟨(d4 w hw).1, fun k hk => ?_⟩, d5⟩ (g.addL h10)
    · show (wJ M 71 (dL δ) x).2 71 i = (if i = dL δ then x else dI δ i)
      by_cases e : i = dL δ
      · rw [if_pos e, e, wJ_at]
      · rw [if_neg e, wJ_i e]
        have hi' : i < dL δ + 1 := hi
        exact d2 i (by omega)
    · have hw' : w < dW δ := hw
      rw [wI_c (by omega)]
      exact (d4 w hw).2 k hk
theorem rletter_m {h : Nat → Int32} {n a c : Nat} {δ : Dr} {M : Mm} {kw : Int32} (t : Tx h n) (cs : MS h n δ a c M) (h10 : dL δ < 10) (hk : kw = 0 ∨ kw = 1 ∨ kw = 2) : ∃ M', f_X10_readsLetter_67 kw M = some M' ∧ RsM h n c (rsP h kw δ a) M M' := by
  unfold f_X10_readsLetter_67 bb_X10_readsLetter_67_0
  by_cases k0 : kw = 0
  · rw [if_pos k0, letter_in]
    obtain ⟨M', e1, f1, c1⟩ := addm (x := tauV kw 0) cs h10
    refine ⟨M', e1, f1, Or.inr ⟨addL δ (tauV kw 0), a, ?_, c1⟩⟩
    unfold rsP
    rw [if_pos k0]
    have : tauV kw 0 = 0 := by
      apply lb_ext
      intro i hi
      rw [tauV_lb kw 0 hi, lb_0, lb_0]
    rw [this]
  · rw [if_neg k0]
    obtain ⟨hT, hD, p, h0, hl, g, pl, hc⟩ := id cs
    obtain ⟨d1, d2, d3, d4, d5⟩ := hD.of g
    obtain ⟨M1, v1, e1, f1, r1⟩ := num_m (lo := 0) (hi := dL δ) t hT p hl h0 (by decide) (by omega)
    rw [d1, show f_X10_numberHere_67 0 (nI (dL δ) - 1) M = some (v1, M1) from e1, bd2_some]
    have s1 : Fr LRN M M1 := Fr.sub f1 (by decide)
    have er : ∀ b, b = decide (kw = 1) → rsP h kw δ a = cpP h b δ a := by
      intro b hb
      unfold rsP
      rcases hk with rfl | rfl | rfl
      · exact absurd rfl k0
      · rw [hb]; rfl
      · rw [hb]; rfl
    rw [er _ rfl]
    unfold cpP
    rcases r1 with ⟨k, q, n1, rfl, fs⟩ | ⟨s, e, n1, rfl, p1, z1, y1⟩
    · rw [gd_of (by decide), ltv_eq, letter_in, if_neg fs.ne, n1]
      exact ⟨M1, rfl, s1, Or.inl ⟨k, q, rfl, fs⟩⟩
    · obtain ⟨b1, b2, b3⟩ := nmP_r t hl n1
      have hD1 : DM δ M1 := hD.fr f1 (by decide)
      have cs1 : MS h n δ e c M1 := ⟨hT.F46 f1, hD1, p1, z1, b3, g, y1.trans pl, ((f1 67 7 rfl).1).trans hc⟩
      rw [gd_of (inb_nI (by omega) (by decide)), ltv_eq, ix_nI (by omega), (hD1.of g).2.1 s b2, letter_in, n1]
      obtain ⟨M', e2, f2, c2⟩ := addm (x := tauV kw (dI δ s)) cs1 h10
      refine ⟨M', e2, Fr.tr s1 f2, Or.inr ⟨addL δ (tauV kw (dI δ s)), e, ?_, c2⟩⟩
      show Sum.inr (addL δ (if decide (kw = 1) = true then Qrt (Qrt (dI δ s)) else Mir (dI δ s)), e) = Sum.inr (addL δ (tauV kw (dI δ s)), e)
      unfold tauV
      by_cases k1 : kw = 1
      · rw [if_pos k1, decide_eq_true k1, if_pos rfl]
      · rw [if_neg k1, decide_eq_false k1, if_neg (by decide)]
