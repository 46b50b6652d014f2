-- ===== press =====
def prA (a c : Nat) : Nat := if c ≤ a then a - c else c - a
theorem prA_c {a c : Nat} (ha : a < 2 ^ 30) (hc : c < 2 ^ 30) : (if 0 ≤ nI a - nI c then nI a - nI c else 0 - (nI a - nI c)) = nI (prA a c) := by
  unfold prA
  by_cases h : c ≤ a
  · rw [if_pos h, nI_sub h, if_pos (nI_pos' (by omega))]
  · rw [if_neg h, if_neg, Int32.zero_sub, Int32.neg_sub, nI_sub (by omega)]
    intro q
    have := pk_sneg (a := a) (b := c) hc (by omega)
    exact lt_nle this q
theorem prA_m {a c : Nat} (ha : a < 2 ^ 30) (hc : c < 2 ^ 30) : f_X10_amount (nI a - nI c) = some (nI (prA a c)) := by
  unfold f_X10_amount bb_X10_amount_0 prA
  by_cases h : c ≤ a
  · rw [if_pos h, nI_sub h, if_pos (nI_pos' (by omega))]
  · rw [if_neg h, if_neg, Int32.neg_sub, nI_sub (by omega)]
    intro q
    have := pk_sneg (a := a) (b := c) hc (by omega)
    exact lt_nle this q
def prF (σ : Sg) (c gr : Nat) : Nat := prA (smN (fun w => Col σ gr w 0) (sW σ) / sW σ) c
theorem sumC_le {σ : Sg} {gr : Nat} (g : Good σ) (hg : gr ≤ 16) : smN (fun w => Col σ gr w 0) (sW σ) ≤ 768000 := by
  have := smN_le (f := fun w => Col σ gr w 0) (b := 128000) (n := sW σ) (fun _ _ => Col_le hg)
  have h6 := g.2.1
  have : sW σ * 128000 ≤ 6 * 128000 := Nat.mul_le_mul_right _ h6
  omega
theorem prF_le {σ : Sg} {c gr : Nat} (g : Good σ) (hg : gr ≤ 16) (hc : c ≤ 99999) : prF σ c gr ≤ 768000 := by
  have h1 := sumC_le g hg
  have h2 := Nat.div_le_self (smN (fun w => Col σ gr w 0) (sW σ)) (sW σ)
  unfold prF prA
  generalize smN (fun w => Col σ gr w 0) (sW σ) / sW σ = q at *
  split <;> omega
theorem press_in {M : Mm} {σ : Sg} {c gr : Nat} (k17 : Int32 → Int32 → Int32 → Int32 → Mm → Option Int32) (x2 x3 : Int32) (g : Good σ) (hC : C4 σ M) (h0 : 0 < sW σ) (hg : gr ≤ 16) (hc : c ≤ 99999) : b_X6_spreadNearest_34_30 k17 FU (nI c) x2 x3 (nI gr) 0 0 M = if x3 ≤ nI (prF σ c gr) then k17 (nI c) x2 x3 (nI (gr + 1)) M else k17 (nI c) (nI gr) (nI (prF σ c gr)) (nI (gr + 1)) M := by
  have hW := g.2.1
  have e1 : M.1 34 1 = nI (sW σ) := (show C40 σ M from hC).2.1
  refine for_q (fun n i a => b_X6_spreadNearest_34_30 k17 n (nI c) x2 x3 (nI gr) a (nI i) M) (sW σ) (fun i a => a = nI (smN (fun w => Col σ gr w 0) i)) (fun o => o = if x3 ≤ nI (prF σ c gr) then k17 (nI c) x2 x3 (nI (gr + 1)) M else k17 (nI c) (nI gr) (nI (prF σ c gr)) (nI (gr + 1)) M) ?_ ?_ (sW σ) 0 (nI 0) FU (Nat.zero_add _) (by show sW σ < 200000; omega) rfl
  · rintro n i a hi rfl
    right
    refine ⟨_, ?_, rfl⟩
    show bb_X6_spreadNearest_34_30 _ _ _ _ _ _ _ _ _ = _
    unfold bb_X6_spreadNearest_34_30
    rw [e1, if_neg (nI_ge hi (by omega)), show f_X6_colourOf_34 (nI i) (nI gr) 0 M = some (nI (Col σ gr i 0)) from col_c g hC hi (by decide) hg, bd_some, ltv_eq, ltv_eq, nI_1, nI_add]
    rfl
  · rintro n a rfl
    show bb_X6_spreadNearest_34_30 _ _ _ _ _ _ _ _ _ = _
    unfold bb_X6_spreadNearest_34_30
    have h1 := sumC_le g hg
    have h2 := Nat.div_le_self (smN (fun w => Col σ gr w 0) (sW σ)) (sW σ)
    rw [e1, if_pos (nI_le (Nat.le_refl _) (by omega)), gd_of (decide_eq_true (nI_ne0 h0 (by omega))), pk_div (by omega) h0 (by omega), ltv_eq, ltv_eq, ltv_eq, nI_1, prA_c (by omega) (by omega)]
    rfl
theorem press_c {M : Mm} {σ : Sg} {c : Nat} (g : Good σ) (hC : C4 σ M) (h0 : 0 < sW σ) (hc : c ≤ 99999) : Gv (fun v => ∃ w, IsNr (prF σ c) 17 v w) (f_X6_spreadNearest_34 (nI c) M) := by
  have hW := g.2.1
  have e1 : M.1 34 1 = nI (sW σ) := (show C40 σ M from hC).2.1
  let f := prF σ c
  have fb : ∀ i, i ≤ 16 → f i ≤ 768000 := fun i hi => prF_le g hi hc
  unfold f_X6_spreadNearest_34 bb_X6_spreadNearest_34_0
  rw [e1, if_pos (nI_gt0 h0 (by omega))]
  refine for_q (fun n i (a : Int32 × Int32) => b_X6_spreadNearest_34_17 n (nI c) a.1 a.2 (nI i) M) 17 (fun i a => (i = 0 ∧ a = (-1, 1000000)) ∨ (0 < i ∧ IsNr f i a.1 a.2)) (Gv (fun v => ∃ w, IsNr f 17 v w)) ?_ ?_ 17 0 (-1, 1000000) FU rfl (by decide) (Or.inl ⟨rfl, rfl⟩)
  · rintro n i ⟨a, b⟩ hi hI
    right
    show ∃ a', bb_X6_spreadNearest_34_17 _ _ _ _ _ _ = _ ∧ _
    unfold bb_X6_spreadNearest_34_17
    have hf := fb i (by omega)
    rw [if_neg (show ¬ (16 : Int32) < nI i from nI_nlt (a := 16) (b := i) (by omega) (by decide) |> fun q z => absurd (show i ≤ 16 by omega) (fun _ => (nI_nlt (a := 16) (b := i) (by omega) (by decide)) z)), press_in _ a b g hC h0 (by omega) hc]
    show ∃ a', (if b ≤ nI (f i) then _ else _) = _ ∧ _
    rcases hI with ⟨rfl, q⟩ | ⟨h0', q⟩
    · obtain ⟨rfl, rfl⟩ := Prod.mk.inj q
      refine ⟨(nI 0, nI (f 0)), by rw [if_neg (show ¬ (1000000 : Int32) ≤ nI (f 0) from nI_ge (b := 1000000) (by omega) (by decide))], Or.inr ⟨by decide, fun e => absurd e (by decide), fun _ => ⟨0, by decide, rfl, rfl, fun j hj => ?_, fun j hj => absurd hj (Nat.not_lt_zero j)⟩⟩⟩
      obtain rfl : j = 0 := by omega
      exact Nat.le_refl _
    · obtain ⟨h, q1, q2, q3, q4, q5⟩ := q.2 h0'
      have q2' : a = nI h := q2
      have q3' : b = nI (f h) := q3
      have fh := fb h (by omega)
      by_cases e : f h ≤ f i
      · refine ⟨(a, b), by rw [if_pos (by rw [q3']; exact nI_le e (by omega))], Or.inr ⟨by omega, fun e => absurd e (by omega), fun _ => ⟨h, by omega, q2, q3, fun j hj => ?_, q5⟩⟩⟩
        rcases Nat.lt_or_ge j i with z | z
        · exact q4 j z
        · obtain rfl : j = i := by omega
          exact e
      · refine ⟨(nI i, nI (f i)), by rw [if_neg (by rw [q3']; exact nI_ge (by omega) (by omega))], Or.inr ⟨by omega, fun e => absurd e (by omega), fun _ => ⟨i, by omega, rfl, rfl, fun j hj => ?_, fun j hj => ?_⟩⟩⟩
        · rcases Nat.lt_or_ge j i with z | z
          · have := q4 j z
            omega
          · obtain rfl : j = i := by omega
            exact Nat.le_refl _
        · have := q4 j hj
          omega
  · rintro n ⟨a, b⟩ hI
    show Gv _ (bb_X6_spreadNearest_34_17 _ _ _ _ _ _)
    unfold bb_X6_spreadNearest_34_17
    rw [if_pos (by decide)]
    rcases hI with ⟨e, q⟩ | ⟨h0, q⟩
    · cases e
    · exact Gv.ret ⟨b, q⟩
theorem pressm_in {N : Mm} {σ : Sg} {c gr : Nat} (k38 : Int32 → Int32 → Int32 → Int32 → Mm → Option (Int32 × Mm)) (x2 x3 : Int32) (g : Good σ) (hM : SM σ N) (hB : LayB σ gr N) (h0 : 0 < sW σ) (hg : gr ≤ 16) (hc : c ≤ 99999) : b_X10_press_67_66 k38 FU (nI c) x2 x3 (nI gr) 0 0 N = if x2 = -1 then k38 (nI c) (nI gr) (nI (prF σ c gr)) (nI (gr + 1)) N else if nI (prF σ c gr) < x3 then k38 (nI c) (nI gr) (nI (prF σ c gr)) (nI (gr + 1)) N else k38 (nI c) x2 x3 (nI (gr + 1)) N := by
  have hW := g.2.1
  have e1 : N.1 70 1 = nI (sW σ) := hM.of.2.1
  refine for_q (fun n i a => b_X10_press_67_66 k38 n (nI c) x2 x3 (nI gr) a (nI i) N) (sW σ) (fun i a => a = nI (smN (fun w => Col σ gr w 0) i)) (fun o => o = if x2 = -1 then k38 (nI c) (nI gr) (nI (prF σ c gr)) (nI (gr + 1)) N else if nI (prF σ c gr) < x3 then k38 (nI c) (nI gr) (nI (prF σ c gr)) (nI (gr + 1)) N else k38 (nI c) x2 x3 (nI (gr + 1)) N) ?_ ?_ (sW σ) 0 (nI 0) FU (Nat.zero_add _) (by show sW σ < 200000; omega) rfl
  · rintro n i a hi rfl
    right
    refine ⟨_, ?_, rfl⟩
    show bb_X10_press_67_66 _ _ _ _ _ _ _ _ _ = _
    unfold bb_X10_press_67_66
    rw [e1, if_neg (nI_ge hi (by omega)), show f_X10_colourOf_67 (nI i) 0 N = some (nI (Col σ gr i 0)) from col_m g hM hB hi (by decide) hg, bd_some, ltv_eq, ltv_eq, nI_1, nI_add]
    rfl
  · rintro n a rfl
    show bb_X10_press_67_66 _ _ _ _ _ _ _ _ _ = _
    unfold bb_X10_press_67_66
    have h1 := sumC_le g hg
    have h2 := Nat.div_le_self (smN (fun w => Col σ gr w 0) (sW σ)) (sW σ)
    rw [e1, if_pos (nI_le (Nat.le_refl _) (by omega)), gd_of (decide_eq_true (nI_ne0 h0 (by omega))), pk_div (by omega) h0 (by omega), prA_m (by omega) (by omega), bd_some]
    simp only [ltv_eq, nI_1]
    rfl
theorem press_m {N : Mm} {σ : Sg} {c : Nat} {v w : Int32} (g : Good σ) (hM : SM σ N) (h0 : 0 < sW σ) (hc : c ≤ 99999) (hn : IsNr (prF σ c) 17 v w) : ∃ N', b_X10_press_67_38 FU (nI c) (-1) 0 0 N = some (v, N') ∧ Fr [(109, 999), (110, 999)] N N' := by
  have hW := g.2.1
  let f := prF σ c
  have fb : ∀ i, i ≤ 16 → f i ≤ 768000 := fun i hi => prF_le g hi hc
  refine for_q (fun n i (a : Int32 × Int32 × Mm) => b_X10_press_67_38 n (nI c) a.1 a.2.1 (nI i) a.2.2) 17 (fun i a => Fr [(109, 999), (110, 999)] N a.2.2 ∧ ((i = 0 ∧ a.1 = -1) ∨ (0 < i ∧ IsNr f i a.1 a.2.1))) (fun o => ∃ N', o = some (v, N') ∧ Fr [(109, 999), (110, 999)] N N') ?_ ?_ 17 0 (-1, 0, N) FU rfl (by decide) ⟨Fr.refl, Or.inl ⟨rfl, rfl⟩⟩
  · rintro n i ⟨a, b, K⟩ hi ⟨hF, hI⟩
    have hF' : Fr [(109, 999), (110, 999)] N K := hF
    have hK : SM σ K := hM.fr hF' (by decide)
    obtain ⟨K', k1, k2, k3⟩ := layB_m i g hK
    have hK' : SM σ K' := hK.fr k2 (by decide)
    right
    show ∃ a', bb_X10_press_67_38 _ _ _ _ _ _ = _ ∧ _
    unfold bb_X10_press_67_38
    have hf := fb i (by omega)
    rw [if_neg (show ¬ (17 : Int32) ≤ nI i from nI_ge hi (by decide)), show K.1 70 1 = nI (sW σ) from hK.of.2.1, if_neg (nI_nle h0 (by omega)), k1, bd_some, pressm_in _ a b g hK' k3 h0 (by omega) hc]
    show ∃ a', (if a = -1 then _ else (if nI (f i) < b then _ else _)) = _ ∧ _
    rcases hI with ⟨rfl, q⟩ | ⟨h0', q⟩
    · have q' : a = -1 := q
      refine ⟨(nI 0, nI (f 0), K'), by rw [if_pos q'], Fr.tr hF' k2, Or.inr ⟨by decide, fun e => absurd e (by decide), fun _ => ⟨0, by decide, rfl, rfl, fun j hj => ?_, fun j hj => absurd hj (Nat.not_lt_zero j)⟩⟩⟩
      obtain rfl : j = 0 := by omega
      exact Nat.le_refl _
    · obtain ⟨h, q1, q2, q3, q4, q5⟩ := q.2 h0'
      have q2' : a = nI h := q2
      have q3' : b = nI (f h) := q3
      have fh := fb h (by omega)
      have na : ¬ a = -1 := by rw [q2']; exact m1_ne (by omega)
      by_cases e : f h ≤ f i
      · refine ⟨(a, b, K'), by rw [if_neg na, if_neg (by rw [q3']; exact nI_nlt e (by omega))], Fr.tr hF' k2, Or.inr ⟨by omega, fun e => absurd e (by omega), fun _ => ⟨h, by omega, q2, q3, fun j hj => ?_, q5⟩⟩⟩
        rcases Nat.lt_or_ge j i with z | z
        · exact q4 j z
        · obtain rfl : j = i := by omega
          exact e
      · refine ⟨(nI i, nI (f i), K'), by rw [if_neg na, if_pos (by rw [q3']; exact nI_lt (by omega) (by omega))], Fr.tr hF' k2, Or.inr ⟨by omega, fun e => absurd e (by omega), fun _ => ⟨i, by omega, rfl, rfl, fun j hj => ?_, fun j hj => ?_⟩⟩⟩
        · rcases Nat.lt_or_ge j i with z | z
          · have := q4 j z
            omega
          · obtain rfl : j = i := by omega
            exact Nat.le_refl _
        · have := q4 j hj
          omega
  · rintro n ⟨a, b, K⟩ ⟨hF, hI⟩
    show ∃ N', bb_X10_press_67_38 _ _ _ _ _ _ = _ ∧ _
    unfold bb_X10_press_67_38
    rw [if_pos (by decide)]
    rcases hI with ⟨e, q⟩ | ⟨_, q⟩
    · cases e
    · obtain ⟨rfl, _⟩ := IsNr.uniq q hn
      exact ⟨K, rfl, hF⟩
theorem c_press {M : Mm} (x : Int32) (h : Rel M) : AnsI (fw_L_press_0_120 x M) (f_X10_press_67 x) := by
  obtain ⟨σ, β, hR⟩ := id h
  obtain ⟨g, gB, hC, hM, hb, hm, hT, hI⟩ := id hR
  have hW := g.2.1
  cases hx : inI x 0 99999 with
  | false =>
    refine ans_t (c := 1) (w := 0) h (by decide) ?_ ?_
    · simp only [fw_L_press_0_120, t_X9_press_0, t_needR_f hx, orx]
    · simp only [f_X10_press_67, bb_X10_press_67_0, ltv_eq, f_inI, hx, bd_some, Bool.false_eq_true, if_false, if_true, bb_X10_press_67_22, bad1 (M := wI M 67 0 0) (k := 1) rfl (by decide), bd2_some, i10]
  | true =>
    obtain ⟨c, rfl, _, hc⟩ := inI_nI (b := 0) (c := 99999) (by decide) hx (by decide)
    have cl : ∀ v, f_X6_spreadNearest_34 (nI c) M = some v → fw_L_press_0_120 (nI c) M = some (0, wJ M 120 0 v.toInt64) := by
      intro v e
      simp only [fw_L_press_0_120, t_X9_press_0, t_needR_t hx, orx, f_L_press_0_120, bb_L_press_0_120_0, f_X9_press_0, bb_X9_press_0_0, f_needR hx, bd_some, e, ltv_eq]
    by_cases h0 : sW σ = 0
    · refine ans_g (L := []) (v := -1) h (cl (-1) ?_) ⟨wI (wJ M 120 0 (-1 : Int32).toInt64) 67 0 0, ?_, Fr.refl⟩ rfl rfl rfl
      · unfold f_X6_spreadNearest_34 bb_X6_spreadNearest_34_0
        rw [(show C40 σ M from hC.2.2.2.2.1).2.1, h0]
        rfl
      · obtain ⟨hM', _⟩ := hR.md (-1 : Int32).toInt64
        generalize hN : wI (wJ M 120 0 (-1 : Int32).toInt64) 67 0 0 = N at hM'
        have N0 : N.1 67 0 = 0 := by rw [← hN]; rfl
        have p : b_X10_press_67_38 FU (nI c) (-1) 0 0 N = some (-1, N) := by
          show bb_X10_press_67_38 (b_X10_press_67_38 199999) (nI c) (-1) 0 0 N = _
          unfold bb_X10_press_67_38
          rw [hM'.of.2.1, h0]
          rfl
        simp only [f_X10_press_67, bb_X10_press_67_0, ltv_eq, hN, f_inI, hx, bd_some, i10, if_false, if_true, bb_X10_press_67_22, bad0 N0, bd2_some, p]
    · obtain ⟨v, e, w, hn⟩ := press_c g hC.2.2.2.2.1 (by omega) hc
      obtain ⟨hM', _⟩ := hR.md v.toInt64
      obtain ⟨N', p, pf⟩ := press_m g hM' (by omega) hc hn
      refine ans_g (L := [(109, 999), (110, 999)]) (v := v) h (cl v e) ⟨N', ?_, pf⟩ rfl rfl (by decide)
      generalize hN : wI (wJ M 120 0 v.toInt64) 67 0 0 = N at hM' p
      have N0 : N.1 67 0 = 0 := by rw [← hN]; rfl
      simp only [f_X10_press_67, bb_X10_press_67_0, ltv_eq, hN, f_inI, hx, bd_some, i10, if_false, if_true, bb_X10_press_67_22, bad0 N0, bd2_some, p]
-- ===== can =====
def canH (σ : Sg) (β : Bn) (p h : Nat) : Bool := decide (sOwn σ h = p) && (!decide ((sHol σ h &&& bS β) = 0) && Brs (bS β) (sHol σ h))
def lftH (σ : Sg) (β : Bn) (p h : Nat) : Bool := decide (sOwn σ h = p) && !decide ((sHol σ h &&& bS β) = 0)
def IsCan (σ : Sg) (β : Bn) (p : Nat) (v : Int32) : Prop := (v = 1 ∧ (sInk σ p &&& (bS β ^^^ -1)) = 0 ∧ ∀ h, h < sH σ → canH σ β p h = false) ∨ (v = 0 ∧ (¬ (sInk σ p &&& (bS β ^^^ -1)) = 0 ∨ ∃ h, h < sH σ ∧ canH σ β p h = true))
theorem IsCan.uniq {σ : Sg} {β : Bn} {p : Nat} {v w : Int32} (h1 : IsCan σ β p v) (h2 : IsCan σ β p w) : v = w := by
  rcases h1 with ⟨rfl, a1, a2⟩ | ⟨rfl, a⟩ <;> rcases h2 with ⟨rfl, b1, b2⟩ | ⟨rfl, b⟩
  · rfl
  · rcases b with b | ⟨h, b, b'⟩
    · exact absurd a1 b
    · rw [a2 h b] at b'
      cases b'
  · rcases a with a | ⟨h, a, a'⟩
    · exact absurd b1 a
    · rw [b2 h a] at a'
      cases a'
  · rfl
theorem inkOf_c {M : Mm} {σ : Sg} {k : Nat} (g : Good σ) (hC : SC σ M) (hk : k < sL σ) : f_X7_inkOf_11 (nI k) M = some (sInk σ k) := by
  have hL := g.1
  unfold f_X7_inkOf_11 bb_X7_inkOf_11_0
  rw [if_neg (nI_pos (by omega)), hC.of.1, if_neg (nI_ge hk (by omega)), gd_of (inb_nI (by omega) (by decide)), ix_nI (by omega), hC.of.2.2.2.1 k hk]
theorem isLeft_c {M : Mm} {σ : Sg} {β : Bn} {p h : Nat} (g : Good σ) (hC : SC σ M) (hb : BC0 β 50 M) (hp : p < sL σ) (hpe : bP β = nI p) (hh : h < sH σ) : f_X0_isLeft_50_11 (nI h) M = some (if lftH σ β p h then 1 else 0) := by
  have hL := g.1
  have h16 := g.2.2.2.2.1
  have ho := (g.2.2.2.2.2 h hh).1
  have s := hC.of
  have e : bP β ≠ -1 := by rw [hpe]; exact m1_ne (by omega)
  unfold f_X0_isLeft_50_11 bb_X0_isLeft_50_11_0
  rw [gd_of (inb_nI (by omega) (by decide)), gd_of (inb_nI (by omega) (by decide)), ix_nI (by omega), (s.2.2.2.2.2.2 h hh).1, (s.2.2.2.2.2.2 h hh).2, hb.1, hpe, (hb.2.1.2 e).1, xor_xor]
  unfold lftH
  by_cases q : sOwn σ h = p
  · rw [if_pos (by rw [q])]
    by_cases q2 : (sHol σ h &&& bS β) = 0
    · rw [if_pos q2]
      simp [q2]
    · rw [if_neg q2]
      simp [q, q2]
  · rw [if_neg (fun z => q ((nI_inj10 (by omega) (by omega)).mp z))]
    simp [q]
theorem can_c {M : Mm} {σ : Sg} {β : Bn} {p : Nat} (g : Good σ) (hC : SC σ M) (hb : BC0 β 50 M) (hp : p < sL σ) (hpe : bP β = nI p) : Gv (IsCan σ β p) (f_X0_canBeDone_50_11 M) := by
  have hL := g.1
  have h16 := g.2.2.2.2.1
  have s := hC.of
  have e : bP β ≠ -1 := by rw [hpe]; exact m1_ne (by omega)
  unfold f_X0_canBeDone_50_11 bb_X0_canBeDone_50_11_0
  rw [hb.1, hpe, inkOf_c g hC hp, bd_some, (hb.2.1.2 e).1]
  by_cases gd' : (sInk σ p &&& (bS β ^^^ -1)) = 0
  · rw [if_pos ((and_not0 _ _).mpr gd')]
    refine for_q (fun n i (_ : Unit) => b_X0_canBeDone_50_11_22 n (nI i) M) (sH σ) (fun i _ => ∀ j, j < i → canH σ β p j = false) (Gv (IsCan σ β p)) ?_ ?_ (sH σ) 0 () FU (Nat.zero_add _) (by show sH σ < 200000; omega) (fun j hj => absurd hj (Nat.not_lt_zero j))
    · intro n i _ hi hI
      show Gv _ (bb_X0_canBeDone_50_11_22 _ _ _) ∨ ∃ a', bb_X0_canBeDone_50_11_22 _ _ _ = _ ∧ _
      unfold bb_X0_canBeDone_50_11_22
      rw [s.2.2.1, if_neg (nI_ge hi (by omega)), isLeft_c g hC hb hp hpe hi, bd_some, gd_of (inb_nI (by omega) (by decide)), ix_nI (by omega), (s.2.2.2.2.2.2 i hi).1, (hb.2.1.2 e).1, bursts_ok, xor_xor, bd_some]
      simp only [ltv_eq, nI_1]
      have nx : canH σ β p i = false → ∀ j, j < i + 1 → canH σ β p j = false := by
        intro q j hj
        rcases Nat.lt_or_ge j i with z | z
        · exact hI j z
        · obtain rfl : j = i := by omega
          exact q
      cases hl : lftH σ β p i with
      | false =>
        right
        refine ⟨(), by rw [if_pos (by decide)], nx ?_⟩
        unfold lftH at hl
        unfold canH
        rw [← Bool.and_assoc, hl]
        rfl
      | true =>
        cases hbr : Brs (bS β) (sHol σ i) with
        | false =>
          right
          refine ⟨(), by rw [if_neg (by decide), if_pos (by decide)], nx ?_⟩
          unfold canH
          rw [hbr, Bool.and_false, Bool.and_false]
        | true =>
          left
          rw [if_neg (by decide), if_neg (by decide)]
          refine Gv.ret (Or.inr ⟨rfl, Or.inr ⟨i, hi, ?_⟩⟩)
          unfold lftH at hl
          unfold canH
          rw [← Bool.and_assoc, hl, hbr]
          rfl
    · intro n _ hI
      show Gv _ (bb_X0_canBeDone_50_11_22 _ _ _)
      unfold bb_X0_canBeDone_50_11_22
      rw [s.2.2.1, if_pos (nI_le (Nat.le_refl _) (by omega))]
      exact Gv.ret (Or.inl ⟨rfl, gd', hI⟩)
  · rw [if_neg (fun z => gd' ((and_not0 _ _).mp z))]
    exact Gv.ret (Or.inr ⟨rfl, Or.inl gd'⟩)
theorem can_m {N : Mm} {σ : Sg} {β : Bn} {p : Nat} (g : Good σ) (hM : SM σ N) (hb : BM0 β N) (hp : p < sL σ) (hpe : bP β = nI p) : Gv (IsCan σ β p) (f_X10_canBe_67 N) := by
  have hL := g.1
  have h16 := g.2.2.2.2.1
  have s := hM.of
  have e : bP β ≠ -1 := by rw [hpe]; exact m1_ne (by omega)
  obtain ⟨t3, t4⟩ := hb.2.1 e
  unfold f_X10_canBe_67 bb_X10_canBe_67_0
  rw [hb.1, if_neg e, hpe]
  unfold f_X10_isGood_67 bb_X10_isGood_67_0
  rw [gd_of (inb_nI (by omega) (by decide)), ix_nI (by omega), s.2.2.2.1 p hp, t3]
  by_cases gd' : (sInk σ p &&& (bS β ^^^ -1)) = 0
  · rw [if_pos gd', bd_some, if_neg (by decide)]
    refine for_q (fun n i (_ : Unit) => b_X10_canBe_67_23 n (nI i) N) (sH σ) (fun i _ => ∀ j, j < i → canH σ β p j = false) (Gv (IsCan σ β p)) ?_ ?_ (sH σ) 0 () FU (Nat.zero_add _) (by show sH σ < 200000; omega) (fun j hj => absurd hj (Nat.not_lt_zero j))
    · intro n i _ hi hI
      show Gv _ (bb_X10_canBe_67_23 _ _ _) ∨ ∃ a', bb_X10_canBe_67_23 _ _ _ = _ ∧ _
      unfold bb_X10_canBe_67_23
      have ho := (g.2.2.2.2.2 i hi).1
      have i16 : inb (nI i) 16 = true := inb_nI (by omega) (by decide)
      rw [s.2.2.1, if_neg (nI_ge hi (by omega))]
      simp only [gd_of i16, ix_nI (show i < 2 ^ 31 by omega), (s.2.2.2.2.2.2 i hi).1, (s.2.2.2.2.2.2 i hi).2, hb.1, hpe, t3, g_beside, bd_some, ltv_eq, nI_1]
      have nx : canH σ β p i = false → ∀ j, j < i + 1 → canH σ β p j = false := by
        intro q j hj
        rcases Nat.lt_or_ge j i with z | z
        · exact hI j z
        · obtain rfl : j = i := by omega
          exact q
      by_cases q : sOwn σ i = p
      · rw [if_pos (by rw [q])]
        by_cases q2 : (sHol σ i &&& bS β) = 0
        · right
          refine ⟨(), by rw [if_pos q2], nx ?_⟩
          unfold canH
          simp [q2]
        · rw [if_neg q2]
          by_cases q3 : ((Adj (sHol σ i) &&& (sHol σ i ^^^ -1)) &&& (bS β ^^^ -1)) = 0
          · right
            refine ⟨(), by rw [if_pos q3], nx ?_⟩
            have bq : Brs (bS β) (sHol σ i) = false := by
              unfold Brs Bes
              rw [decide_eq_true q3]
              rfl
            unfold canH
            rw [bq]
            simp
          · left
            rw [if_neg q3]
            refine Gv.ret (Or.inr ⟨rfl, Or.inr ⟨i, hi, ?_⟩⟩)
            have bq : Brs (bS β) (sHol σ i) = true := by
              unfold Brs Bes
              rw [decide_eq_false q3]
              rfl
            unfold canH
            rw [bq, decide_eq_false q2, decide_eq_true q]
            rfl
      · right
        refine ⟨(), by rw [if_neg (fun z => q ((nI_inj10 (by omega) (by omega)).mp z))], nx ?_⟩
        unfold canH
        simp [q]
    · intro n _ hI
      show Gv _ (bb_X10_canBe_67_23 _ _ _)
      unfold bb_X10_canBe_67_23
      rw [s.2.2.1, if_pos (nI_le (Nat.le_refl _) (by omega))]
      exact Gv.ret (Or.inl ⟨rfl, gd', hI⟩)
  · rw [if_neg gd', bd_some, if_pos rfl]
    exact Gv.ret (Or.inr ⟨rfl, Or.inl gd'⟩)
theorem IsCan.b {σ : Sg} {β : Bn} {p : Nat} {v : Int32} (h : IsCan σ β p v) : v = 0 ∨ v = 1 := by
  rcases h with ⟨rfl, _⟩ | ⟨rfl, _⟩
  · exact Or.inr rfl
  · exact Or.inl rfl
theorem c_can {M : Mm} (h : Rel M) : ∃ v M2, f_X9_can_0 M = some v ∧ f_X10_can_67 M = some (v, M2) ∧ Rel M2 := by
  obtain ⟨σ, β, hR⟩ := id h
  obtain ⟨g, gB, hC, hM, hb, hm, _⟩ := id hR
  have b1 : BC0 β 50 M := hb
  have hp := hasP g.1 hC.1.of.1 b1.1 gB.1
  have rl : Rl σ β (wI M 67 0 0) := hR.fr (Fr.wrI (L := [(67, 0)]) rfl) d67
  have b2 : BM0 β (wI M 67 0 0) := rl.2.2.2.2.2.1
  by_cases e : bP β = -1
  · refine ⟨0, wI M 67 0 0, ?_, ?_, ⟨σ, β, rl⟩⟩
    · unfold f_X9_can_0 bb_X9_can_0_0
      rw [hp.1 e]
      rfl
    · unfold f_X10_can_67 bb_X10_can_67_0 f_X10_canBe_67 bb_X10_canBe_67_0
      rw [ltv_eq, b2.1, if_pos e]
      rfl
  · rcases gB.1 with q | ⟨p, hpL, hpe⟩
    · exact absurd q e
    · obtain ⟨v, v1, v2⟩ := can_c g hC.1 b1 hpL hpe
      obtain ⟨w, w1, w2⟩ := can_m g rl.2.2.2.1 b2 hpL hpe
      obtain rfl := IsCan.uniq v2 w2
      refine ⟨v, wI M 67 0 0, ?_, ?_, ⟨σ, β, rl⟩⟩
      · unfold f_X9_can_0 bb_X9_can_0_0
        rw [hp.2 e, bd_some, if_neg (by decide), v1, bd_some]
        rcases v2.b with rfl | rfl <;> rfl
      · unfold f_X10_can_67 bb_X10_can_67_0
        rw [ltv_eq, w1, bd_some]
        rcases v2.b with rfl | rfl <;> rfl
-- ===== judge =====
def actS (σ : Sg) (L : Nat) (st : Int64) : Ac → Int64
  | .inl h => if sOwn σ h = L then Stk st (sHol σ h) else st
  | .inr q => st &&& (Fil q.1 q.2.1 q.2.2 ^^^ -1)
def stA (σ : Sg) (β : Bn) (L : Nat) : Nat → Int64
  | 0 => -1
  | k + 1 => actS σ L (stA σ β L k) (bAc β k)
theorem or_not (a b : Int64) : (a ^^^ -1) ||| b = (a &&& (b ^^^ -1)) ^^^ -1 := by
  rw [← xor_xor ((a ^^^ -1) ||| b), not_or, xor_xor]
theorem act_c {M : Mm} {σ : Sg} {β : Bn} {L k : Nat} (st : Int64) (g : Good σ) (gB : GoodB σ β) (hC : SC σ M) (hb : BC0 β 50 M) (hL : L < sL σ) (hk : k < bA β) : f_X0_goneBehindAct_50_11 (nI L) (nI k) (st ^^^ -1) M = some (actS σ L st (bAc β k) ^^^ -1) := by
  have hL10 := g.1
  have h16 := g.2.2.2.2.1
  have s := hC.of
  have a40 := gB.2.2.1
  have ok := gB.2.2.2.1 k hk
  have ac : AcC (M.1 51 k) (M.2 52 k) (bAc β k) := hb.2.2.2.1 k hk
  have k40 : inb (nI k) 40 = true := inb_nI (by omega) (by decide)
  unfold f_X0_goneBehindAct_50_11 bb_X0_goneBehindAct_50_11_0
  rw [gd_of k40, ltv_eq, gd_of k40, ix_nI (by omega)]
  cases hA : bAc β k with
  | inl h =>
    rw [hA] at ok ac
    have ac' : M.1 51 k = nI h := ac
    have ok' : h < sH σ := ok
    have ho := (g.2.2.2.2.2 h ok').1
    unfold bb_X0_goneBehindAct_50_11_48
    rw [ac', if_neg (nI_pos (by omega)), s.2.2.1, if_pos (nI_lt ok' (by omega)), gd_of (inb_nI (by omega) (by decide)), gd_of (inb_nI (by omega) (by decide)), ix_nI (by omega), (s.2.2.2.2.2.2 h ok').1, (s.2.2.2.2.2.2 h ok').2, struck_ok, xor_xor, bd_some, or_not]
    show _ = some ((if sOwn σ h = L then Stk st (sHol σ h) else st) ^^^ -1)
    by_cases q : sOwn σ h = L
    · rw [if_pos (by rw [q]), if_pos q, if_neg (by decide)]
      rfl
    · rw [if_neg (fun z => q ((nI_inj10 (by omega) (by omega)).mp z)), if_neg q, if_pos rfl]
  | inr q =>
    rw [hA] at ok ac
    have ac' : M.1 51 k = -1 ∧ M.2 52 k = Fil q.1 q.2.1 q.2.2 := ac
    rw [ac'.1, ac'.2, if_pos (by decide), or_not]
    rfl
theorem act_m {N : Mm} {σ : Sg} {β : Bn} {L k : Nat} {st : Int64} (g : Good σ) (gB : GoodB σ β) (hM : SM σ N) (hb : AcM (N.1 93 k) (bAc β k)) (hL : L < sL σ) (hk : k < bA β) (hst : N.2 67 22 = st) (k68 : Int32 → Int32 → Int64 → Int32 → Int32 → Mm → Option (Int32 × Mm)) (x2 : Int32) (x3 : Int64) (x5 : Int32) (hA : ¬ N.1 67 25 ≤ nI k) :
    bb_X10_judge_67_68 k68 (nI L) x2 x3 x5 (nI k) N = bb_X10_judge_67_147 k68 (nI L) x2 x3 x5 (nI k) (wJ N 67 22 (actS σ L st (bAc β k))) := by
  have hL10 := g.1
  have h16 := g.2.2.2.2.1
  have s := hM.of
  have a40 := gB.2.2.1
  have ok := gB.2.2.2.1 k hk
  unfold bb_X10_judge_67_68
  rw [if_neg hA, gd_of (inb_nI (show k < 40 by omega) (by decide)), ltv_eq, ix_nI (show k < 2 ^ 31 by omega)]
  cases hA' : bAc β k with
  | inl h =>
    rw [hA'] at ok hb
    have ac' : N.1 93 k = nI h := hb
    have ok' : h < sH σ := ok
    have ho := (g.2.2.2.2.2 h ok').1
    rw [ac', if_pos (show nI h < (100 : Int32) from nI_lt (b := 100) (by omega) (by decide)), gd_of (inb_nI (by omega) (by decide)), ix_nI (by omega), (s.2.2.2.2.2.2 h ok').2, blows_ok (by omega) (s.2.2.2.2.2.2 h ok').1, bd2_some, hst]
    show _ = bb_X10_judge_67_147 k68 (nI L) x2 x3 x5 (nI k) (wJ N 67 22 (if sOwn σ h = L then Stk st (sHol σ h) else st))
    by_cases q : sOwn σ h = L
    · rw [if_pos (by rw [q]), if_pos q]
    · rw [if_neg (fun z => q ((nI_inj10 (by omega) (by omega)).mp z)), if_neg q, wJ_same hst]
  | inr q =>
    obtain ⟨a, b, c⟩ := q
    rw [hA'] at ok hb
    have ac' : N.1 93 k = nI (100 + 64 * a + 8 * b + c - 1) := hb
    have ok' : a < 4 ∧ b < 8 ∧ 1 ≤ c ∧ c ≤ 8 := ok
    rw [ac', if_neg (show ¬ nI (100 + 64 * a + 8 * b + c - 1) < (100 : Int32) from nI_nlt (b := 100) (by omega) (by omega)), show nI (100 + 64 * a + 8 * b + c - 1) - (100 : Int32) = nI (64 * a + 8 * b + c - 1) from by
      rw [show (100 : Int32) = nI 100 from rfl, nI_sub (by omega)]
      congr 1
      omega, show (64 : Int32) = nI 64 from rfl, show (8 : Int32) = nI 8 from rfl, pk_div (by omega) (by decide) (by decide), pk_div (by omega) (by decide) (by decide), rmI_nI (by omega) (by decide) (by decide), rmI_nI (by omega) (by decide) (by decide), nI_1, show (64 * a + 8 * b + c - 1) / 64 = a by omega, show (64 * a + 8 * b + c - 1) / 8 % 8 = b by omega, show (64 * a + 8 * b + c - 1) % 8 + 1 = c by omega, files_ok N ok'.1 ok'.2.1 ok'.2.2.2, bd_some, hst]
    rfl
theorem IsFst.step {P : Nat → Bool} {n : Nat} {v : Int32} (h : IsFst P n v) (hn : n < 1000) : IsFst P (n + 1) (if v = -1 then (if P n then nI n else -1) else v) := by
  rcases h with ⟨rfl, a⟩ | ⟨k, a1, a2, a3, rfl⟩
  · rw [if_pos rfl]
    cases hp : P n with
    | true => exact Or.inr ⟨n, by omega, hp, a, rfl⟩
    | false =>
      refine Or.inl ⟨rfl, fun j hj => ?_⟩
      rcases Nat.lt_or_ge j n with z | z
      · exact a j z
      · obtain rfl : j = n := by omega
        exact hp
  · rw [if_neg (m1_ne (by omega))]
    exact Or.inr ⟨k, by omega, a2, a3, rfl⟩
def spoB (σ : Sg) (β : Bn) (L k : Nat) : Bool := !decide ((sInk σ L &&& (stA σ β L (k + 1) ^^^ -1)) = 0)
theorem judge_c0 {M : Mm} {σ : Sg} {β : Bn} {L : Nat} (g : Good σ) (gB : GoodB σ β) (hC : SC σ M) (hb : BC0 β 50 M) (hL : L < sL σ) : Gv (IsFst (spoB σ β L) (bA β)) (f_X0_firstSpoiling_50_11 (nI L) M) := by
  have a40 := gB.2.2.1
  refine for_q (fun n i a => b_X0_firstSpoiling_50_11_5 n (nI L) a (nI i) M) (bA β) (fun i a => a = stA σ β L i ^^^ -1 ∧ ∀ j, j < i → spoB σ β L j = false) (Gv (IsFst (spoB σ β L) (bA β))) ?_ ?_ (bA β) 0 0 FU (Nat.zero_add _) (by show bA β < 200000; omega) ⟨by show (0 : Int64) = (-1 : Int64) ^^^ -1; decide, fun j hj => absurd hj (Nat.not_lt_zero j)⟩
  · rintro n i a hi ⟨rfl, hI⟩
    show Gv _ (bb_X0_firstSpoiling_50_11_5 _ _ _ _ _) ∨ ∃ a', bb_X0_firstSpoiling_50_11_5 _ _ _ _ _ = _ ∧ _
    unfold bb_X0_firstSpoiling_50_11_5
    rw [hb.2.2.1, if_neg (nI_ge hi (by omega)), if_neg (show ¬ (40 : Int32) ≤ nI i from nI_ge (b := 40) (by omega) (by decide)), act_c _ g gB hC hb hL hi, bd_some, inkOf_c g hC hL, bd_some, ltv_eq, nI_1]
    show Gv _ (if ((stA σ β L (i + 1) ^^^ -1) &&& sInk σ L) = 0 then _ else _) ∨ ∃ a', (if ((stA σ β L (i + 1) ^^^ -1) &&& sInk σ L) = 0 then _ else _) = _ ∧ _
    by_cases q : (sInk σ L &&& (stA σ β L (i + 1) ^^^ -1)) = 0
    · right
      refine ⟨stA σ β L (i + 1) ^^^ -1, by rw [if_pos ((and_not0 _ _).mpr q)]; rfl, rfl, fun j hj => ?_⟩
      rcases Nat.lt_or_ge j i with z | z
      · exact hI j z
      · obtain rfl : j = i := by omega
        unfold spoB
        rw [decide_eq_true q]
        rfl
    · left
      rw [if_neg (fun z => q ((and_not0 _ _).mp z))]
      exact Gv.ret (Or.inr ⟨i, hi, by unfold spoB; rw [decide_eq_false q]; rfl, hI, rfl⟩)
  · rintro n a ⟨rfl, hI⟩
    show Gv _ (bb_X0_firstSpoiling_50_11_5 _ _ _ _ _)
    unfold bb_X0_firstSpoiling_50_11_5
    rw [hb.2.2.1, if_pos (nI_le (Nat.le_refl _) (by omega))]
    exact Gv.ret (Or.inl ⟨rfl, hI⟩)
theorem judge_c1 {M : Mm} {σ : Sg} {β : Bn} {L : Nat} (g : Good σ) (gB : GoodB σ β) (hC : SC σ M) (hb : BC0 β 50 M) (hL : L < sL σ) : f_X0_goneBehind_50_11 (nI L) (M.1 50 5) M = some (stA σ β L (bA β) ^^^ -1) := by
  have a40 := gB.2.2.1
  rw [hb.2.2.1]
  refine for_q (fun n i a => b_X0_goneBehind_50_11_6 n (nI L) (nI (bA β)) a (nI i) M) (bA β) (fun i a => a = stA σ β L i ^^^ -1) (fun o => o = some (stA σ β L (bA β) ^^^ -1)) ?_ ?_ (bA β) 0 0 FU (Nat.zero_add _) (by show bA β < 200000; omega) (by show (0 : Int64) = (-1 : Int64) ^^^ -1; decide)
  · rintro n i a hi rfl
    right
    refine ⟨_, ?_, rfl⟩
    show bb_X0_goneBehind_50_11_6 _ _ _ _ _ _ = _
    unfold bb_X0_goneBehind_50_11_6
    rw [if_neg (nI_ge hi (by omega)), if_neg (show ¬ (40 : Int32) ≤ nI i from nI_ge (b := 40) (by omega) (by decide)), act_c _ g gB hC hb hL hi, bd_some, ltv_eq, nI_1]
    rfl
  · rintro n a rfl
    show bb_X0_goneBehind_50_11_6 _ _ _ _ _ _ = _
    unfold bb_X0_goneBehind_50_11_6
    rw [if_pos (nI_le (Nat.le_refl _) (by omega))]
theorem judge_m {N : Mm} {σ : Sg} {β : Bn} {L : Nat} {y fst : Int32} (g : Good σ) (gB : GoodB σ β) (hM : SM σ N) (hb : BM0 β N) (hL : L < sL σ) (hf : IsFst (spoB σ β L) (bA β) fst) : b_X10_judge_67_68 FU (nI L) y (N.2 67 22) (-1) 0 (wJ N 67 22 (-1)) = some (if y = 0 then fst else (if stA σ β L (bA β) = sInk σ L then 1 else 0), N) := by
  have a40 := gB.2.2.1
  have hL10 := g.1
  refine for_q (fun n i a => b_X10_judge_67_68 n (nI L) y (N.2 67 22) a (nI i) (wJ N 67 22 (stA σ β L i))) (bA β) (fun i a => IsFst (spoB σ β L) i a) (fun o => o = some (if y = 0 then fst else (if stA σ β L (bA β) = sInk σ L then 1 else 0), N)) ?_ ?_ (bA β) 0 (-1) FU (Nat.zero_add _) (by show bA β < 200000; omega) (Or.inl ⟨rfl, fun j hj => absurd hj (Nat.not_lt_zero j)⟩)
  · rintro n i a hi hI
    right
    have hM' : SM σ (wJ N 67 22 (stA σ β L i)) := hM.fr (L := [(67, 22)]) (Fr.wrJ rfl) (by decide)
    refine ⟨_, ?_, hI.step (by omega)⟩
    show bb_X10_judge_67_68 _ _ _ _ _ _ _ = _
    rw [act_m (st := stA σ β L i) g gB hM' (hb.2.2.2.1 i hi) hL hi wJ_at _ _ _ _ (by show ¬ N.1 67 25 ≤ nI i; rw [hb.2.2.1]; exact nI_ge hi (by omega)), wJ_wJ]
    show bb_X10_judge_67_147 _ _ _ _ _ _ (wJ N 67 22 (stA σ β L (i + 1))) = _
    unfold bb_X10_judge_67_147 f_X10_isGood_67 bb_X10_isGood_67_0
    rw [gd_of (inb_nI (by omega) (by decide)), ix_nI (by omega), show (wJ N 67 22 (stA σ β L (i + 1))).2 72 L = sInk σ L from hM.of.2.2.2.1 L hL, wJ_at]
    simp only [ltv_eq, nI_1]
    by_cases e : a = -1
    · rw [if_pos e, if_pos e]
      unfold spoB
      by_cases q : (sInk σ L &&& (stA σ β L (i + 1) ^^^ -1)) = 0
      · rw [if_pos q, bd_some, if_neg (by decide), decide_eq_true q, e]
        rfl
      · rw [if_neg q, bd_some, if_pos rfl, decide_eq_false q]
        rfl
    · rw [if_neg e, if_neg e]
  · rintro n a hI
    obtain rfl := IsFst.uniq hI hf
    show bb_X10_judge_67_68 _ _ _ _ _ _ _ = _
    unfold bb_X10_judge_67_68 bb_X10_judge_67_195
    rw [show (wJ N 67 22 (stA σ β L (bA β))).1 67 25 = nI (bA β) from hb.2.2.1, if_pos (nI_le (Nat.le_refl _) (by omega)), gd_of (inb_nI (by omega) (by decide)), ix_nI (by omega), show (wJ N 67 22 (stA σ β L (bA β))).2 72 L = sInk σ L from hM.of.2.2.2.1 L hL, wJ_at]
    simp only [ltv_eq, wJ_wJ, wJ_self]
    by_cases q : stA σ β L (bA β) = sInk σ L
    · rw [if_pos q, if_pos q]
      by_cases y0 : y = 0
      · rw [if_pos y0, if_pos y0]
      · rw [if_neg y0, if_neg y0, if_neg (by decide)]
    · rw [if_neg q, if_neg q]
      by_cases y0 : y = 0
      · rw [if_pos y0, if_pos y0]
      · rw [if_neg y0, if_neg y0, if_pos trivial]
theorem c_judge {M : Mm} (x y : Int32) (h : Rel M) : AnsI (fw_L_judge_0_120 x y M) (f_X10_judge_67 x y) := by
  obtain ⟨σ, β, hR⟩ := id h
  obtain ⟨g, gB, hC, hM, hb, hm, hT, hI⟩ := id hR
  have b1 : BC0 β 50 M := hb
  have s1 := hC.1.of
  have s2 := hM.of
  have hL : sL σ < 2 ^ 31 := by have := g.1; omega
  rcases idx x (n := sL σ) hL with ⟨k, hk, rfl⟩ | ⟨ho, hi⟩
  · obtain ⟨n1, n2⟩ := needL_t s1.1 hk hL
    have hk10 : k < 10 := by have := g.1; omega
    cases hy : inI y 0 1 with
    | false =>
      refine ans_t (c := 2) (w := 0) h (by decide) ?_ ?_
      · simp only [fw_L_judge_0_120, t_X9_judge_0, n2, n1, orx, bd_some, t_needR_f hy]
      · simp only [f_X10_judge_67, bb_X10_judge_67_0, ltv_eq, isL_t (M := wI M 67 0 0) s2.1 hk hL, bd_some, i10, if_false, bb_X10_judge_67_19, bad0 (M := wI M 67 0 0) rfl, bd2_some, if_true, f_inI, hy, bb_X10_judge_67_41, bad1 (M := wI M 67 0 0) (k := 2) rfl (by decide), Bool.false_eq_true]
    | true =>
      obtain ⟨fst, e3, hf⟩ := judge_c0 g gB hC.1 b1 hk
      have cl : f_X9_judge_0 (nI k) y M = some (if y = 0 then fst else (if stA σ β k (bA β) = sInk σ k then 1 else 0)) := by
        unfold f_X9_judge_0 bb_X9_judge_0_0
        rw [n1, bd_some, f_needR hy, bd_some, e3, bd_some, judge_c1 g gB hC.1 b1 hk, bd_some, gd_of (inb_nI hk10 (by decide)), ix_nI (by omega), s1.2.2.2.1 k hk]
        by_cases y0 : y = 0
        · rw [if_pos y0, if_pos y0]
        · rw [if_neg y0, if_neg y0]
          by_cases q : stA σ β k (bA β) = sInk σ k
          · rw [if_pos ((eq_not _ _).mpr q), if_pos q]
            rfl
          · rw [if_neg (fun z => q ((eq_not _ _).mp z)), if_neg q]
            rfl
      generalize hv : (if y = 0 then fst else (if stA σ β k (bA β) = sInk σ k then 1 else 0)) = v at cl
      obtain ⟨hM', hm'⟩ := hR.md v.toInt64
      refine ans_g (L := []) (v := v) h ?_ ⟨_, ?_, Fr.refl⟩ rfl rfl rfl
      · simp only [fw_L_judge_0_120, t_X9_judge_0, n2, n1, orx, bd_some, t_needR_t hy, f_L_judge_0_120, bb_L_judge_0_120_0, cl, ltv_eq]
      · generalize hN : wI (wJ M 120 0 v.toInt64) 67 0 0 = N at hM' hm'
        have N0 : N.1 67 0 = 0 := by rw [← hN]; rfl
        simp only [f_X10_judge_67, bb_X10_judge_67_0, ltv_eq, hN, isL_t hM'.of.1 hk hL, bd_some, i10, if_false, bb_X10_judge_67_19, bad0 N0, bd2_some, if_true, f_inI, hy, bb_X10_judge_67_41, judge_m g gB hM' hm' hk hf, hv]
  · refine ans_t (c := 1) (w := 0) h (by decide) ?_ ?_
    · simp only [fw_L_judge_0_120, t_X9_judge_0, needL_f s1.1 ho, orx]
    · simp only [f_X10_judge_67, bb_X10_judge_67_0, ltv_eq, isL_f (M := wI M 67 0 0) s2.1 hi, bd_some, if_true, bb_X10_judge_67_19, bad1 (M := wI M 67 0 0) (k := 1) rfl (by decide), bd2_some, i10, if_false]
