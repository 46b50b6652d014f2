-- ===== even: the class =====
theorem Use_iff {σ : Sg} {l : Nat} : Use σ l = true ↔ ∃ w, w < sW σ ∧ 0 < cntW σ w l := by
  unfold Use
  rw [anB_iff]
  constructor
  · rintro ⟨w, hw, h⟩
    obtain ⟨k, hk, e⟩ := anB_iff.mp h
    refine ⟨w, hw, ?_⟩
    rcases Nat.eq_zero_or_pos (cntW σ w l) with z | z
    · rw [bcn_0 z k hk] at e
      cases e
    · exact z
  · rintro ⟨w, hw, h⟩
    refine ⟨w, hw, ?_⟩
    cases hb : anB (fun k => decide (sWl σ w k = l)) (sLen σ w) with
    | true => rfl
    | false =>
      exfalso
      have : cntW σ w l = 0 := by
        unfold cntW
        rw [bcn_cong (g := fun _ => false) (fun k hk => ?_), bcn_false]
        cases hk2 : decide (sWl σ w k = l) with
        | false => rfl
        | true =>
          rw [anB_iff.mpr ⟨k, hk, hk2⟩] at hb
          cases hb
      omega
theorem cntW_le {σ : Sg} {w l : Nat} (g : Good σ) (hw : w < sW σ) : cntW σ w l ≤ 8 := Nat.le_trans (bcn_le _ _) (g.2.2.1 w hw).2.1
theorem Use_L {σ : Sg} {l : Nat} (g : Good σ) (h : sL σ ≤ l) : Use σ l = false := by
  cases hu : Use σ l with
  | false => rfl
  | true =>
    exfalso
    unfold Use at hu
    obtain ⟨w, hw, h2⟩ := anB_iff.mp hu
    obtain ⟨k, hk, e⟩ := anB_iff.mp h2
    have := (g.2.2.1 w hw).2.2 k hk
    have := of_decide_eq_true e
    omega
theorem bcn_Use {σ : Sg} (g : Good σ) : bcn (Use σ) 10 = bcn (Use σ) (sL σ) := by
  obtain ⟨d, hd⟩ : ∃ d, 10 = sL σ + d := ⟨10 - sL σ, by have := g.1; omega⟩
  rw [hd]
  exact bcn_hi (fun i h1 _ => Use_L g h1)
/-- letters below k that come, in the list -/
def LfI (σ : Sg) (k : Nat) (a : Mm) : Prop := bcn (Use σ) k ≤ 6 → ∃ fl : Nat → Nat, (∀ i, i < bcn (Use σ) k → a.1 39 i = nI (fl i) ∧ fl i < k ∧ Use σ (fl i) = true) ∧ (∀ i j, i < j → j < bcn (Use σ) k → fl i < fl j) ∧ ∀ l, l < k → Use σ l = true → ∃ i, i < bcn (Use σ) k ∧ fl i = l
theorem list_in {σ : Sg} {M : Mm} {k : Nat} {x1 : Int32} (k4 : Int32 → Int32 → Mm → Option (Int32 × Mm)) (g : Good σ) (hC : C4 σ M) (hk : k < sL σ) : b_X6_listFree_34_17 k4 FU x1 (nI k) 0 0 M = bb_X6_listFree_34_17 k4 (b_X6_listFree_34_17 k4 0) x1 (nI k) (if Use σ k then 1 else 0) (nI (sW σ)) M := by
  have hL := g.1
  have hW := g.2.1
  have c : C40 σ M := hC
  refine for_q (fun q w (a : Int32) => b_X6_listFree_34_17 k4 q x1 (nI k) a (nI w) M) (sW σ) (fun w a => (a = 1 ∧ Use σ k = true) ∨ (a = 0 ∧ ∀ v, v < w → cntW σ v k = 0)) (fun o => o = bb_X6_listFree_34_17 k4 (b_X6_listFree_34_17 k4 0) x1 (nI k) (if Use σ k then 1 else 0) (nI (sW σ)) M) ?_ ?_ (sW σ) 0 0 FU (Nat.zero_add _) (by show _ < 200000; omega) (Or.inr ⟨rfl, fun v hv => absurd hv (Nat.not_lt_zero _)⟩)
  · rintro q w a hw hI
    right
    have c8 := cntW_le (l := k) g hw
    show ∃ a', bb_X6_listFree_34_17 _ _ _ _ _ _ _ = _ ∧ _
    unfold bb_X6_listFree_34_17
    rw [c.2.1, if_neg (nI_ge hw (by omega))]
    rcases hI with ⟨rfl, hu⟩ | ⟨rfl, h0⟩
    · refine ⟨1, ?_, Or.inl ⟨rfl, hu⟩⟩
      rw [if_neg (by decide), ltv_eq, nI_1]
    · rw [if_pos rfl, show (10 : Int32) * nI w + nI k = nI (10 * w + k) from by rw [← nI_add, ← pk_mul]; rfl, gd_of (inb_nI (by omega) (by decide)), ix_nI (by omega), c.2.2.2 w hw k (by omega)]
      by_cases z : cntW σ w k = 0
      · refine ⟨0, ?_, Or.inr ⟨rfl, fun v hv => ?_⟩⟩
        · rw [z, if_pos (by decide), ltv_eq, nI_1]
        · by_cases e : v = w
          · rw [e]
            exact z
          · exact h0 v (by omega)
      · refine ⟨1, ?_, Or.inl ⟨rfl, Use_iff.mpr ⟨w, hw, by omega⟩⟩⟩
        rw [if_neg (nI_nle (by omega) (by omega)), ltv_eq, nI_1]
  · rintro q a hI
    have ea : a = if Use σ k then 1 else 0 := by
      rcases hI with ⟨rfl, hu⟩ | ⟨rfl, h0⟩
      · rw [hu]
        rfl
      · have : Use σ k = false := by
          cases hu : Use σ k with
          | false => rfl
          | true =>
            obtain ⟨w, hw, h1⟩ := Use_iff.mp hu
            have := h0 w hw
            omega
        rw [this]
        rfl
    rw [ea]
    show bb_X6_listFree_34_17 _ _ _ _ _ _ _ = bb_X6_listFree_34_17 _ _ _ _ _ _ _
    unfold bb_X6_listFree_34_17
    rw [c.2.1, if_pos (nI_le (Nat.le_refl _) (by omega)), if_pos (nI_le (Nat.le_refl _) (by omega))]
theorem list_c {σ : Sg} {M : Mm} (g : Good σ) (hC : C4 σ M) : ∃ M', f_X6_listFree_34 M = some (nI (bcn (Use σ) (sL σ)), M') ∧ Fr [(39, 999)] M M' ∧ LfI σ (sL σ) M' := by
  have hL := g.1
  have hW := g.2.1
  refine for_q (fun q k (a : Mm) => b_X6_listFree_34_4 q (nI (bcn (Use σ) k)) (nI k) a) (sL σ) (fun k a => Fr [(39, 999)] M a ∧ LfI σ k a) (fun o => ∃ M', o = some (nI (bcn (Use σ) (sL σ)), M') ∧ Fr [(39, 999)] M M' ∧ LfI σ (sL σ) M') ?_ ?_ (sL σ) 0 M FU (Nat.zero_add _) (by show _ < 200000; omega) ⟨Fr.refl, fun _ => ⟨fun _ => 0, fun i hi => absurd hi (Nat.not_lt_zero _), fun i j _ hj => absurd hj (Nat.not_lt_zero _), fun l hl => absurd hl (Nat.not_lt_zero _)⟩⟩
  · rintro q k a hk ⟨f1, h1⟩
    right
    have hCa : C4 σ a := hC.fr f1 (by decide)
    have c : C40 σ a := hCa
    have hb := bcn_le (Use σ) k
    show ∃ a', bb_X6_listFree_34_4 _ _ _ _ = b_X6_listFree_34_4 q (nI (bcn (Use σ) k + (if Use σ k then 1 else 0))) (nI (k + 1)) a' ∧ Fr [(39, 999)] M a' ∧ LfI σ (k + 1) a'
    unfold bb_X6_listFree_34_4
    rw [c.1, if_neg (nI_ge hk (by omega)), list_in _ g hCa hk]
    unfold bb_X6_listFree_34_17
    rw [c.2.1, if_pos (nI_le (Nat.le_refl _) (by omega))]
    have n10 : ¬ (1 : Int32) = 0 := by decide
    have t1 : (if true = true then (1 : Int32) else 0) = 1 := rfl
    have t0 : (if false = true then (1 : Int32) else 0) = 0 := rfl
    cases hu : Use σ k with
    | false =>
      have eb : bcn (Use σ) (k + 1) = bcn (Use σ) k := by
        show bcn (Use σ) k + (if Use σ k then 1 else 0) = _
        rw [hu]
        rfl
      refine ⟨a, ?_, f1, ?_⟩
      · rw [t0, if_pos rfl, if_pos rfl, ltv_eq, nI_1]
        rfl
      · intro h6
        rw [eb] at h6 ⊢
        obtain ⟨fl, p1, p2, p3⟩ := h1 h6
        refine ⟨fl, fun i hi => ⟨(p1 i hi).1, by have := (p1 i hi).2.1; omega, (p1 i hi).2.2⟩, p2, fun l hl hul => ?_⟩
        by_cases e : l = k
        · rw [e, hu] at hul
          cases hul
        · exact p3 l (by omega) hul
    | true =>
      have eb : bcn (Use σ) (k + 1) = bcn (Use σ) k + 1 := by
        show bcn (Use σ) k + (if Use σ k then 1 else 0) = _
        rw [hu]
        rfl
      rw [t1, if_neg n10, if_neg n10]
      by_cases h6 : 6 ≤ bcn (Use σ) k
      · refine ⟨a, ?_, f1, fun z => by omega⟩
        rw [if_pos (show (6 : Int32) ≤ nI (bcn (Use σ) k) from nI_le (a := 6) h6 (by omega)), ltv_eq, ltv_eq, nI_1, nI_1]
        rfl
      · obtain ⟨fl, p1, p2, p3⟩ := h1 (by omega)
        refine ⟨wI a 39 (bcn (Use σ) k) (nI k), ?_, Fr.tr f1 (Fr.wIa rfl), fun _ => ⟨fun i => if i = bcn (Use σ) k then k else fl i, fun i hi => ?_, fun i j hij hj => ?_, fun l hl hul => ?_⟩⟩
        · rw [if_neg (show ¬ (6 : Int32) ≤ nI (bcn (Use σ) k) from nI_ge (b := 6) (by omega) (by decide)), gd_of (inb_nI (by omega) (by decide)), ltv_eq, ltv_eq, ltv_eq, nI_1, nI_1, ix_nI (by omega)]
          rfl
        · show (wI a 39 (bcn (Use σ) k) (nI k)).1 39 i = nI (if i = bcn (Use σ) k then k else fl i) ∧ (if i = bcn (Use σ) k then k else fl i) < k + 1 ∧ Use σ (if i = bcn (Use σ) k then k else fl i) = true
          by_cases e : i = bcn (Use σ) k
          · rw [if_pos e, e, wI_at]
            exact ⟨rfl, by omega, hu⟩
          · rw [if_neg e, wI_i e]
            have := p1 i (by omega)
            exact ⟨this.1, by omega, this.2.2⟩
        · show (if i = bcn (Use σ) k then k else fl i) < (if j = bcn (Use σ) k then k else fl j)
          rw [if_neg (by omega)]
          by_cases e : j = bcn (Use σ) k
          · rw [if_pos e]
            exact (p1 i (by omega)).2.1
          · rw [if_neg e]
            exact p2 i j hij (by omega)
        · by_cases e : l = k
          · exact ⟨bcn (Use σ) k, by omega, by rw [e]; exact if_pos rfl⟩
          · obtain ⟨i, i1, i2⟩ := p3 l (by omega) hul
            refine ⟨i, by omega, ?_⟩
            show (if i = bcn (Use σ) k then k else fl i) = l
            rw [if_neg (by omega)]
            exact i2
  · rintro q a ⟨f1, h1⟩
    have c : C40 σ a := hC.fr f1 (by decide)
    show ∃ M', bb_X6_listFree_34_4 _ _ _ _ = _ ∧ _
    unfold bb_X6_listFree_34_4
    rw [c.1, if_pos (nI_le (Nat.le_refl _) (by omega))]
    exact ⟨a, rfl, f1, h1⟩
/-- what lies ready while the class seeks -/
def EvC (σ : Sg) (gr : Nat) (fl : Nat → Nat) (m : Nat) (M : Mm) : Prop := M.1 34 1 = nI (sW σ) ∧ (∀ w, w < sW σ → ∀ l, l < 10 → M.1 43 (10 * w + l) = nI (cntW σ w l)) ∧ (∀ i, i < m → M.1 39 i = nI (fl i)) ∧ (∀ w, w < sW σ → M.1 40 w = nI (smW σ w (Blk σ gr))) ∧ ∀ w, w < sW σ → ∀ i, i < m → M.1 42 (6 * w + i) = nI (wdN σ fl w (i + 1))
def LEV : List (Nat × Nat) := [(34, 11), (34, 12), (41, 999)]
theorem EvC.fr {σ : Sg} {gr m : Nat} {fl : Nat → Nat} {M a : Mm} (h : EvC σ gr fl m M) (hf : Fr LEV M a) : EvC σ gr fl m a := by
  obtain ⟨h1, h2, h3, h4, h5⟩ := h
  exact ⟨((hf 34 1 rfl).1).trans h1, fun w hw l hl => ((hf 43 _ rfl).1).trans (h2 w hw l hl), fun i hi => ((hf 39 i rfl).1).trans (h3 i hi), fun w hw => ((hf 40 w rfl).1).trans (h4 w hw), fun w hw i hi => ((hf 42 _ rfl).1).trans (h5 w hw i hi)⟩
theorem wdN_le {σ : Sg} {fl : Nat → Nat} {w : Nat} (g : Good σ) (hw : w < sW σ) : ∀ k, wdN σ fl w k ≤ 32 * k
  | 0 => Nat.le_refl _
  | k + 1 => by
    have h1 := wdN_le (fl := fl) g hw k
    have h2 := cntW_le (l := fl k) g hw
    show wdN σ fl w k + 4 * cntW σ w (fl k) ≤ 32 * (k + 1)
    omega
theorem wider_c {σ : Sg} {M : Mm} {gr m : Nat} {fl : Nat → Nat} (g : Good σ) (hm : m ≤ 6) (h34 : M.1 34 1 = nI (sW σ)) (h43 : ∀ w, w < sW σ → ∀ l, l < 10 → M.1 43 (10 * w + l) = nI (cntW σ w l)) (h39 : ∀ i, i < m → M.1 39 i = nI (fl i)) (hfl : ∀ i, i < m → fl i < 10) : ∃ M', f_X6_layWider_34 (nI m) M = some M' ∧ Fr [(42, 999)] M M' ∧ ∀ w, w < sW σ → ∀ i, i < m → M'.1 42 (6 * w + i) = nI (wdN σ fl w (i + 1)) := by
  have hW := g.2.1
  refine for_q (fun q w (a : Mm) => b_X6_layWider_34_2 q (nI m) (nI w) a) (sW σ) (fun w a => Fr [(42, 999)] M a ∧ ∀ v, v < w → ∀ i, i < m → a.1 42 (6 * v + i) = nI (wdN σ fl v (i + 1))) (fun o => ∃ M', o = some M' ∧ Fr [(42, 999)] M M' ∧ ∀ w, w < sW σ → ∀ i, i < m → M'.1 42 (6 * w + i) = nI (wdN σ fl w (i + 1))) ?_ ?_ (sW σ) 0 M FU (Nat.zero_add _) (by show _ < 200000; omega) ⟨Fr.refl, fun v hv => absurd hv (Nat.not_lt_zero _)⟩
  · rintro q w a hw ⟨f1, h1⟩
    right
    show ∃ a', bb_X6_layWider_34_2 _ _ _ _ = _ ∧ _
    unfold bb_X6_layWider_34_2
    rw [(f1 34 1 rfl).1, h34, if_neg (nI_ge hw (by omega))]
    refine for_q (fun z i (b : Mm) => b_X6_layWider_34_15 (b_X6_layWider_34_2 q) z (nI m) (nI w) (nI (wdN σ fl w i)) (nI i) b) m (fun i b => Fr [(42, 999)] M b ∧ (∀ v, v < w → ∀ i, i < m → b.1 42 (6 * v + i) = nI (wdN σ fl v (i + 1))) ∧ ∀ j, j < i → b.1 42 (6 * w + j) = nI (wdN σ fl w (j + 1))) (fun o => ∃ a', o = b_X6_layWider_34_2 q (nI m) (nI (w + 1)) a' ∧ Fr [(42, 999)] M a' ∧ ∀ v, v < w + 1 → ∀ i, i < m → a'.1 42 (6 * v + i) = nI (wdN σ fl v (i + 1))) ?_ ?_ m 0 a FU (Nat.zero_add _) (by show _ < 200000; omega) ⟨f1, h1, fun j hj => absurd hj (Nat.not_lt_zero _)⟩
    · rintro z i b hi ⟨g1, g2, g3⟩
      right
      have fi := hfl i hi
      refine ⟨wI b 42 (6 * w + i) (nI (wdN σ fl w (i + 1))), ?_, Fr.tr g1 (Fr.wIa rfl), fun v hv j hj => ?_, fun j hj => ?_⟩
      · show bb_X6_layWider_34_15 _ _ _ _ _ _ _ = b_X6_layWider_34_15 (b_X6_layWider_34_2 q) z (nI m) (nI w) (nI (wdN σ fl w (i + 1))) (nI (i + 1)) (wI b 42 (6 * w + i) (nI (wdN σ fl w (i + 1))))
        unfold bb_X6_layWider_34_15
        rw [if_neg (nI_ge hi (by omega)), if_neg (show ¬ (6 : Int32) ≤ nI i from nI_ge (b := 6) (by omega) (by decide)), gd_of (inb_nI (by omega) (by decide)), ix_nI (show i < 2 ^ 31 by omega), (g1 39 i rfl).1, h39 i hi, show (10 : Int32) * nI w + nI (fl i) = nI (10 * w + fl i) from by rw [← nI_add, ← pk_mul]; rfl, gd_of (inb_nI (by omega) (by decide)), ltv_eq, show (6 : Int32) * nI w + nI i = nI (6 * w + i) from by rw [← nI_add, ← pk_mul]; rfl, gd_of (inb_nI (by omega) (by decide)), ltv_eq, ltv_eq, nI_1, ix_nI (show 10 * w + fl i < 2 ^ 31 by omega), (g1 43 _ rfl).1, h43 w hw (fl i) fi, show (4 : Int32) * nI (cntW σ w (fl i)) = nI (4 * cntW σ w (fl i)) from pk_mul 4 _, nI_add, ix_nI (by omega)]
        rfl
      · rw [wI_i (by omega)]
        exact g2 v hv j hj
      · by_cases e : j = i
        · subst e
          exact wI_at
        · rw [wI_i (by omega)]
          exact g3 j (by omega)
    · rintro z b ⟨g1, g2, g3⟩
      show ∃ a', bb_X6_layWider_34_15 _ _ _ _ _ _ _ = _ ∧ _
      unfold bb_X6_layWider_34_15
      rw [if_pos (nI_le (Nat.le_refl _) (by omega)), ltv_eq, nI_1]
      refine ⟨b, rfl, g1, fun v hv i hi => ?_⟩
      by_cases e : v = w
      · rw [e]
        exact g3 i hi
      · exact g2 v (by omega) i hi
  · rintro q a ⟨f1, h1⟩
    show ∃ M', bb_X6_layWider_34_2 _ _ _ _ = _ ∧ _
    unfold bb_X6_layWider_34_2
    rw [(f1 34 1 rfl).1, h34, if_pos (nI_le (Nat.le_refl _) (by omega))]
    exact ⟨a, rfl, f1, h1⟩
theorem widen_c {σ : Sg} {M : Mm} {gr m k : Nat} {fl : Nat → Nat} {by_ : Int32} {S S' : Nat → Nat} (g : Good σ) (hm : m ≤ 6) (hE : EvC σ gr fl m M) (hk : k < m) (hf : fl k < 10) (hS : ∀ w, w < sW σ → M.1 41 w = nI (S w)) (hS' : ∀ w, w < sW σ → nI (S w) + by_ * nI (cntW σ w (fl k)) = nI (S' w)) : ∃ M', f_X6_widen_34 (nI k) by_ M = some M' ∧ Fr [(41, 999)] M M' ∧ ∀ w, w < sW σ → M'.1 41 w = nI (S' w) := by
  have hW := g.2.1
  obtain ⟨e1, e2, e3, e4, e5⟩ := hE
  refine for_q (fun q w (a : Mm) => b_X6_widen_34_2 q (nI k) by_ (nI w) a) (sW σ) (fun w a => Fr [(41, 999)] M a ∧ ∀ v, v < sW σ → a.1 41 v = nI (if v < w then S' v else S v)) (fun o => ∃ M', o = some M' ∧ Fr [(41, 999)] M M' ∧ ∀ w, w < sW σ → M'.1 41 w = nI (S' w)) ?_ ?_ (sW σ) 0 M FU (Nat.zero_add _) (by show _ < 200000; omega) ⟨Fr.refl, fun v hv => by rw [if_neg (Nat.not_lt_zero _)]; exact hS v hv⟩
  · rintro q w a hw ⟨f1, h1⟩
    right
    refine ⟨wI a 41 w (nI (S' w)), ?_, Fr.tr f1 (Fr.wIa rfl), fun v hv => ?_⟩
    · have i6 : inb (nI w) 6 = true := inb_nI (by omega) (by decide)
      have q1 := h1 w hw
      rw [if_neg (Nat.lt_irrefl _)] at q1
      show bb_X6_widen_34_2 _ _ _ _ _ = _
      unfold bb_X6_widen_34_2
      rw [(f1 34 1 rfl).1, e1, if_neg (nI_ge hw (by omega)), if_neg (nI_pos (by omega)), if_neg (show ¬ (6 : Int32) ≤ nI k from nI_ge (b := 6) (by omega) (by decide)), gd_of i6, gd_of (inb_nI (by omega) (by decide)), ix_nI (show k < 2 ^ 31 by omega), (f1 39 k rfl).1, e3 k hk, show (10 : Int32) * nI w + nI (fl k) = nI (10 * w + fl k) from by rw [← nI_add, ← pk_mul]; rfl, gd_of (inb_nI (by omega) (by decide)), gd_of i6, ltv_eq, ltv_eq, nI_1, ix_nI (show w < 2 ^ 31 by omega), ix_nI (show 10 * w + fl k < 2 ^ 31 by omega), (f1 43 _ rfl).1, e2 w hw _ hf, q1, hS' w hw]
    · by_cases e : v = w
      · subst e
        rw [wI_at, if_pos (by omega)]
      · rw [wI_i e, h1 v hv]
        by_cases z : v < w
        · rw [if_pos z, if_pos (by omega)]
        · rw [if_neg z, if_neg (by omega)]
  · rintro q a ⟨f1, h1⟩
    show ∃ M', bb_X6_widen_34_2 _ _ _ _ _ = _ ∧ _
    unfold bb_X6_widen_34_2
    rw [(f1 34 1 rfl).1, e1, if_pos (nI_le (Nat.le_refl _) (by omega))]
    exact ⟨a, rfl, f1, fun w hw => by rw [h1 w hw, if_pos hw]⟩
def SpI (σ : Sg) (R : Nat) (M : Mm) : Prop := ∀ w, w < sW σ → M.1 41 w = nI (smW σ w (Wid σ R))
theorem RmOk_add {σ : Sg} {R t d : Nat} (h : RmOk σ R) (hR : R % 5 ^ (t + 1) = 0) (hd : d < 5) (hu : Use σ t = true) (hb : R + 5 ^ (t + 1) ≤ 5 ^ 10) : RmOk σ (R + d * 5 ^ t) := by
  have hlt : d * 5 ^ t < 5 ^ (t + 1) := by
    rw [Nat.pow_succ, Nat.mul_comm (5 ^ t) 5]
    exact Nat.mul_lt_mul_of_pos_right hd (p5 t)
  refine ⟨by omega, fun l hl hul => ?_⟩
  rw [dig_add hR hd, h.2 l hl hul]
  have : ¬ l = t := by
    intro e
    rw [e, hu] at hul
    cases hul
  rw [if_neg this]
theorem seek_ok {σ : Sg} {gr m : Nat} {fl : Nat → Nat} (g : Good σ) (hgr : gr ≤ 16) (hm : m ≤ 6) (hF : FrL σ fl m) : ∀ (k D R : Nat) (M : Mm), k ≤ m → k < D → EvC σ gr fl m M → SpI σ R M → RmOk σ R → R % 5 ^ tpF fl k = 0 → R + 5 ^ tpF fl k ≤ 5 ^ 10 → BstI σ gr R M → ∃ M', fr_X6_seekEven_34 D (nI k - 1) (nI R) M = some M' ∧ Fr LEV M M' ∧ SpI σ R M' ∧ BstI σ gr (R + 5 ^ tpF fl k) M' := by
  have hW := g.2.1
  intro k
  induction k with
  | zero =>
    intro D R M _ hD hE hS hR hm0 hb hB
    obtain ⟨D, rfl⟩ : ∃ z, D = z + 1 := ⟨D - 1, by omega⟩
    obtain ⟨e1, e2, e3, e4, e5⟩ := id hE
    have uv := uneven_c (M := M) (W := sW σ) (B := fun w => smW σ w (Blk σ gr)) (S := fun w => smW σ w (Wid σ R)) (wd := fun _ => 0) (-1) hW e1 (fun w hw => ⟨e4 w hw, hS w hw, smB_le g hgr hw, by have := smR_le (r := R) g hw; show smW σ w (Wid σ R) + 0 ≤ 100000; omega, smBR hgr⟩) (Or.inl ⟨rfl, fun _ _ => rfl⟩)
    have uv' : f_X6_unevenAtLeast_34 (-1) M = some (nI (Unv σ gr R)) := uv
    have hUn := Unv_le (r := R) g hgr
    have one : ∀ r, RmOk σ r → r < R + 5 ^ 0 → r < R ∨ r = R := fun r _ h => by
      have : r < R + 1 := h
      omega
    show ∃ M', bb_X6_seekEven_34_0 (fr_X6_seekEven_34 D) (-1) (nI R) M = some M' ∧ Fr LEV M M' ∧ SpI σ R M' ∧ BstI σ gr (R + 5 ^ 0) M'
    unfold bb_X6_seekEven_34_0
    rw [uv', bd_some]
    by_cases c : M.1 34 11 ≤ nI (Unv σ gr R)
    · rw [if_pos c]
      refine ⟨M, rfl, Fr.refl, hS, ?_⟩
      rcases hB with ⟨h1, _, _⟩ | ⟨b, h1, h2, h3, h4, h5⟩
      · exfalso
        rw [h1] at c
        exact nI_ge (a := Unv σ gr R) (b := 1000000) (by omega) (by decide) c
      · rw [h2] at c
        have hle := (nI_leI (by have := Unv_le (r := b) g hgr; omega) (by omega)).mp c
        refine Or.inr ⟨b, h1, h2, h3, by show b < R + 1; omega, fun r hr hlt => ?_⟩
        rcases one r hr hlt with q | q
        · exact h5 r hr q
        · rw [q]
          exact ⟨hle, fun _ => by omega⟩
    · rw [if_neg c, if_pos (by decide), if_neg (by decide), ltv_eq, ltv_eq]
      refine ⟨_, rfl, Fr.tr (Fr.wrI rfl) (Fr.wrI rfl), hS, Or.inr ⟨R, wI_at, rfl, hR, by show R < R + 1; omega, fun r hr hlt => ?_⟩⟩
      rcases one r hr hlt with q | q
      · rcases hB with ⟨h1, _, h3⟩ | ⟨b, h1, h2, h3, h4, h5⟩
        · exact absurd q (h3 r hr)
        · rw [h2] at c
          have hlt2 : Unv σ gr R < Unv σ gr b := by
            apply Classical.byContradiction
            intro z
            exact c (nI_le (by omega) (by omega))
          have := h5 r hr q
          exact ⟨by omega, fun z => by omega⟩
      · rw [q]
        exact ⟨Nat.le_refl _, fun _ => Nat.le_refl _⟩
  | succ k ih =>
    intro D R M hk hD hE hS hR hm0 hb hB
    obtain ⟨D, rfl⟩ : ∃ z, D = z + 1 := ⟨D - 1, by omega⟩
    obtain ⟨e1, e2, e3, e4, e5⟩ := id hE
    have f10 := (hF.1 k (by omega)).1
    have fu := (hF.1 k (by omega)).2
    have hm1 : R % 5 ^ (fl k + 1) = 0 := hm0
    have hb1 : R + 5 ^ (fl k + 1) ≤ 5 ^ 10 := hb
    have p10 : 5 ^ 10 < 2 ^ 31 := by decide
    have uv := uneven_c (M := M) (W := sW σ) (B := fun w => smW σ w (Blk σ gr)) (S := fun w => smW σ w (Wid σ R)) (wd := fun w => wdN σ fl w (k + 1)) (nI k) hW e1 (fun w hw => ⟨e4 w hw, hS w hw, smB_le g hgr hw, by have := smR_le (r := R) g hw; have := wdN_le (fl := fl) g hw (k + 1); omega, smBR hgr⟩) (Or.inr ⟨k, by omega, rfl, fun w hw => e5 w hw k (by omega)⟩)
    have lbu : ∀ r, RmOk σ r → R ≤ r → r < R + 5 ^ tpF fl (k + 1) → mxN (fun w => clB (smW σ w (Blk σ gr)) (smW σ w (Wid σ R) + wdN σ fl w (k + 1))) (sW σ) - mnN (fun w => clB (smW σ w (Blk σ gr)) (smW σ w (Wid σ R))) (sW σ) ≤ Unv σ gr r := fun r hr h1 h2 => lb_unv (fun w _ => wid_ext hF (k + 1) hk hm0 hr h1 h2)
    generalize mxN (fun w => clB (smW σ w (Blk σ gr)) (smW σ w (Wid σ R) + wdN σ fl w (k + 1))) (sW σ) - mnN (fun w => clB (smW σ w (Blk σ gr)) (smW σ w (Wid σ R))) (sW σ) = LB at uv lbu
    have LBle : LB ≤ 128000 := Nat.le_trans (lbu R hR (Nat.le_refl _) (by have := p5 (tpF fl (k + 1)); omega)) (Unv_le g hgr)
    show ∃ M', bb_X6_seekEven_34_0 (fr_X6_seekEven_34 D) (nI (k + 1) - 1) (nI R) M = some M' ∧ Fr LEV M M' ∧ SpI σ R M' ∧ BstI σ gr (R + 5 ^ tpF fl (k + 1)) M'
    unfold bb_X6_seekEven_34_0
    rw [nI_pred, uv, bd_some]
    by_cases c : M.1 34 11 ≤ nI LB
    · rw [if_pos c]
      refine ⟨M, rfl, Fr.refl, hS, ?_⟩
      rcases hB with ⟨h1, _, _⟩ | ⟨b, h1, h2, h3, h4, h5⟩
      · exfalso
        rw [h1] at c
        exact nI_ge (a := LB) (b := 1000000) (by omega) (by decide) c
      · rw [h2] at c
        have hle := (nI_leI (by have := Unv_le (r := b) g hgr; omega) (by omega)).mp c
        refine Or.inr ⟨b, h1, h2, h3, by omega, fun r hr hlt => ?_⟩
        by_cases q : r < R
        · exact h5 r hr q
        · have := lbu r hr (by omega) hlt
          exact ⟨by omega, fun _ => by omega⟩
    · rw [if_neg c, if_pos (show nI k < (6 : Int32) from nI_lt (b := 6) (by omega) (by decide)), if_pos (nI_pos' (by omega))]
      obtain ⟨tg1, tg2⟩ := tp_gap hF (show k < m by omega)
      refine for_q (fun q d (a : Mm) => b_X6_seekEven_34_39 (fr_X6_seekEven_34 D) q (nI k) (nI R) (nI d) a) 5 (fun d a => Fr LEV M a ∧ (∀ w, w < sW σ → a.1 41 w = nI (smW σ w (Wid σ R) + d * cntW σ w (fl k))) ∧ BstI σ gr (R + d * 5 ^ fl k) a) (fun o => ∃ M', o = some M' ∧ Fr LEV M M' ∧ SpI σ R M' ∧ BstI σ gr (R + 5 ^ tpF fl (k + 1)) M') ?_ ?_ 5 0 M FU rfl (by decide) ⟨Fr.refl, fun w hw => by rw [Nat.zero_mul, Nat.add_zero]; exact hS w hw, by rw [Nat.zero_mul, Nat.add_zero]; exact hB⟩
      · rintro q d a hd ⟨f1, s1, b1⟩
        right
        have hEa := hE.fr f1
        have hlt : d * 5 ^ fl k + 5 ^ fl k ≤ 5 ^ (fl k + 1) := by
          rw [Nat.pow_succ, Nat.mul_comm (5 ^ fl k) 5, ← Nat.succ_mul]
          exact Nat.mul_le_mul_right _ (by omega)
        have tle : 5 ^ tpF fl k ≤ 5 ^ fl k := Nat.pow_le_pow_right (by decide) tg1
        have hRd : RmOk σ (R + d * 5 ^ fl k) := RmOk_add hR hm1 hd fu hb1
        have modf : (R + d * 5 ^ fl k) % 5 ^ fl k = 0 := by
          have h1 : R % 5 ^ fl k = 0 := by
            have := Nat.mod_mul_right_mod R (5 ^ fl k) 5
            rw [← Nat.pow_succ, hm1] at this
            rw [← this]
            exact Nat.zero_mod _
          rw [Nat.add_mul_mod_self_right]
          exact h1
        have modt : (R + d * 5 ^ fl k) % 5 ^ tpF fl k = 0 := by
          obtain ⟨e, he⟩ : ∃ e, fl k = tpF fl k + e := ⟨fl k - tpF fl k, by omega⟩
          have := Nat.mod_mul_right_mod (R + d * 5 ^ fl k) (5 ^ tpF fl k) (5 ^ e)
          rw [← Nat.pow_add, ← he, modf] at this
          rw [← this]
          exact Nat.zero_mod _
        have sp : SpI σ (R + d * 5 ^ fl k) a := fun w hw => by rw [s1 w hw, wid_add hm1 hd]
        obtain ⟨a2, e6, f2, sp2, b2⟩ := ih D (R + d * 5 ^ fl k) a (by omega) (by omega) hEa sp hRd modt (by omega) b1
        have hEa2 := hEa.fr f2
        obtain ⟨a3, e7, f3, s3⟩ := widen_c (by_ := 1) (S := fun w => smW σ w (Wid σ R) + d * cntW σ w (fl k)) (S' := fun w => smW σ w (Wid σ R) + (d + 1) * cntW σ w (fl k)) g hm hEa2 (show k < m by omega) f10 (fun w hw => by rw [sp2 w hw, wid_add hm1 hd]) (fun w hw => by
          rw [Int32.one_mul, nI_add]
          congr 1
          rw [Nat.succ_mul]
          omega)
        have p39 : a.1 39 k = nI (fl k) := hEa.2.2.1 k (by omega)
        have pw := pow_ok (fl k) f10
        refine ⟨a3, ?_, Fr.tr f1 (Fr.tr f2 (Fr.sub f3 (by decide))), s3, ?_⟩
        · show bb_X6_seekEven_34_39 _ _ _ _ _ _ = _
          unfold bb_X6_seekEven_34_39
          rw [if_neg (show ¬ (5 : Int32) ≤ nI d from nI_ge (b := 5) hd (by decide)), gd_of (inb_nI (by omega) (by decide)), ix_nI (show k < 2 ^ 31 by omega), p39, gd_of (inb_nI f10 (by decide)), ix_nI (show fl k < 2 ^ 31 by omega), pw.1, pk_mul, nI_add, e6, bd_some, e7, bd_some, ltv_eq, nI_1]
        · have b3 : BstI σ gr (R + d * 5 ^ fl k + 5 ^ tpF fl k) a3 := by
            unfold BstI
            rw [(f3 34 11 rfl).1, (f3 34 12 rfl).1]
            exact b2
          have ee : R + (d + 1) * 5 ^ fl k = R + d * 5 ^ fl k + 5 ^ fl k := by rw [Nat.succ_mul]; omega
          rw [ee]
          refine b3.ext (by omega) (fun r hr hlt2 => ?_)
          by_cases q2 : r < R + d * 5 ^ fl k
          · have := p5 (tpF fl k)
            omega
          · have := gap (P := fun l => Use σ l && decide (l < 10)) (r := r) (B := R + d * 5 ^ fl k) (fl k - tpF fl k) (tpF fl k) (fun l l1 l2 => by rw [tg2 l l1 (by omega)]; rfl) hr.z (by rw [show tpF fl k + (fl k - tpF fl k) = fl k by omega]; exact modf) (by omega) (by rw [show tpF fl k + (fl k - tpF fl k) = fl k by omega]; exact hlt2)
            exact this
      · rintro q a ⟨f1, s1, b1⟩
        have hEa := hE.fr f1
        have m5 : (-5 : Int32) * 1 = -5 := by decide
        obtain ⟨a3, e7, f3, s3⟩ := widen_c (by_ := -5) (S := fun w => smW σ w (Wid σ R) + 5 * cntW σ w (fl k)) (S' := fun w => smW σ w (Wid σ R)) g hm hEa (show k < m by omega) f10 s1 (fun w hw => by
          rw [← nI_add, ← pk_mul, show nI 5 = (5 : Int32) from rfl, Int32.add_assoc, ← Int32.add_mul, show (5 : Int32) + -5 = 0 from by decide, Int32.zero_mul, Int32.add_zero])
        show ∃ M', bb_X6_seekEven_34_39 _ _ _ _ _ _ = _ ∧ _
        unfold bb_X6_seekEven_34_39
        rw [if_pos (by decide), e7, bd_some]
        refine ⟨a3, rfl, Fr.tr f1 (Fr.sub f3 (by decide)), s3, ?_⟩
        have e5 : R + 5 * 5 ^ fl k = R + 5 ^ (fl k + 1) := by rw [Nat.pow_succ, Nat.mul_comm]
        rw [e5] at b1
        show BstI σ gr (R + 5 ^ (fl k + 1)) a3
        unfold BstI
        rw [(f3 34 11 rfl).1, (f3 34 12 rfl).1]
        exact b1
def LEC : List (Nat × Nat) := [(34, 11), (34, 12), (39, 999), (40, 999), (41, 999), (42, 999)]
theorem even_c {σ : Sg} {M : Mm} {gr : Nat} (g : Good σ) (hgr : gr ≤ 16) (hC : C4 σ M) : ∃ M' v, f_X6_findEvenRoom_34 (nI gr) M = some (v, M') ∧ IsEvn σ gr v ∧ Fr LEC M M' := by
  have hL := g.1
  obtain ⟨M1, e1, f1, l1⟩ := list_c g hC
  have hb := bcn_le (Use σ) (sL σ)
  unfold f_X6_findEvenRoom_34 bb_X6_findEvenRoom_34_0
  rw [e1, bd2_some]
  by_cases h6 : bcn (Use σ) (sL σ) ≤ 6
  · obtain ⟨fl, p1, p2, p3⟩ := l1 h6
    have hF : FrL σ fl (bcn (Use σ) (sL σ)) := ⟨fun i hi => ⟨by have := (p1 i hi).2.1; omega, (p1 i hi).2.2⟩, p2, fun l hl hu => p3 l (by
      apply Classical.byContradiction
      intro z
      rw [Use_L g (by omega)] at hu
      cases hu) hu⟩
    have hUm := bcn_Use g
    generalize bcn (Use σ) (sL σ) = m at *
    have hC1 : C4 σ M1 := hC.fr f1 (by decide)
    obtain ⟨M2, e2, f2, w2⟩ := layW_c (r := 0) (gr := gr) g hC1 (by decide)
    have c2 : C40 σ M2 := hC1.fr f2 (by decide)
    obtain ⟨M3, e3, f3, w3⟩ := wider_c (M := M2) (gr := gr) (fl := fl) g h6 c2.2.1 c2.2.2.2 (fun i hi => ((f2 39 i rfl).1).trans (p1 i hi).1) (fun i hi => (hF.1 i hi).1)
    let M4 : Mm := wI (wI M3 34 11 1000000) 34 12 0
    have hE : EvC σ gr fl m M4 := ⟨((f3 34 1 rfl).1).trans c2.2.1, fun w hw l hl => ((f3 43 _ rfl).1).trans (c2.2.2.2 w hw l hl), fun i hi => ((f3 39 i rfl).1).trans (((f2 39 i rfl).1).trans (p1 i hi).1), fun w hw => ((f3 40 w rfl).1).trans (w2 w hw).1, w3⟩
    have hS : SpI σ 0 M4 := fun w hw => ((f3 41 w rfl).1).trans (w2 w hw).2
    have r0 : RmOk σ 0 := ⟨by decide, fun l _ _ => by rw [Nat.zero_div]⟩
    obtain ⟨t1, t2⟩ := tp_top hF
    have tle : 5 ^ tpF fl m ≤ 5 ^ 10 := Nat.pow_le_pow_right (by decide) t1
    obtain ⟨M5, e5, f5, s5, b5⟩ := seek_ok g hgr h6 hF m 10 0 M4 (Nat.le_refl _) (by omega) hE hS r0 (Nat.zero_mod _) (by omega) (Or.inl ⟨rfl, rfl, fun r _ h => absurd h (Nat.not_lt_zero _)⟩)
    have all : ∀ r, RmOk σ r → r < 0 + 5 ^ tpF fl m := by
      intro r hr
      refine gap (P := fun l => Use σ l && decide (l < 10)) (10 - tpF fl m) (tpF fl m) (fun l l1 l2 => by rw [t2 l l1 (by omega)]; rfl) hr.z (Nat.zero_mod _) (Nat.zero_le _) ?_
      rw [show tpF fl m + (10 - tpF fl m) = 10 by omega, Nat.zero_add]
      exact hr.1
    refine ⟨M5, M5.1 34 12, ?_, ⟨fun z => by omega, fun _ => ?_⟩, Fr.tr (Fr.sub f1 (by decide)) (Fr.tr (Fr.sub f2 (by decide)) (Fr.tr (Fr.sub f3 (by decide)) (Fr.tr (Fr.tr (Fr.wrI rfl) (Fr.wrI rfl)) (Fr.sub f5 (by decide)))))⟩
    · rw [if_pos (show nI m ≤ (6 : Int32) from nI_le (b := 6) h6 (by decide)), show f_X6_layWords_34 (nI gr) 0 M1 = some M2 from e2, bd_some, e3, bd_some, ltv_eq, ltv_eq, show f_X6_seekEven_34 (nI m - 1) 0 (wI (wI M3 34 11 1000000) 34 12 0) = some M5 from e5, bd_some]
    · rcases b5 with ⟨_, _, h3⟩ | ⟨b, h1, h2, h3, h4, h5⟩
      · exact absurd (all 0 r0) (h3 0 r0)
      · exact ⟨b, h1, h3, fun r' hr' => h5 r' hr' (all r' hr')⟩
  · refine ⟨M1, -1, ?_, ⟨fun _ => rfl, fun z => by rw [bcn_Use g] at z; omega⟩, Fr.sub f1 (by decide)⟩
    rw [if_neg (show ¬ nI (bcn (Use σ) (sL σ)) ≤ (6 : Int32) from nI_ge (a := 6) (by omega) (by omega))]
