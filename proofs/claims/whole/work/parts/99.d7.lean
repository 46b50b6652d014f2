theorem GHL.all {L : Nat} {ink : Nat → Int64} : ∀ (d o : Nat) (Λ : HL), o + d = L → GHL L Λ → GHL L (allH ink d o Λ)
  | 0, _, _, _, g => g
  | d + 1, o, Λ, h, g => GHL.all (L := L) d (o + 1) _ (by omega) (ghl_scn (show o < L by omega) 64 0 _ _ rfl g)
theorem hol7_c {L : Nat} {ink : Nat → Int64} (hL : L ≤ 10) : ∀ (d o fu : Nat) (Λ : HL) (M : Mm), o + d = L → d < fu → M.1 11 7 = nI L → (∀ i, i < L → M.2 12 i = ink i) → HC Λ M → GHL L Λ → ∃ M', b_X7_findHollows_11_7 fu (nI o) M = some M' ∧ Fr LHC M M' ∧ HC (allH ink d o Λ) M' := by
  intro d
  induction d with
  | zero =>
    intro o fu Λ M h1 h2 h7 hi hH g
    obtain ⟨fu, rfl⟩ : ∃ z, fu = z + 1 := ⟨fu - 1, by omega⟩
    refine ⟨M, ?_, Fr.refl, hH⟩
    show bb_X7_findHollows_11_7 _ _ _ = _
    unfold bb_X7_findHollows_11_7
    rw [h7, if_pos (nI_le (by omega) (by omega))]
  | succ d ih =>
    intro o fu Λ M h1 h2 h7 hi hH g
    obtain ⟨fu, rfl⟩ : ∃ z, fu = z + 1 := ⟨fu - 1, by omega⟩
    obtain ⟨M1, e1, f1, H1⟩ := scan_c (show o < L by omega) (b_X7_findHollows_11_7 fu) 64 0 0 FU (Hid (ink o)) Λ M rfl (Nat.le_refl _) (by decide) (fun i hi => absurd hi (by omega)) hH g.1
    obtain ⟨M2, e2, f2, H2⟩ := ih (o + 1) fu _ M1 (by omega) (by omega) (((f1 11 7 rfl).1).trans h7) (fun i hh => ((f1 12 i rfl).2).trans (hi i hh)) H1 (ghl_scn (show o < L by omega) 64 0 _ _ rfl g)
    refine ⟨M2, ?_, Fr.tr f1 f2, H2⟩
    show bb_X7_findHollows_11_7 _ _ _ = _
    unfold bb_X7_findHollows_11_7
    rw [h7, if_neg (nI_ge (by omega) (by omega)), gd_of (inb_nI (by omega) (by decide)), ix_nI (by omega), hi o (by omega), f_hidden, bd_some]
    exact e1.trans e2
def HL0 : HL := (0, fun _ => 0, fun _ => 0)
theorem GHL0 (L : Nat) : GHL L HL0 := ⟨Nat.zero_le _, fun i hi => absurd (show i < 0 from hi) (by omega)⟩
theorem hollows_c {L : Nat} {ink : Nat → Int64} {M : Mm} (hL : L ≤ 10) (h7 : M.1 11 7 = nI L) (hi : ∀ i, i < L → M.2 12 i = ink i) : ∃ M', f_X7_findHollows_11 M = some M' ∧ Fr LHC M M' ∧ HC (allH ink L 0 HL0) M' := by
  unfold f_X7_findHollows_11 bb_X7_findHollows_11_0
  rw [ltv_eq]
  obtain ⟨M', e, f, H⟩ := hol7_c (ink := ink) hL L 0 FU HL0 (wI M 11 9 0) (Nat.zero_add _) (by show L < 200000; omega) h7 hi ⟨wI_at, fun i h => absurd (show i < 0 from h) (by omega)⟩ (GHL0 L)
  exact ⟨M', e, Fr.tr (Fr.wrI rfl) f, H⟩
-- ===== the model's hollows =====
def LHM : List (Nat × Nat) := [(67, 19), (91, 999), (92, 999)]
def HM (Λ : HL) (M : Mm) : Prop := M.1 67 19 = nI Λ.1 ∧ ∀ i, i < Λ.1 → M.2 91 i = Λ.2.1 i ∧ M.1 92 i = nI (Λ.2.2 i)
theorem flood_m {x : Int64} {s : Nat} {o x4 : Int32} {N : Mm} (hs : s < 64) (k30 : Int32 → Int64 → Int32 → Mm → Option Mm) : b_X10_findHollows_67_58 k30 FU o x x4 (shL 1 (nI s)) 0 N = (ltv (x &&& (FlC x s ^^^ (-1 : Int64))) fun x2_10 => if (N.1 67 19) = (16 : Int32) then (ltv (x4 + (1 : Int32)) fun x4_17 => k30 o x2_10 x4_17 N) else (gd (inb (N.1 67 19) 16) (ltv (wJ N 91 (ix (N.1 67 19)) (FlC x s)) fun M_12 => gd (inb (M_12.1 67 19) 16) (ltv (wI M_12 92 (ix (M_12.1 67 19)) o) fun M_14 => ltv (wI M_14 67 19 ((M_14.1 67 19) + (1 : Int32))) fun M_15 => ltv (x4 + (1 : Int32)) fun x4_16 => k30 o x2_10 x4_16 M_15)))) := by
  have nz : ∀ k, ¬ itF x s k = 0 := by
    intro k z
    have := itF_s (x := x) hs k
    rw [z, lb_0] at this
    cases this
  refine for_q (fun q k (x7 : Int64) => b_X10_findHollows_67_58 k30 q o x x4 (itF x s k) x7 N) 65 (fun k x7 => x7 = if k = 0 then 0 else itF x s (k - 1)) (fun r => r = (ltv (x &&& (FlC x s ^^^ (-1 : Int64))) fun x2_10 => if (N.1 67 19) = (16 : Int32) then (ltv (x4 + (1 : Int32)) fun x4_17 => k30 o x2_10 x4_17 N) else (gd (inb (N.1 67 19) 16) (ltv (wJ N 91 (ix (N.1 67 19)) (FlC x s)) fun M_12 => gd (inb (M_12.1 67 19) 16) (ltv (wI M_12 92 (ix (M_12.1 67 19)) o) fun M_14 => ltv (wI M_14 67 19 ((M_14.1 67 19) + (1 : Int32))) fun M_15 => ltv (x4 + (1 : Int32)) fun x4_16 => k30 o x2_10 x4_16 M_15))))) ?_ ?_ 65 0 0 FU rfl (by decide) rfl
  · intro q k x7 hk hI
    show bb_X10_findHollows_67_58 _ _ _ _ _ _ _ _ = _ ∨ ∃ a', bb_X10_findHollows_67_58 _ _ _ _ _ _ _ _ = _ ∧ _
    unfold bb_X10_findHollows_67_58
    by_cases c : itF x s k = x7
    · left
      have k0 : ¬ k = 0 := by
        intro z
        rw [z, if_pos rfl] at hI
        rw [hI] at c
        exact nz k c
      rw [if_neg k0] at hI
      have e1 : itF x s (k - 1 + 1) = itF x s (k - 1) := by
        rw [show k - 1 + 1 = k by omega, c, hI]
      have e2 := itF_fix e1 (64 - (k - 1))
      rw [show k - 1 + (64 - (k - 1)) = 64 by omega] at e2
      have e3 : itF x s k = FlC x s := by
        rw [c, hI]
        exact e2.symm
      rw [if_pos c, e3]
    · right
      rw [if_neg c, g_beside, bd_some, ltv_eq]
      exact ⟨itF x s k, rfl, by rw [if_neg (by omega)]; rfl⟩
  · intro q x7 hI
    rw [if_neg (by decide)] at hI
    show bb_X10_findHollows_67_58 _ _ _ _ _ _ _ _ = _
    unfold bb_X10_findHollows_67_58
    rw [hI, if_pos (show itF x s 65 = itF x s (65 - 1) from itF_65 hs), itF_65 hs]
    rfl
theorem scan_m {o : Nat} (k7 : Int32 → Mm → Option Mm) : ∀ (d s fu : Nat) (x : Int64) (Λ : HL) (N : Mm), s + d = 64 → d < fu → HM Λ N → Λ.1 ≤ 16 → ∃ N', b_X10_findHollows_67_30 k7 fu (nI o) x (nI s) N = k7 (nI (o + 1)) N' ∧ Fr LHM N N' ∧ HM (scn o d s x Λ) N' := by
  intro d
  induction d with
  | zero =>
    intro s fu x Λ N h1 h2 hH hl
    obtain ⟨fu, rfl⟩ : ∃ z, fu = z + 1 := ⟨fu - 1, by omega⟩
    refine ⟨N, ?_, Fr.refl, hH⟩
    show bb_X10_findHollows_67_30 _ _ _ _ _ _ = _
    unfold bb_X10_findHollows_67_30
    rw [if_pos (show (64 : Int32) ≤ nI s from nI_le (a := 64) (by omega) (by omega)), ltv_eq, nI_1]
  | succ d ih =>
    intro s fu x Λ N h1 h2 hH hl
    obtain ⟨fu, rfl⟩ : ∃ z, fu = z + 1 := ⟨fu - 1, by omega⟩
    show ∃ N', bb_X10_findHollows_67_30 _ _ _ _ _ _ = _ ∧ _ ∧ HM (if lb x s then scn o d (s + 1) (x &&& (FlC x s ^^^ -1)) (addH Λ (FlC x s) o) else scn o d (s + 1) x Λ) N'
    unfold bb_X10_findHollows_67_30
    rw [if_neg (show ¬ (64 : Int32) ≤ nI s from nI_ge (b := 64) (by omega) (by decide)), f_is x (by omega), bd_some]
    cases hb : lb x s with
    | false =>
      rw [if_pos (by decide), ltv_eq, nI_1, if_neg (by decide)]
      exact ih (s + 1) fu x Λ N (by omega) (by omega) hH hl
    | true =>
      rw [if_neg (by decide), ltv_eq, flood_m (by omega), ltv_eq, if_pos rfl, hH.1]
      by_cases c16 : Λ.1 = 16
      · rw [if_pos (by rw [c16]; rfl), ltv_eq, nI_1, addH_full c16]
        exact ih (s + 1) fu _ Λ N (by omega) (by omega) hH hl
      · rw [if_neg (show ¬ nI Λ.1 = (16 : Int32) from fun z => c16 ((nI_eq (b := 16) (by omega) (by decide)).mp z)), gd_of (inb_nI (by omega) (by decide)), ltv_eq, ix_nI (by omega)]
        show ∃ N', gd (inb (N.1 67 19) 16) _ = _ ∧ _
        rw [hH.1, gd_of (inb_nI (by omega) (by decide)), ltv_eq, ltv_eq, ltv_eq]
        have eM : wI (wI (wJ N 91 Λ.1 (FlC x s)) 92 (ix ((wJ N 91 Λ.1 (FlC x s)).1 67 19)) (nI o)) 67 19 ((wI (wJ N 91 Λ.1 (FlC x s)) 92 (ix ((wJ N 91 Λ.1 (FlC x s)).1 67 19)) (nI o)).1 67 19 + 1) = wI (wI (wJ N 91 Λ.1 (FlC x s)) 92 Λ.1 (nI o)) 67 19 (nI (Λ.1 + 1)) := by
          show wI (wI (wJ N 91 Λ.1 (FlC x s)) 92 (ix (N.1 67 19)) (nI o)) 67 19 (N.1 67 19 + 1) = _
          rw [hH.1, ix_nI (by omega), nI_1]
        rw [eM, nI_1]
        have H' : HM (addH Λ (FlC x s) o) (wI (wI (wJ N 91 Λ.1 (FlC x s)) 92 Λ.1 (nI o)) 67 19 (nI (Λ.1 + 1))) := by
          unfold addH
          rw [if_neg c16]
          refine ⟨wI_at, fun i hi => ?_⟩
          show (wJ N 91 Λ.1 (FlC x s)).2 91 i = (if i = Λ.1 then FlC x s else Λ.2.1 i) ∧ (wI (wJ N 91 Λ.1 (FlC x s)) 92 Λ.1 (nI o)).1 92 i = nI (if i = Λ.1 then o else Λ.2.2 i)
          have hi' : i < Λ.1 + 1 := hi
          by_cases e : i = Λ.1
          · rw [if_pos e, if_pos e, e, wJ_at, wI_at]
            exact ⟨rfl, rfl⟩
          · rw [if_neg e, if_neg e, wJ_i e, wI_i e]
            exact hH.2 i (by omega)
        have l' : (addH Λ (FlC x s) o).1 ≤ 16 := by
          unfold addH
          rw [if_neg c16]
          show Λ.1 + 1 ≤ 16
          omega
        obtain ⟨M', e, f, H⟩ := ih (s + 1) fu (x &&& (FlC x s ^^^ -1)) _ _ (by omega) (by omega) H' l'
        exact ⟨M', e, Fr.tr (Fr.tr (Fr.wJa rfl) (Fr.tr (Fr.wIa rfl) (Fr.wrI rfl))) f, H⟩
theorem hol7_m {L : Nat} {ink : Nat → Int64} (hL : L ≤ 10) : ∀ (d o fu : Nat) (Λ : HL) (N : Mm), o + d = L → d < fu → N.1 70 0 = nI L → (∀ i, i < L → N.2 72 i = ink i) → HM Λ N → GHL L Λ → ∃ N', b_X10_findHollows_67_7 fu (nI o) N = some N' ∧ Fr LHM N N' ∧ HM (allH ink d o Λ) N' := by
  intro d
  induction d with
  | zero =>
    intro o fu Λ M h1 h2 h7 hi hH g
    obtain ⟨fu, rfl⟩ : ∃ z, fu = z + 1 := ⟨fu - 1, by omega⟩
    refine ⟨M, ?_, Fr.refl, hH⟩
    show bb_X10_findHollows_67_7 _ _ _ = _
    unfold bb_X10_findHollows_67_7
    rw [h7, if_pos (nI_le (by omega) (by omega))]
  | succ d ih =>
    intro o fu Λ M h1 h2 h7 hi hH g
    obtain ⟨fu, rfl⟩ : ∃ z, fu = z + 1 := ⟨fu - 1, by omega⟩
    obtain ⟨M1, e1, f1, H1⟩ := scan_m (o := o) (b_X10_findHollows_67_7 fu) 64 0 FU (Hid (ink o)) Λ M rfl (by decide) hH g.1
    obtain ⟨M2, e2, f2, H2⟩ := ih (o + 1) fu _ M1 (by omega) (by omega) (((f1 70 0 rfl).1).trans h7) (fun i hh => ((f1 72 i rfl).2).trans (hi i hh)) H1 (ghl_scn (show o < L by omega) 64 0 _ _ rfl g)
    refine ⟨M2, ?_, Fr.tr f1 f2, H2⟩
    show bb_X10_findHollows_67_7 _ _ _ = _
    unfold bb_X10_findHollows_67_7
    rw [h7, if_neg (nI_ge (by omega) (by omega)), gd_of (inb_nI (by omega) (by decide)), ix_nI (by omega), hi o (by omega), g_hidden, bd_some]
    exact e1.trans e2
theorem hollows_m {L : Nat} {ink : Nat → Int64} {N : Mm} (hL : L ≤ 10) (h7 : N.1 70 0 = nI L) (hi : ∀ i, i < L → N.2 72 i = ink i) : ∃ N', f_X10_findHollows_67 N = some N' ∧ Fr LHM N N' ∧ HM (allH ink L 0 HL0) N' := by
  unfold f_X10_findHollows_67 bb_X10_findHollows_67_0
  rw [ltv_eq]
  obtain ⟨M', e, f, H⟩ := hol7_m (ink := ink) hL L 0 FU HL0 (wI N 67 19 0) (Nat.zero_add _) (by show L < 200000; omega) h7 hi ⟨wI_at, fun i h => absurd (show i < 0 from h) (by omega)⟩ (GHL0 L)
  exact ⟨M', e, Fr.tr (Fr.wrI rfl) f, H⟩
