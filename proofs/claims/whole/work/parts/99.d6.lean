-- ===== hollows of a sheet =====
def stF (x c : Int64) : Int64 := c ||| (Adj c &&& x)
def itF (x : Int64) (s : Nat) : Nat → Int64
  | 0 => shL 1 (nI s)
  | k + 1 => stF x (itF x s k)
def FlC (x : Int64) (s : Nat) : Int64 := itF x s 64
theorem itF_fix {x : Int64} {s k : Nat} (h : itF x s (k + 1) = itF x s k) : ∀ d, itF x s (k + d) = itF x s k
  | 0 => rfl
  | d + 1 => by
    show stF x (itF x s (k + d)) = _
    rw [itF_fix h d]
    exact h
theorem stF_bes (x c : Int64) : c ||| (Bes c &&& x) = stF x c := by
  apply lb_ext
  intro i hi
  unfold stF Bes
  rw [lb_or, lb_or, lb_and, lb_and, lb_and, lb_not _ hi]
  cases lb c i <;> cases lb (Adj c) i <;> cases lb x i <;> rfl
theorem itF_sub {x : Int64} {s k i : Nat} (h : lb (itF x s k) i = true) : lb (itF x s (k + 1)) i = true := by
  show lb (stF x (itF x s k)) i = true
  unfold stF
  rw [lb_or, h, Bool.true_or]
theorem itF_s {x : Int64} {s : Nat} (hs : s < 64) : ∀ k, lb (itF x s k) s = true
  | 0 => by
    show lb (shL 1 (nI s)) s = true
    rw [lb_one hs hs]
    exact decide_eq_true rfl
  | k + 1 => itF_sub (itF_s hs k)
theorem itF_pop {x : Int64} {s : Nat} (hs : s < 64) : ∀ k, (∀ j, j < k → ¬ itF x s (j + 1) = itF x s j) → k + 1 ≤ pop (itF x s k)
  | 0, _ => pop_pos (fun z => by
      have := itF_s (x := x) hs 0
      rw [z, lb_0] at this
      cases this)
  | k + 1, h => by
    have ih := itF_pop hs k (fun j hj => h j (by omega))
    have hn := h k (Nat.lt_succ_self _)
    have sp := pop_split (itF x s (k + 1)) (itF x s k)
    have e1 : itF x s (k + 1) &&& itF x s k = itF x s k := by
      apply lb_ext
      intro i hi
      rw [lb_and]
      cases hb : lb (itF x s k) i with
      | true => rw [itF_sub hb]; rfl
      | false => rw [Bool.and_false]
    have e2 : 0 < pop (itF x s (k + 1) &&& (itF x s k ^^^ -1)) := by
      apply pop_pos
      intro z
      apply hn
      apply lb_ext
      intro i hi
      have := congrArg (fun w => lb w i) z
      have this : lb (itF x s (k + 1) &&& (itF x s k ^^^ -1)) i = lb 0 i := this
      rw [lb_and, lb_not _ hi, lb_0] at this
      cases hb : lb (itF x s k) i with
      | true => rw [itF_sub hb]
      | false =>
        rw [hb] at this
        simpa using this
    rw [e1] at sp
    omega
theorem itF_65 {x : Int64} {s : Nat} (hs : s < 64) : itF x s 65 = itF x s 64 := by
  apply Classical.byContradiction
  intro hn
  have all : ∀ j, j < 65 → ¬ itF x s (j + 1) = itF x s j := by
    intro j hj z
    apply hn
    have a := itF_fix z (65 - j)
    have b := itF_fix z (64 - j)
    rw [show j + (65 - j) = 65 by omega] at a
    rw [show j + (64 - j) = 64 by omega] at b
    rw [a, b]
  have := itF_pop hs 64 (fun j hj => all j (by omega))
  have h2 := pop_le (itF x s 64)
  omega
theorem grown_c {x : Int64} {s : Nat} (hs : s < 64) : f_X7_grown (shL 1 (nI s)) x = some (FlC x s) := by
  refine for_q (fun q k (_ : Unit) => b_X7_grown_6 q x (itF x s k) (nI k)) 64 (fun _ _ => True) (fun o => o = some (FlC x s)) ?_ ?_ 64 0 () FU rfl (by decide) trivial
  · intro q k _ hk _
    show bb_X7_grown_6 _ _ _ _ = _ ∨ ∃ a', bb_X7_grown_6 _ _ _ _ = _ ∧ _
    unfold bb_X7_grown_6
    rw [if_neg (show ¬ (64 : Int32) ≤ nI k from nI_ge (b := 64) hk (by decide)), f_beside, bd_some, ltv_eq, stF_bes]
    by_cases c : itF x s (k + 1) = itF x s k
    · left
      rw [if_pos (show stF x (itF x s k) = itF x s k from c)]
      have := itF_fix c (64 - k)
      rw [show k + (64 - k) = 64 by omega] at this
      rw [← this]
      rfl
    · right
      rw [if_neg (show ¬ stF x (itF x s k) = itF x s k from c), ltv_eq, nI_1]
      exact ⟨(), rfl, trivial⟩
  · intro q _ _
    show bb_X7_grown_6 _ _ _ _ = _
    unfold bb_X7_grown_6
    rw [if_pos (by decide)]
    rfl
abbrev HL : Type := Nat × (Nat → Int64) × (Nat → Nat)
def addH (Λ : HL) (y : Int64) (o : Nat) : HL := if Λ.1 = 16 then Λ else (Λ.1 + 1, fun i => if i = Λ.1 then y else Λ.2.1 i, fun i => if i = Λ.1 then o else Λ.2.2 i)
def scn (o : Nat) : Nat → Nat → Int64 → HL → HL
  | 0, _, _, Λ => Λ
  | d + 1, s, x, Λ => if lb x s then scn o d (s + 1) (x &&& (FlC x s ^^^ -1)) (addH Λ (FlC x s) o) else scn o d (s + 1) x Λ
def allH (ink : Nat → Int64) : Nat → Nat → HL → HL
  | 0, _, Λ => Λ
  | d + 1, o, Λ => allH ink d (o + 1) (scn o 64 0 (Hid (ink o)) Λ)
theorem addH_full {Λ : HL} {y : Int64} {o : Nat} (h : Λ.1 = 16) : addH Λ y o = Λ := if_pos h
theorem scn_full {o : Nat} {Λ : HL} (h : Λ.1 = 16) : ∀ d s x, scn o d s x Λ = Λ
  | 0, _, _ => rfl
  | d + 1, s, x => by
    show (if lb x s then scn o d (s + 1) (x &&& (FlC x s ^^^ -1)) (addH Λ (FlC x s) o) else scn o d (s + 1) x Λ) = Λ
    rw [addH_full h, scn_full h d, scn_full h d, ite_self]
def GHL (L : Nat) (Λ : HL) : Prop := Λ.1 ≤ 16 ∧ ∀ i, i < Λ.1 → Λ.2.2 i < L ∧ Λ.2.1 i ≠ 0
theorem GHL.add {L : Nat} {Λ : HL} {y : Int64} {o : Nat} (g : GHL L Λ) (ho : o < L) (hy : y ≠ 0) : GHL L (addH Λ y o) := by
  unfold addH
  by_cases c : Λ.1 = 16
  · rw [if_pos c]
    exact g
  · rw [if_neg c]
    refine ⟨by have := g.1; show Λ.1 + 1 ≤ 16; omega, fun i hi => ?_⟩
    show (if i = Λ.1 then o else Λ.2.2 i) < L ∧ (if i = Λ.1 then y else Λ.2.1 i) ≠ 0
    have hi' : i < Λ.1 + 1 := hi
    by_cases e : i = Λ.1
    · rw [if_pos e, if_pos e]
      exact ⟨ho, hy⟩
    · rw [if_neg e, if_neg e]
      exact g.2 i (by omega)
theorem Fl_ne {x : Int64} {s : Nat} (hs : s < 64) : FlC x s ≠ 0 := fun z => by
  have := itF_s (x := x) hs 64
  rw [show itF x s 64 = 0 from z, lb_0] at this
  cases this
theorem ghl_scn {L o : Nat} (ho : o < L) : ∀ (d s : Nat) (x : Int64) (Λ : HL), s + d = 64 → GHL L Λ → GHL L (scn o d s x Λ)
  | 0, _, _, _, _, g => g
  | d + 1, s, x, Λ, h, g => by
    show GHL L (if lb x s then scn o d (s + 1) (x &&& (FlC x s ^^^ -1)) (addH Λ (FlC x s) o) else scn o d (s + 1) x Λ)
    cases lb x s with
    | true =>
      rw [if_pos rfl]
      exact ghl_scn ho d (s + 1) _ _ (by omega) (g.add ho (Fl_ne (by omega)))
    | false =>
      rw [if_neg (by decide)]
      exact ghl_scn ho d (s + 1) _ _ (by omega) g
-- ===== the class's hollows =====
def LHC : List (Nat × Nat) := [(11, 9), (17, 999), (18, 999)]
def HC (Λ : HL) (M : Mm) : Prop := M.1 11 9 = nI Λ.1 ∧ ∀ i, i < Λ.1 → M.2 17 i = Λ.2.1 i ∧ M.1 18 i = nI (Λ.2.2 i)
theorem low_s {x : Int64} {s : Nat} (hs : s < 64) (h1 : ∀ i, i < s → lb x i = false) (h2 : lb x s = true) : x &&& -x = shL 1 (nI s) := by
  apply lb_ext
  intro i hi
  have hn : lb (-x) i = (lb x i ^^ (decide (i < 64) && decide (∃ j, j < i ∧ lb x j = true))) := by
    unfold lb
    rw [Int64.toBitVec_neg, BitVec.getLsbD_neg]
  rw [lb_and, lb_one hs hi, hn, decide_eq_true hi, Bool.true_and]
  rcases Nat.lt_trichotomy i s with z | z | z
  · rw [h1 i z, Bool.false_and, decide_eq_false (show ¬ i = s by omega)]
  · rw [z, h2, decide_eq_true rfl, decide_eq_false (by
      rintro ⟨j, hj, e⟩
      rw [h1 j hj] at e
      cases e)]
    rfl
  · rw [decide_eq_true ⟨s, z, h2⟩, decide_eq_false (show ¬ i = s by omega)]
    cases lb x i <;> rfl
theorem scan_c {L o : Nat} (ho : o < L) (k7 : Int32 → Mm → Option Mm) : ∀ (d s c fu : Nat) (x : Int64) (Λ : HL) (M : Mm), s + d = 64 → c ≤ s → d < fu → (∀ i, i < s → lb x i = false) → HC Λ M → Λ.1 ≤ 16 → ∃ M', b_X7_findHollows_11_28 k7 fu (nI o) x (nI c) M = k7 (nI (o + 1)) M' ∧ Fr LHC M M' ∧ HC (scn o d s x Λ) M' := by
  intro d
  induction d with
  | zero =>
    intro s c fu x Λ M h1 h2 h3 h4 hH hl
    obtain ⟨fu, rfl⟩ : ∃ z, fu = z + 1 := ⟨fu - 1, by omega⟩
    have x0 : x = 0 := by
      apply lb_ext
      intro i hi
      rw [h4 i (by omega), lb_0]
    refine ⟨M, ?_, Fr.refl, hH⟩
    show bb_X7_findHollows_11_28 _ _ _ _ _ _ = _
    unfold bb_X7_findHollows_11_28
    rw [if_pos x0, ite_self, ltv_eq, nI_1]
  | succ d ih =>
    intro s c fu x Λ M h1 h2 h3 h4 hH hl
    cases hb : lb x s with
    | false =>
      obtain ⟨M', e, f, H⟩ := ih (s + 1) c fu x Λ M (by omega) (by omega) (by omega) (fun i hi => by
        by_cases z : i = s
        · rw [z]
          exact hb
        · exact h4 i (by omega)) hH hl
      refine ⟨M', e, f, ?_⟩
      show HC (if lb x s then scn o d (s + 1) (x &&& (FlC x s ^^^ -1)) (addH Λ (FlC x s) o) else scn o d (s + 1) x Λ) M'
      rw [hb]
      exact H
    | true =>
      obtain ⟨fu, rfl⟩ : ∃ z, fu = z + 1 := ⟨fu - 1, by omega⟩
      have xn : ¬ x = 0 := by
        intro z
        rw [z, lb_0] at hb
        cases hb
      show ∃ M', bb_X7_findHollows_11_28 _ _ _ _ _ _ = _ ∧ _ ∧ HC (if lb x s then scn o d (s + 1) (x &&& (FlC x s ^^^ -1)) (addH Λ (FlC x s) o) else scn o d (s + 1) x Λ) M'
      unfold bb_X7_findHollows_11_28
      rw [if_neg (show ¬ (64 : Int32) ≤ nI c from nI_ge (b := 64) (by omega) (by decide)), if_neg xn, hH.1, hb, if_pos rfl]
      by_cases c16 : Λ.1 = 16
      · rw [if_pos (show (16 : Int32) ≤ nI Λ.1 from by rw [c16]; decide), ltv_eq, nI_1, addH_full c16, scn_full c16]
        exact ⟨M, rfl, Fr.refl, hH⟩
      · rw [if_neg (show ¬ (16 : Int32) ≤ nI Λ.1 from nI_ge (b := 16) (by omega) (by decide)), low_s (by omega) h4 hb, grown_c (by omega), bd_some, gd_of (inb_nI (by omega) (by decide)), ltv_eq, ix_nI (by omega)]
        show ∃ M', gd (inb (M.1 11 9) 16) _ = _ ∧ _
        rw [hH.1, gd_of (inb_nI (by omega) (by decide)), ltv_eq, ltv_eq, ltv_eq, ltv_eq]
        have eM : wI (wI (wJ M 17 Λ.1 (FlC x s)) 18 (ix ((wJ M 17 Λ.1 (FlC x s)).1 11 9)) (nI o)) 11 9 ((wI (wJ M 17 Λ.1 (FlC x s)) 18 (ix ((wJ M 17 Λ.1 (FlC x s)).1 11 9)) (nI o)).1 11 9 + 1) = wI (wI (wJ M 17 Λ.1 (FlC x s)) 18 Λ.1 (nI o)) 11 9 (nI (Λ.1 + 1)) := by
          show wI (wI (wJ M 17 Λ.1 (FlC x s)) 18 (ix (M.1 11 9)) (nI o)) 11 9 (M.1 11 9 + 1) = _
          rw [hH.1, ix_nI (by omega), nI_1]
        rw [eM, nI_1]
        have H' : HC (addH Λ (FlC x s) o) (wI (wI (wJ M 17 Λ.1 (FlC x s)) 18 Λ.1 (nI o)) 11 9 (nI (Λ.1 + 1))) := by
          unfold addH
          rw [if_neg c16]
          refine ⟨wI_at, fun i hi => ?_⟩
          show (wJ M 17 Λ.1 (FlC x s)).2 17 i = (if i = Λ.1 then FlC x s else Λ.2.1 i) ∧ (wI (wJ M 17 Λ.1 (FlC x s)) 18 Λ.1 (nI o)).1 18 i = nI (if i = Λ.1 then o else Λ.2.2 i)
          have hi' : i < Λ.1 + 1 := hi
          by_cases e : i = Λ.1
          · rw [if_pos e, if_pos e, e, wJ_at, wI_at]
            exact ⟨rfl, rfl⟩
          · rw [if_neg e, if_neg e, wJ_i e, wI_i e]
            exact hH.2 i (by omega)
        have l' : (addH Λ (FlC x s) o).1 ≤ 16 := by
          unfold addH
          rw [if_neg c16]
          show Λ.1 + 1 ≤ 16
          omega
        obtain ⟨M', e, f, H⟩ := ih (s + 1) (c + 1) fu (x &&& (FlC x s ^^^ -1)) _ _ (by omega) (by omega) (by omega) (fun i hi => by
          rw [lb_and, lb_not _ (by omega)]
          by_cases z : i = s
          · rw [z, show lb (FlC x s) s = true from itF_s (by omega) 64]
            simp
          · rw [h4 i (by omega)]
            rfl) H' l'
        exact ⟨M', e, Fr.tr (Fr.tr (Fr.wJa rfl) (Fr.tr (Fr.wIa rfl) (Fr.wrI rfl))) f, H⟩
