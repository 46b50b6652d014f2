-- ===== the class puts acts in order =====
def RpA (M : Mm) (T : Nat → It) (n : Nat) : Prop := ∀ j, j < n → M.1 31 j = nI (T j).1 ∧ M.1 32 j = nI (iT (T j)) ∧ M.1 33 j = nI (iF (T j))
def LAD : List (Nat × Nat) := [(30, 3), (31, 999), (32, 999), (33, 999)]
def itOk (w : It) : Prop := 0 < iT w ∧ iT w ≤ 64 ∧ iF w ≤ 15
theorem le_tf {a b : It} (ha : iT a ≤ 64 ∧ iF a ≤ 15) (hb : iT b ≤ 64 ∧ iF b ≤ 15) : (nI (iT a) * nI (iF b) ≤ nI (iT b) * nI (iF a)) ↔ leI a b := by
  have h1 : iT a * iF b ≤ 64 * 15 := Nat.mul_le_mul ha.1 hb.2
  have h2 : iT b * iF a ≤ 64 * 15 := Nat.mul_le_mul hb.1 ha.2
  rw [pk_mul, pk_mul, nI_leI (by omega) (by omega)]
  rfl
theorem add_ok {M : Mm} {T : Nat → It} {L : List It} {w : It} {p : Nat} (hw : itOk w) (h3 : M.1 30 3 = nI (p + L.length)) (h11 : p + L.length < 11) (hR : RpA M T (p + L.length)) (hP : PosI T 0 (p + L.length)) (hS : SS T p L) : ∃ M' T', f_X2_add_30 (nI w.1) (nI (iT w)) (nI (iF w)) (nI p) M = some M' ∧ Fr LAD M M' ∧ M'.1 30 3 = nI (p + L.length + 1) ∧ RpA M' T' (p + L.length + 1) ∧ SS T' p (L ++ [w]) ∧ ∀ j, j < p → T' j = T j := by
  generalize hn : p + L.length = n at *
  unfold f_X2_add_30 bb_X2_add_30_0
  rw [h3, if_pos (show nI n < (11 : Int32) from nI_lt (b := 11) h11 (by decide)), ltv_eq]
  -- the last step
  have fin : ∀ (a : Mm) (k : Nat), k ≤ n → Fr LAD M a → a.1 30 3 = nI n → InI T w p L k → (k = p ∨ leI (T (k - 1)) w) → (∀ j, j < n + 1 → j ≠ k → a.1 31 j = nI (insV T w k j).1 ∧ a.1 32 j = nI (iT (insV T w k j)) ∧ a.1 33 j = nI (iF (insV T w k j))) → ∃ M' T', bb_X2_add_30_112 (nI w.1) (nI (iT w)) (nI (iF w)) (nI k) a = some M' ∧ Fr LAD M M' ∧ M'.1 30 3 = nI (n + 1) ∧ RpA M' T' (n + 1) ∧ SS T' p (L ++ [w]) ∧ ∀ j, j < p → T' j = T j := by
    intro a k hk fa a3 hI hl ha
    refine ⟨_, insV T w k, ?_, Fr.tr fa (Fr.tr (Fr.wIa (c := 31) (i := k) (v := nI w.1) rfl) (Fr.tr (Fr.wIa (c := 32) (i := k) (v := nI (iT w)) rfl) (Fr.tr (Fr.wIa (c := 33) (i := k) (v := nI (iF w)) rfl) (Fr.wrI (c := 30) (i := 3) (v := nI (n + 1)) rfl)))), wI_at, fun j hj => ?_, hI.fin hS hw hl, fun j hj => insV_lt (by have := hI.1; omega)⟩
    · unfold bb_X2_add_30_112
      have k11 : inb (nI k) 11 = true := inb_nI (by omega) (by decide)
      simp only [gd_of k11, ltv_eq, ix_nI (show k < 2 ^ 31 by omega)]
      show some (wI (wI (wI (wI a 31 k (nI w.1)) 32 k (nI (iT w))) 33 k (nI (iF w))) 30 3 (a.1 30 3 + 1)) = _
      rw [a3, nI_1]
    · by_cases e : j = k
      · subst e
        rw [insV_eq]
        refine ⟨?_, ?_, ?_⟩
        · rw [wI_c (by decide), wI_c (by decide), wI_c (by decide), wI_at]
        · rw [wI_c (by decide), wI_c (by decide), wI_at]
        · rw [wI_c (by decide), wI_at]
      · obtain ⟨q1, q2, q3⟩ := ha j hj e
        refine ⟨?_, ?_, ?_⟩
        · rw [wI_c (by decide), wI_i e, wI_i e, wI_i e]
          exact q1
        · rw [wI_c (by decide), wI_i e, wI_i e, wI_i e]
          exact q2
        · rw [wI_c (by decide), wI_i e, wI_i e, wI_i e]
          exact q3
  refine wh_q (fun q (s : Mm × Nat) => b_X2_add_30_21 q (nI w.1) (nI (iT w)) (nI (iF w)) (nI p) (nI s.2) s.1) (fun s => s.2) (fun s => s.2 ≤ n ∧ Fr LAD M s.1 ∧ s.1.1 30 3 = nI n ∧ InI T w p L s.2 ∧ ∀ j, j < n + 1 → j ≠ s.2 → s.1.1 31 j = nI (insV T w s.2 j).1 ∧ s.1.1 32 j = nI (iT (insV T w s.2 j)) ∧ s.1.1 33 j = nI (iF (insV T w s.2 j))) (fun o => ∃ M' T', o = some M' ∧ Fr LAD M M' ∧ M'.1 30 3 = nI (n + 1) ∧ RpA M' T' (n + 1) ∧ SS T' p (L ++ [w]) ∧ ∀ j, j < p → T' j = T j) ?_ n (M, n) FU (Nat.le_refl _) (by show n < 200000; omega) ⟨Nat.le_refl _, Fr.refl, h3, by rw [← hn]; exact InI.start hS, fun j hj hne => ?_⟩
  · rintro q ⟨a, k⟩ ⟨hk, fa, a3, hI, ha⟩
    have hk' : k ≤ n := hk
    have hI' : InI T w p L k := hI
    have ha' : ∀ j, j < n + 1 → j ≠ k → a.1 31 j = nI (insV T w k j).1 ∧ a.1 32 j = nI (iT (insV T w k j)) ∧ a.1 33 j = nI (iF (insV T w k j)) := ha
    show (∃ M' T', bb_X2_add_30_21 _ _ _ _ _ _ _ = _ ∧ _) ∨ ∃ a', bb_X2_add_30_21 _ _ _ _ _ _ _ = _ ∧ _
    unfold bb_X2_add_30_21
    by_cases c1 : k = p
    · left
      rw [if_pos (nI_le (by omega) (by omega))]
      exact fin a k hk' fa a3 hI' (Or.inl c1) ha'
    · have hpk : p < k := by have := hI'.1; omega
      obtain ⟨i, rfl⟩ : ∃ i, k = i + 1 := ⟨k - 1, by omega⟩
      obtain ⟨g1, g2, g3⟩ := ha' i (by omega) (by omega)
      rw [insV_lt (by omega)] at g1 g2 g3
      have i11 : inb (nI i) 11 = true := inb_nI (by omega) (by decide)
      have k11 : inb (nI (i + 1)) 11 = true := inb_nI (by omega) (by decide)
      have ti := hP i (Nat.zero_le _) (by omega)
      rw [if_neg (nI_ge hpk (by omega)), if_neg (nI_nle (by omega) (by omega)), nI_pred, gd_of i11, gd_of i11, ix_nI (show i < 2 ^ 31 by omega), g2, g3]
      have hle := le_tf (a := T i) (b := w) ti.2 hw.2
      by_cases c2 : leI (T i) w
      · left
        rw [if_pos (hle.mpr c2)]
        exact fin a (i + 1) hk' fa a3 hI' (Or.inr c2) ha'
      · right
        rw [if_neg (fun z => c2 (hle.mp z))]
        refine ⟨(wI (wI (wI a 31 (i + 1) (nI (T i).1)) 32 (i + 1) (nI (iT (T i)))) 33 (i + 1) (nI (iF (T i))), i), ?_, ⟨by show i ≤ n; omega, Fr.tr fa (Fr.tr (Fr.wIa rfl) (Fr.tr (Fr.wIa rfl) (Fr.wIa rfl))), a3, hI'.step (by omega) c2, fun j hj hne => ?_⟩, by show i < i + 1; omega⟩
        · simp only [gd_of i11, gd_of k11, ltv_eq, ix_nI (show i + 1 < 2 ^ 31 by omega), g1]
          rw [show (wI a 31 (i + 1) (nI (T i).1)).1 32 i = nI (iT (T i)) from g2, show (wI (wI a 31 (i + 1) (nI (T i).1)) 32 (i + 1) (nI (iT (T i)))).1 33 i = nI (iF (T i)) from g3, nI_m1, nI_pred]
        · have hne' : j ≠ i := hne
          show (wI (wI (wI a 31 (i + 1) (nI (T i).1)) 32 (i + 1) (nI (iT (T i)))) 33 (i + 1) (nI (iF (T i)))).1 31 j = nI (insV T w i j).1 ∧ (wI (wI (wI a 31 (i + 1) (nI (T i).1)) 32 (i + 1) (nI (iT (T i)))) 33 (i + 1) (nI (iF (T i)))).1 32 j = nI (iT (insV T w i j)) ∧ (wI (wI (wI a 31 (i + 1) (nI (T i).1)) 32 (i + 1) (nI (iT (T i)))) 33 (i + 1) (nI (iF (T i)))).1 33 j = nI (iF (insV T w i j))
          by_cases e : j = i + 1
          · subst e
            rw [insV_gt (by omega), Nat.add_sub_cancel, wI_c (by decide), wI_c (by decide), wI_at, wI_c (by decide), wI_at, wI_at]
            exact ⟨rfl, rfl, rfl⟩
          · rw [wI_i e, wI_i e, wI_i e, wI_i e, wI_i e, wI_i e, wI_i e, wI_i e, wI_i e]
            have eq : insV T w i j = insV T w (i + 1) j := by
              by_cases z : j < i
              · rw [insV_lt z, insV_lt (by omega)]
              · rw [insV_gt (by omega), insV_gt (by omega)]
            rw [eq]
            exact ha' j hj e
  · have hne' : j ≠ n := hne
    show M.1 31 j = nI (insV T w n j).1 ∧ M.1 32 j = nI (iT (insV T w n j)) ∧ M.1 33 j = nI (iF (insV T w n j))
    rw [insV_lt (by omega)]
    exact hR j (by omega)
theorem add_full {M : Mm} (x y z p : Int32) (h : M.1 30 3 = nI 11) : f_X2_add_30 x y z p M = some (wI M 30 5 1) := by
  unfold f_X2_add_30 bb_X2_add_30_0
  rw [h, if_neg (by decide), ltv_eq]
/-- what the class has laid of blows L1 and bites L2 -/
def CuS (M : Mm) (L1 L2 : List It) : Prop := (L1.length + L2.length ≤ 11 ∧ M.1 30 3 = nI (L1.length + L2.length) ∧ M.1 30 5 = 0 ∧ ∃ T, RpA M T (L1.length + L2.length) ∧ SS T 0 L1 ∧ SS T L1.length L2) ∨ (11 < L1.length + L2.length ∧ M.1 30 3 = nI 11 ∧ M.1 30 5 = 1)
def LCT : List (Nat × Nat) := [(30, 3), (30, 5), (31, 999), (32, 999), (33, 999)]
theorem SS.pos2 {T : Nat → It} {L1 L2 : List It} (h1 : SS T 0 L1) (h2 : SS T L1.length L2) : PosI T 0 (L1.length + L2.length) := by
  intro j j1 j2
  by_cases q : j < L1.length
  · exact h1.1 j j1 (by omega)
  · exact h2.1 j (by omega) j2
theorem add_2 {M : Mm} {L1 L2 : List It} {w : It} (hw : itOk w) (h : CuS M L1 L2) {p : Int32} (hp : L1.length ≤ 11 → p = nI L1.length) : ∃ M', f_X2_add_30 (nI w.1) (nI (iT w)) (nI (iF w)) p M = some M' ∧ Fr LCT M M' ∧ CuS M' L1 (L2 ++ [w]) := by
  have hl : (L2 ++ [w]).length = L2.length + 1 := List.length_append
  rcases h with ⟨h1, h2, h3, T, r, s1, s2⟩ | ⟨h1, h2, h3⟩
  · by_cases h11 : L1.length + L2.length < 11
    · rw [hp (by omega)]
      obtain ⟨M', T', e1, f1, a3, r', s', k'⟩ := add_ok hw h2 h11 r (SS.pos2 s1 s2) s2
      refine ⟨M', e1, Fr.sub f1 (by decide), Or.inl ⟨by omega, by rw [a3, hl]; rfl, ((f1 30 5 rfl).1).trans h3, T', by rw [hl]; exact r', s1.cong (fun j _ h2 => k' j (by omega)), s'⟩⟩
    · have e : L1.length + L2.length = 11 := by omega
      refine ⟨_, add_full _ _ _ _ (by rw [h2, e]), Fr.wrI rfl, Or.inr ⟨by omega, ?_, wI_at⟩⟩
      rw [← e]
      exact h2
  · exact ⟨_, add_full _ _ _ _ h2, Fr.wrI rfl, Or.inr ⟨by omega, h2, wI_at⟩⟩
theorem add_1 {M : Mm} {L1 : List It} {w : It} (hw : itOk w) (h : CuS M L1 []) : ∃ M', f_X2_add_30 (nI w.1) (nI (iT w)) (nI (iF w)) 0 M = some M' ∧ Fr LCT M M' ∧ CuS M' (L1 ++ [w]) [] := by
  have hl : (L1 ++ [w]).length = L1.length + 1 := List.length_append
  rcases h with ⟨h1, h2, h3, T, r, s1, s2⟩ | ⟨h1, h2, h3⟩
  · have h1' : L1.length ≤ 11 := h1
    have h2' : M.1 30 3 = nI (0 + L1.length) := by rw [Nat.zero_add]; exact h2
    have r' : RpA M T (0 + L1.length) := by rw [Nat.zero_add]; exact r
    by_cases h11 : 0 + L1.length < 11
    · obtain ⟨M', T', e1, f1, a3, r2, s', k'⟩ := add_ok (p := 0) hw h2' h11 r' (SS.pos2 (L2 := []) s1 (SS.nil _ _) |> fun z => by rw [Nat.zero_add]; exact z) s1
      refine ⟨M', e1, Fr.sub f1 (by decide), Or.inl ⟨?_, ?_, ((f1 30 5 rfl).1).trans h3, T', ?_, s', SS.nil _ _⟩⟩
      · rw [hl]
        show L1.length + 1 + 0 ≤ 11
        omega
      · rw [a3, hl]
        congr 1
        show 0 + L1.length + 1 = L1.length + 1 + 0
        omega
      · rw [hl]
        have : L1.length + 1 + ([] : List It).length = 0 + L1.length + 1 := by
          show L1.length + 1 + 0 = _
          omega
        rw [this]
        exact r2
    · have e : L1.length = 11 := by omega
      refine ⟨_, add_full _ _ _ _ (by rw [h2', Nat.zero_add, e]), Fr.wrI rfl, Or.inr ⟨?_, ?_, wI_at⟩⟩
      · rw [hl]
        show 11 < L1.length + 1 + 0
        omega
      · rw [← e]
        exact h2
  · refine ⟨_, add_full _ _ _ _ h2, Fr.wrI rfl, Or.inr ⟨?_, h2, wI_at⟩⟩
    rw [hl]
    have : 11 < L1.length + 0 := h1
    show 11 < L1.length + 1 + 0
    omega
/-- the blows of letter p -/
def blI (σ : Sg) (c h : Nat) : It := (h, pop (sHol σ h), min (c + pop (sHol σ h) / 4) 15)
def blL (σ : Sg) (p c : Nat) : Nat → List It
  | 0 => []
  | h + 1 => if sOwn σ h = p then blL σ p c h ++ [blI σ c h] else blL σ p c h
/-- the bites by lines S -/
def biL (ink : Int64) (S s : Nat) : Nat → List It
  | 0 => []
  | l + 1 => if S.testBit l then biL ink S s l ++ [(100 + l, pop (Tk ink l), s)] else biL ink S s l
theorem pop_pos {x : Int64} (h : x ≠ 0) : 0 < pop x := by
  rcases Nat.eq_zero_or_pos (pop x) with q | q
  · exact absurd (pop_z.mp q) h
  · exact q
theorem blI_ok {σ : Sg} {c h : Nat} (g : Good σ) (hh : h < sH σ) : itOk (blI σ c h) := ⟨pop_pos (g.2.2.2.2.2 h hh).2, pop_le _, Nat.min_le_right _ _⟩
theorem bi_ok {ink : Int64} {S s l : Nat} (hS : IsLns ink S) (hl : l < 32) (hb : S.testBit l = true) (hs : s ≤ 15) : itOk (100 + l, pop (Tk ink l), s) := by
  refine ⟨pop_pos (fun z => ?_), pop_le _, hs⟩
  rw [gr_idle hS hl (by rw [z]; exact Int64.zero_and)] at hb
  cases hb
theorem lays_c {M : Mm} {σ : Sg} {p c : Nat} (g : Good σ) (hC : SC σ M) (hp : p < sL σ) (hc : c ≤ 15) : ∃ M', f_X2_lay_30_11 (nI p) (nI c) M = some M' ∧ Fr (LCT ++ [(30, 4)]) M M' ∧ CuS M' (blL σ p c (sH σ)) [] ∧ ((blL σ p c (sH σ)).length ≤ 11 → M'.1 30 4 = nI (blL σ p c (sH σ)).length) := by
  have hL := g.1
  have h16 := g.2.2.2.2.1
  unfold f_X2_lay_30_11 bb_X2_lay_30_11_0
  rw [ltv_eq, ltv_eq]
  refine for_q (fun q h (a : Mm) => b_X2_lay_30_11_13 q (nI p) (nI c) (nI h) a) (sH σ) (fun h a => Fr LCT M a ∧ CuS a (blL σ p c h) []) (fun o => ∃ M', o = some M' ∧ Fr (LCT ++ [(30, 4)]) M M' ∧ CuS M' (blL σ p c (sH σ)) [] ∧ ((blL σ p c (sH σ)).length ≤ 11 → M'.1 30 4 = nI (blL σ p c (sH σ)).length)) ?_ ?_ (sH σ) 0 _ FU (Nat.zero_add _) (by show _ < 200000; omega) ⟨Fr.tr (Fr.wrI rfl) (Fr.wrI rfl), Or.inl ⟨show (0 : Nat) + 0 ≤ 11 by decide, rfl, rfl, fun _ => (0, 0, 0), fun j hj => absurd hj (Nat.not_lt_zero _), SS.nil _ _, SS.nil _ _⟩⟩
  · rintro q h a hh ⟨f1, c1⟩
    right
    have s := (hC.fr f1 (by decide)).of
    have ho := (g.2.2.2.2.2 h hh).1
    have hpl := pop_le (sHol σ h)
    have i16 : inb (nI h) 16 = true := inb_nI (by omega) (by decide)
    show ∃ a', bb_X2_lay_30_11_13 _ _ _ _ _ = _ ∧ Fr LCT M a' ∧ CuS a' (if sOwn σ h = p then blL σ p c h ++ [blI σ c h] else blL σ p c h) []
    unfold bb_X2_lay_30_11_13
    rw [s.2.2.1, if_neg (nI_ge hh (by omega)), gd_of i16, ix_nI (by omega), (s.2.2.2.2.2.2 h hh).2]
    by_cases e : sOwn σ h = p
    · obtain ⟨a', e1, f2, c2⟩ := add_1 (blI_ok (c := c) g hh) c1
      refine ⟨a', ?_, Fr.tr f1 f2, by rw [if_pos e]; exact c2⟩
      have em : (if nI c + nI (pop (sHol σ h)) / 4 < (15 : Int32) then nI c + nI (pop (sHol σ h)) / 4 else (15 : Int32)) = nI (min (c + pop (sHol σ h) / 4) 15) := by
        rw [show nI (pop (sHol σ h)) / 4 = nI (pop (sHol σ h) / 4) from pk_div (by omega) (by decide) (by decide), nI_add, show (15 : Int32) = nI 15 from rfl, min_nI (by omega) (by decide), Nat.min_comm]
      rw [if_pos (by rw [e]), gd_of i16, (s.2.2.2.2.2.2 h hh).1, f_bits, bd_some, em, show f_X2_add_30 (nI h) (nI (pop (sHol σ h))) (nI (min (c + pop (sHol σ h) / 4) 15)) 0 a = some a' from e1, bd_some, ltv_eq, nI_1]
    · refine ⟨a, ?_, f1, by rw [if_neg e]; exact c1⟩
      rw [if_neg (fun z => e ((nI_inj10 (by omega) (by omega)).mp z)), ltv_eq, nI_1]
  · rintro q a ⟨f1, c1⟩
    have s := (hC.fr f1 (by decide)).of
    show ∃ M', bb_X2_lay_30_11_13 _ _ _ _ _ = _ ∧ _
    unfold bb_X2_lay_30_11_13
    rw [s.2.2.1, if_pos (nI_le (Nat.le_refl _) (by omega)), ltv_eq]
    refine ⟨_, rfl, Fr.tr (Fr.sub f1 (by decide)) (Fr.wrI rfl), c1, fun h11 => ?_⟩
    rw [wI_at]
    rcases c1 with ⟨_, h2, _⟩ | ⟨h1, _⟩
    · exact h2
    · have : 11 < (blL σ p c (sH σ)).length + 0 := h1
      omega
theorem bites_c {M : Mm} {ink : Int64} {S s : Nat} {L1 : List It} (hS : IsLns ink S) (hs : s ≤ 15) (hT : TkC ink M) (hC : CuS M L1 []) (h4 : L1.length ≤ 11 → M.1 30 4 = nI L1.length) : ∃ M', f_X2_layBites_30_19 (lN S) (nI s) M = some M' ∧ Fr LCT M M' ∧ CuS M' L1 (biL ink S s 32) := by
  refine for_q (fun q l (a : Mm) => b_X2_layBites_30_19_3 q (lN S) (nI s) (nI l) a) 32 (fun l a => Fr LCT M a ∧ CuS a L1 (biL ink S s l)) (fun o => ∃ M', o = some M' ∧ Fr LCT M M' ∧ CuS M' L1 (biL ink S s 32)) ?_ ?_ 32 0 M FU rfl (by decide) ⟨Fr.refl, hC⟩
  · rintro q l a hl ⟨f1, c1⟩
    right
    show ∃ a', bb_X2_layBites_30_19_3 _ _ _ _ _ = _ ∧ Fr LCT M a' ∧ CuS a' L1 (if S.testBit l then biL ink S s l ++ [(100 + l, pop (Tk ink l), s)] else biL ink S s l)
    unfold bb_X2_layBites_30_19_3
    rw [if_neg (show ¬ (32 : Int32) ≤ nI l from nI_ge (b := 32) hl (by decide))]
    cases hb : S.testBit l with
    | false =>
      refine ⟨a, ?_, f1, by rw [if_neg (by decide)]; exact c1⟩
      rw [if_pos ((lbitT (by omega)).mpr hb), ltv_eq, nI_1]
    | true =>
      obtain ⟨a', e1, f2, c2⟩ := add_2 (p := a.1 30 4) (bi_ok hS hl hb hs) c1 (fun h => ((f1 30 4 rfl).1).trans (h4 h))
      have tk : f_X3_takenBy_19 (nI l) a = some (Tk ink l) := by
        unfold f_X3_takenBy_19 bb_X3_takenBy_19_0
        rw [if_neg (nI_pos (by omega)), if_neg (show ¬ (32 : Int32) ≤ nI l from nI_ge (b := 32) hl (by decide)), gd_of (inb_nI hl (by decide)), ix_nI (by omega), (f1 20 l rfl).2, hT l hl]
      refine ⟨a', ?_, Fr.tr f1 f2, by rw [if_pos rfl]; exact c2⟩
      rw [if_neg (fun z => by rw [(lbitT (by omega)).mp z] at hb; cases hb), tk, bd_some, f_bits, bd_some, show (100 : Int32) + nI l = nI (100 + l) from nI_add 100 l, e1, bd_some, ltv_eq, nI_1]
  · rintro q a ⟨f1, c1⟩
    show ∃ M', bb_X2_layBites_30_19_3 _ _ _ _ _ = _ ∧ _
    unfold bb_X2_layBites_30_19_3
    rw [if_pos (by decide)]
    exact ⟨a, rfl, f1, c1⟩
