-- ===== the class: sheet =====
def δ0 : Dr := (0, fun _ => 0, 0, fun _ _ => 0, fun _ => 0, fun _ => 4)
theorem GD0 : GD δ0 := ⟨Nat.zero_le _, Nat.zero_le _, fun w hw => absurd (show w < 0 from hw) (by omega), fun _ _ => (show 4 ≤ 16 by decide)⟩
def LRF : List (Nat × Nat) := [(1, 2), (1, 3), (3, 9), (5, 999)] ++ LRD
theorem wipe3_c (M : Mm) : ∃ M', f_X7_wipe_3 M = some M' ∧ Fr [(3, 7), (3, 8), (3, 9), (4, 999), (5, 999), (7, 999), (8, 999)] M M' ∧ DC δ0 M' := by
  obtain ⟨M1, e1, f1, t1⟩ := fill4 0 (wI (wI (wI M 3 7 0) 3 8 0) 3 9 0)
  obtain ⟨M2, e2, f2, t2⟩ := fill5 (-1) M1
  obtain ⟨M3, e3, f3, t3⟩ := fill7 0 M2
  obtain ⟨M4, e4, f4, t4⟩ := fill8 4 M3
  refine ⟨M4, ?_, Fr.tr (Fr.tr (Fr.wrI rfl) (Fr.tr (Fr.wrI rfl) (Fr.wrI rfl))) (Fr.tr (Fr.sub f1 (by decide)) (Fr.tr (Fr.sub f2 (by decide)) (Fr.tr (Fr.sub f3 (by decide)) (Fr.sub f4 (by decide))))), DC.mk ⟨?_, fun i hi => absurd (show i < 0 from hi) (by omega), ?_, fun w hw => absurd (show w < 0 from hw) (by omega), t4⟩⟩
  · unfold f_X7_wipe_3 bb_X7_wipe_3_0
    rw [ltv_eq, ltv_eq, ltv_eq, e1, bd_some, e2, bd_some, e3, bd_some, e4, bd_some]
  · exact ((f4 3 7 rfl).1).trans (((f3 3 7 rfl).1).trans (((f2 3 7 rfl).1).trans (f1 3 7 rfl).1))
  · exact ((f4 3 8 rfl).1).trans (((f3 3 8 rfl).1).trans (((f2 3 8 rfl).1).trans (f1 3 8 rfl).1))
theorem rfirst_c {h : Nat → Int32} {n : Nat} {M : Mm} (t : Tx h n) (hx : ∀ i, i < n → M.1 2 i = h i) : ∃ M' v, f_X8_readFirst_1 (nI n) M = some (v, M') ∧ Fr LRF M M' ∧ M'.1 1 2 = 0 ∧ ((∃ k p, ldP h n 62 0 δ0 (sk h 0) = .inl (k, p) ∧ v = nI k ∧ FS n k p M') ∨ ∃ δ', ldP h n 62 0 δ0 (sk h 0) = .inr δ' ∧ v = 0 ∧ DC δ' M' ∧ GD δ' ∧ M'.1 1 6 = -1) := by
  have h5 := t.1
  unfold f_X8_readFirst_1 bb_X8_readFirst_1_0
  rw [if_neg (show ¬ (500 : Int32) < nI n from nI_nlt (a := 500) h5 (by omega)), ltv_eq, ltv_eq, ltv_eq, ltv_eq, ltv_eq]
  have f0 : Fr LRF M (wI (wI (wI (wI (wI M 1 3 (nI n)) 1 2 0) 1 4 0) 1 5 0) 1 6 (-1)) := Fr.tr (Fr.wrI rfl) (Fr.tr (Fr.wrI rfl) (Fr.tr (Fr.wrI rfl) (Fr.tr (Fr.wrI rfl) (Fr.wrI rfl))))
  have a3 : (wI (wI (wI (wI (wI M 1 3 (nI n)) 1 2 0) 1 4 0) 1 5 0) 1 6 (-1)).1 1 3 = nI n := rfl
  have a2 : (wI (wI (wI (wI (wI M 1 3 (nI n)) 1 2 0) 1 4 0) 1 5 0) 1 6 (-1)).1 1 2 = 0 := rfl
  have a4 : (wI (wI (wI (wI (wI M 1 3 (nI n)) 1 2 0) 1 4 0) 1 5 0) 1 6 (-1)).1 1 4 = 0 := rfl
  have a5 : (wI (wI (wI (wI (wI M 1 3 (nI n)) 1 2 0) 1 4 0) 1 5 0) 1 6 (-1)).1 1 5 = 0 := rfl
  have a6 : (wI (wI (wI (wI (wI M 1 3 (nI n)) 1 2 0) 1 4 0) 1 5 0) 1 6 (-1)).1 1 6 = -1 := rfl
  generalize wI (wI (wI (wI (wI M 1 3 (nI n)) 1 2 0) 1 4 0) 1 5 0) 1 6 (-1) = M0 at *
  obtain ⟨M1, e1, f1, d1⟩ := wipe3_c M0
  have T1 : TC h n M1 := ⟨((f1 1 3 rfl).1).trans a3, fun i hi => ((f1 2 i rfl).1).trans (((f0 2 i rfl).1).trans (hx i hi))⟩
  obtain ⟨M2, e2, f2, p2⟩ := skip_c (a := 0) t T1 (((f1 1 4 rfl).1).trans a4) (Nat.zero_le _)
  have cs : CS h n δ0 (sk h 0) M2 := ⟨T1.f4 f2, d1.fr f2 (by decide), p2, ((f2 1 5 rfl).1).trans (((f1 1 5 rfl).1).trans a5), sk_le t (Nat.zero_le _), GD0, ((f2 1 6 rfl).1).trans (((f1 1 6 rfl).1).trans a6)⟩
  obtain ⟨M3, v, e3, f3, r3⟩ := load_c t 62 0 FU δ0 (sk h 0) M2 rfl (by decide) (by decide) cs
  rw [e1, bd_some, e2, bd_some]
  refine ⟨M3, v, e3, Fr.tr f0 (Fr.tr (Fr.sub f1 (by decide)) (Fr.tr (Fr.sub f2 (by decide)) (Fr.sub f3 (by decide)))), ?_, r3⟩
  exact ((f3 1 2 rfl).1).trans (((f2 1 2 rfl).1).trans (((f1 1 2 rfl).1).trans a2))
def mkS (δ : Dr) (Λ : HL) : Sg := (dL δ, dW δ, dI δ, dN δ, dXw δ, dS δ, Λ.1, Λ.2.1, Λ.2.2)
def sgD (δ : Dr) : Sg := mkS δ (allH (dI δ) (dL δ) 0 HL0)
theorem Good_sg {δ : Dr} (g : GD δ) : Good (sgD δ) := by
  have gh := GHL.all (ink := dI δ) (dL δ) 0 HL0 (Nat.zero_add _) (GHL0 (dL δ))
  exact ⟨g.1, g.2.1, g.2.2.1, g.2.2.2, gh.1, gh.2⟩
def LCO : List (Nat × Nat) := [(11, 7), (11, 8), (11, 9), (12, 999), (13, 999), (14, 999), (15, 999), (16, 999)]
theorem cpI_at {M : Mm} {a b n i : Nat} (h : i < n) : (cpI M a b n).1 b i = M.1 a i := if_pos ⟨rfl, h⟩
theorem cpJ_at {M : Mm} {a b n i : Nat} (h : i < n) : (cpJ M a b n).2 b i = M.2 a i := if_pos ⟨rfl, h⟩
theorem copyOf_c {δ : Dr} {M : Mm} (hD : DC δ M) (g : GD δ) : ∃ M', f_X7_copyOf_11_3 M = some M' ∧ Fr LCO M M' ∧ M'.1 11 7 = nI (dL δ) ∧ M'.1 11 8 = nI (dW δ) ∧ (∀ i, i < dL δ → M'.2 12 i = dI δ i) ∧ (∀ w, w < dW δ → M'.1 15 w = nI (dN δ w) ∧ ∀ k, k < dN δ w → M'.1 14 (8 * w + k) = nI (dXw δ w k)) ∧ (∀ z, z < 10 → M'.1 16 z = nI (dS δ z)) ∧ ∀ l, l < 10 → M'.2 13 l = -1 := by
  have gL := g.1
  have gW := g.2.1
  obtain ⟨M1, e1, f1, t1⟩ := fill12 0 (wI (wI (wI M 11 7 0) 11 8 0) 11 9 0)
  obtain ⟨M2, e2, f2, t2⟩ := fill13 (-1) M1
  obtain ⟨M3, e3, f3, t3⟩ := fill15 0 M2
  obtain ⟨M4, e4, f4, t4⟩ := fill16 4 M3
  have fr : Fr LCO M M4 := Fr.tr (Fr.tr (Fr.wrI rfl) (Fr.tr (Fr.wrI rfl) (Fr.wrI rfl))) (Fr.tr (Fr.sub f1 (by decide)) (Fr.tr (Fr.sub f2 (by decide)) (Fr.tr (Fr.sub f3 (by decide)) (Fr.sub f4 (by decide)))))
  have v13 : ∀ l, l < 10 → M4.2 13 l = -1 := fun l hl => ((f4 13 l rfl).2).trans (((f3 13 l rfl).2).trans (t2 l hl))
  have hD4 : DC δ M4 := hD.fr fr (by decide)
  obtain ⟨d1, d2, d3, d4, d5⟩ := hD4.of
  have ew : f_X7_wipe_11 M = some M4 := by
    unfold f_X7_wipe_11 bb_X7_wipe_11_0
    rw [ltv_eq, ltv_eq, ltv_eq, e1, bd_some, e2, bd_some, e3, bd_some, e4, bd_some]
  unfold f_X7_copyOf_11_3 bb_X7_copyOf_11_3_0
  rw [ew, bd_some, ltv_eq, ltv_eq, ltv_eq, ltv_eq, ltv_eq, ltv_eq]
  have b7 : (wI (wI M4 11 7 (M4.1 3 7)) 11 8 ((wI M4 11 7 (M4.1 3 7)).1 3 8)).1 11 7 = nI (dL δ) := d1
  have b8 : (wI (wI M4 11 7 (M4.1 3 7)) 11 8 ((wI M4 11 7 (M4.1 3 7)).1 3 8)).1 11 8 = nI (dW δ) := d3
  have fr5 : Fr LCO M (wI (wI M4 11 7 (M4.1 3 7)) 11 8 ((wI M4 11 7 (M4.1 3 7)).1 3 8)) := Fr.tr fr (Fr.tr (Fr.wrI rfl) (Fr.wrI rfl))
  have c13 : ∀ l, l < 10 → (wI (wI M4 11 7 (M4.1 3 7)) 11 8 ((wI M4 11 7 (M4.1 3 7)).1 3 8)).2 13 l = -1 := v13
  have hD5 : DC0 δ (wI (wI M4 11 7 (M4.1 3 7)) 11 8 ((wI M4 11 7 (M4.1 3 7)).1 3 8)) := ⟨d1, d2, d3, d4, d5⟩
  generalize wI (wI M4 11 7 (M4.1 3 7)) 11 8 ((wI M4 11 7 (M4.1 3 7)).1 3 8) = M5 at *
  obtain ⟨k1, k2, k3, k4, k5⟩ := hD5
  refine ⟨_, rfl, Fr.tr fr5 (Fr.tr (Fr.cpJ rfl) (Fr.tr (Fr.cpI rfl) (Fr.tr (Fr.cpI rfl) (Fr.cpI rfl)))), b7, b8, fun i hi => ?_, fun w hw => ⟨?_, fun k hk => ?_⟩, fun z hz => ?_, c13⟩
  · exact (cpJ_at (M := M5) (a := 4) (b := 12) (n := 10) (by omega)).trans (k2 i hi)
  · exact (cpI_at (M := cpI (cpJ M5 4 12 10) 6 14 48) (a := 7) (b := 15) (n := 6) (by omega)).trans (k4 w hw).1
  · have := (g.2.2.1 w hw).2.1
    exact (cpI_at (M := cpJ M5 4 12 10) (a := 6) (b := 14) (n := 48) (by omega)).trans ((k4 w hw).2 k hk)
  · exact (cpI_at (M := cpI (cpI (cpJ M5 4 12 10) 6 14 48) 7 15 6) (a := 8) (b := 16) (n := 10) hz).trans (k5 z hz)
def β0 : Bn := (-1, 0, 0, 0, fun _ => .inl 0, 0, fun _ => 0)
theorem GB0 (σ : Sg) : GoodB σ β0 := ⟨Or.inl rfl, Or.inl rfl, Nat.zero_le _, fun k hk => absurd (show k < 0 from hk) (by omega), Nat.zero_le _, fun k hk => absurd (show k < 0 from hk) (by omega)⟩
def LSE : List (Nat × Nat) := LCO ++ [(0, 10), (17, 999), (18, 999), (24, 5), (25, 999), (29, 999), (34, 0), (34, 1), (35, 999), (36, 999), (37, 999), (38, 999), (43, 999), (50, 0), (50, 1), (50, 2), (50, 5), (50, 7)]
theorem set_c {δ : Dr} {M : Mm} (hD : DC δ M) (g : GD δ) : ∃ M', (bd (f_X7_copyOf_11_3 M) fun M_8 => bd (f_X7_findHollows_11 M_8) fun M_10 => bd (f_X1_lay_24_11 M_10) fun M_12 => bd (f_X6_lay_34_11 M_12) fun M_14 => bd (f_X0_wipe_50 M_14) fun M_16 => ltv (wI M_16 0 10 (0 : Int32)) fun M_17 => some (M_17.1 11 7, M_17)) = some (nI (dL δ), M') ∧ Fr LSE M M' ∧ RC (sgD δ) M' ∧ BC β0 50 M' ∧ M'.1 0 10 = 0 := by
  have gL := g.1
  have gS := Good_sg g
  obtain ⟨M1, e1, f1, a1, a2, a3, a4, a5, a6⟩ := copyOf_c hD g
  obtain ⟨M2, e2, f2, H2⟩ := hollows_c (ink := dI δ) gL a1 a3
  have S2 : SC (sgD δ) M2 := SC.mk ⟨((f2 11 7 rfl).1).trans a1, ((f2 11 8 rfl).1).trans a2, H2.1, fun i hi => ((f2 12 i rfl).2).trans (a3 i hi), fun w hw => ⟨((f2 15 w rfl).1).trans (a4 w hw).1, fun k hk => ((f2 14 _ rfl).1).trans ((a4 w hw).2 k hk)⟩, fun z hz => ((f2 16 z rfl).1).trans (a5 z hz), H2.2⟩
  have c1 : C1 (sgD δ) M2 := by
    show C10 (sgD δ) M2
    intro l hl
    have hl' : l < dL δ := hl
    exact Or.inl (((f2 13 l rfl).2).trans (a6 l (by omega)))
  obtain ⟨M3, e3, f3, c2, c3⟩ := layC_c gS S2
  have S3 : SC (sgD δ) M3 := S2.fr f3 (by decide)
  obtain ⟨M4, e4, f4, c4, c5⟩ := layT_c gS S3
  let M5 : Mm := wI (wI (wI (wJ (wI M4 50 0 (-1)) 50 1 0) 50 2 0) 50 5 0) 50 7 0
  have e5 : f_X0_wipe_50 M4 = some M5 := rfl
  have f5 : Fr [(50, 0), (50, 1), (50, 2), (50, 5), (50, 7), (0, 10)] M4 (wI M5 0 10 0) := Fr.tr (Fr.wrI rfl) (Fr.tr (Fr.wrJ rfl) (Fr.tr (Fr.wrI rfl) (Fr.tr (Fr.wrI rfl) (Fr.tr (Fr.wrI rfl) (Fr.wrI rfl)))))
  have b7 : (wI M5 0 10 0).1 11 7 = nI (dL δ) := ((f5 11 7 rfl).1).trans (((f4 11 7 rfl).1).trans (((f3 11 7 rfl).1).trans (((f2 11 7 rfl).1).trans a1)))
  refine ⟨wI M5 0 10 0, ?_, Fr.tr (Fr.sub f1 (by decide)) (Fr.tr (Fr.sub f2 (by decide)) (Fr.tr (Fr.sub f3 (by decide)) (Fr.tr (Fr.sub f4 (by decide)) (Fr.sub f5 (by decide))))), ⟨(S3.fr f4 (by decide)).fr f5 (by decide), ((c1.fr f3 (by decide)).fr f4 (by decide)).fr f5 (by decide), (c2.fr f4 (by decide)).fr f5 (by decide), (c3.fr f4 (by decide)).fr f5 (by decide), c4.fr f5 (by decide), c5.fr f5 (by decide)⟩, ?_, wI_at⟩
  · rw [e1, bd_some, e2, bd_some, e3, bd_some, e4, bd_some, e5, bd_some, ltv_eq, b7]
  · show BC0 β0 50 (wI M5 0 10 0)
    exact ⟨rfl, ⟨rfl, fun z => absurd rfl z⟩, rfl, fun k hk => absurd (show k < 0 from hk) (by omega), rfl, fun k hk => absurd (show k < 0 from hk) (by omega)⟩
