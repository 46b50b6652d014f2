-- ===== the class: a clause, and all of them =====
def rsP (h : Nat → Int32) (kw : Int32) (δ : Dr) (a : Nat) : Oc (Dr × Nat) := if kw = 0 then .inr (addL δ 0, a) else if kw = 1 then cpP h true δ a else if kw = 2 then cpP h false δ a else if kw = 6 then wdP h δ a else if kw = 7 then spP h δ a else drP h kw δ a
def drB (kw : Int32) : Bool := decide (kw = 3) || (decide (kw = 4) || decide (kw = 5))
def tmB (kw : Int32) (δ : Dr) : Bool := if kw = 6 then decide (6 ≤ dW δ) else if kw = 0 ∨ kw = 1 ∨ kw = 2 then decide (10 ≤ dL δ) else false
def clP (h : Nat → Int32) (δ : Dr) (c a : Nat) : Oc (Dr × Nat) := if kwV h a (aE h a) = -1 ∨ (drB (kwV h a (aE h a)) = true ∧ dL δ = 0) then .inl (1, a) else if 60 ≤ c ∨ tmB (kwV h a (aE h a)) δ = true then .inl (3, a) else obd (rsP h (kwV h a (aE h a)) δ (aE h a)) fun q => obd (smP h q.2) fun e => .inr (q.1, e)
theorem kwV_in (h : Nat → Int32) (a e : Nat) : kwV h a e = -1 ∨ kwV h a e = 0 ∨ kwV h a e = 1 ∨ kwV h a e = 2 ∨ kwV h a e = 3 ∨ kwV h a e = 4 ∨ kwV h a e = 5 ∨ kwV h a e = 6 ∨ kwV h a e = 7 := by
  unfold kwV
  by_cases c0 : StP h a e 0 6
  · rw [if_pos c0]; decide
  rw [if_neg c0]
  by_cases c1 : StP h a e 1 6
  · rw [if_pos c1]; decide
  rw [if_neg c1]
  by_cases c2 : StP h a e 2 6
  · rw [if_pos c2]; decide
  rw [if_neg c2]
  by_cases c3 : StP h a e 3 3
  · rw [if_pos c3]; decide
  rw [if_neg c3]
  by_cases c4 : StP h a e 4 4
  · rw [if_pos c4]; decide
  rw [if_neg c4]
  by_cases c5 : StP h a e 5 3
  · rw [if_pos c5]; decide
  rw [if_neg c5]
  by_cases c6 : StP h a e 6 4
  · rw [if_pos c6]; decide
  rw [if_neg c6]
  by_cases c7 : StP h a e 7 6
  · rw [if_pos c7]; decide
  rw [if_neg c7]
  decide
theorem tm_c {δ : Dr} {M : Mm} (kw : Int32) (hD : DC δ M) (g : GD δ) : f_X8_isOneTooMany_1 kw M = some (if tmB kw δ then 1 else 0) := by
  have hd := hD.of
  have g1 := g.1
  have g2 := g.2.1
  unfold f_X8_isOneTooMany_1 bb_X8_isOneTooMany_1_0 tmB bb_X8_isOneTooMany_1_38 bb_X8_isOneTooMany_1_43
  rw [hd.1, hd.2.2.1]
  by_cases k6 : kw = 6
  · rw [if_pos k6, if_pos k6]
    by_cases c : dW δ < 6
    · rw [if_pos (show nI (dW δ) < (6 : Int32) from nI_lt (b := 6) c (by decide)), decide_eq_false (by omega)]
      rfl
    · rw [if_neg (show ¬ nI (dW δ) < (6 : Int32) from nI_nlt (b := 6) (by omega) (by omega)), decide_eq_true (by omega)]
      rfl
  · rw [if_neg k6, if_neg k6]
    have tl : (if nI (dL δ) < (10 : Int32) then some (0 : Int32) else some 1) = some (if decide (10 ≤ dL δ) then 1 else 0) := by
      by_cases c : dL δ < 10
      · rw [if_pos (show nI (dL δ) < (10 : Int32) from nI_lt (b := 10) c (by decide)), decide_eq_false (by omega)]
        rfl
      · rw [if_neg (show ¬ nI (dL δ) < (10 : Int32) from nI_nlt (b := 10) (by omega) (by omega)), decide_eq_true (by omega)]
        rfl
    have n10 : ¬ (1 : Int32) = 0 := by decide
    by_cases k0 : kw = 0
    · rw [if_pos k0, if_neg n10, if_pos (Or.inl k0)]
      exact tl
    · rw [if_neg k0]
      by_cases k1 : kw = 1
      · rw [if_pos k1, if_neg n10, if_pos (Or.inr (Or.inl k1))]
        exact tl
      · rw [if_neg k1]
        by_cases k2 : kw = 2
        · rw [if_pos k2, if_neg n10, if_pos (Or.inr (Or.inr k2))]
          exact tl
        · rw [if_neg k2, if_pos rfl, if_neg (show ¬ (kw = 0 ∨ kw = 1 ∨ kw = 2) from fun z => z.elim k0 (fun z => z.elim k1 k2))]
          rfl
theorem CS.f4 {h : Nat → Int32} {n a e : Nat} {δ : Dr} {M M' : Mm} (c : CS h n δ a M) (f : Fr [(1, 4)] M M') (p : M'.1 1 4 = nI e) (he : e ≤ n) : CS h n δ e M' := by
  obtain ⟨hT, hD, _, h0, hl, g, pl⟩ := c
  exact ⟨hT.f4 f, hD.fr f (by decide), p, ((f 1 5 rfl).1).trans h0, he, g, ((f 1 6 rfl).1).trans pl⟩
theorem rest_c {h : Nat → Int32} {n a : Nat} {δ : Dr} {M : Mm} {kw : Int32} (t : Tx h n) (c : CS h n δ a M) (hk : kw = 0 ∨ kw = 1 ∨ kw = 2 ∨ kw = 3 ∨ kw = 4 ∨ kw = 5 ∨ kw = 6 ∨ kw = 7) (hd : drB kw = true → 1 ≤ dL δ) (ht : tmB kw δ = false) : ∃ M', f_X8_readRest_1 kw M = some M' ∧ RsC h n (rsP h kw δ a) M M' := by
  have g := c.2.2.2.2.2.1
  have t10 : kw = 0 ∨ kw = 1 ∨ kw = 2 → dL δ < 10 := by
    intro z
    have n6 : ¬ kw = 6 := by rcases z with rfl | rfl | rfl <;> decide
    unfold tmB at ht
    rw [if_neg n6, if_pos z] at ht
    have := of_decide_eq_false ht
    omega
  have fin : ∀ o : Option Mm, (∃ M', o = some M' ∧ RsC h n (rsP h kw δ a) M M') → ∃ M', (bd o fun M_2 => some M_2) = some M' ∧ RsC h n (rsP h kw δ a) M M' := by
    rintro o ⟨M', e, r⟩
    rw [e, bd_some]
    exact ⟨M', rfl, r⟩
  unfold f_X8_readRest_1 bb_X8_readRest_1_0
  rcases hk with rfl | rfl | rfl | rfl | rfl | rfl | rfl | rfl
  · rw [if_pos rfl]
    have h10 := t10 (Or.inl rfl)
    obtain ⟨hT, hD, p, h0, hl, _, pl⟩ := c
    obtain ⟨a1, a2⟩ := add_c (x := 0) hD h10
    have fw : Fr LRD M (wI (wJ M 4 (dL δ) 0) 3 7 (nI (dL δ + 1))) := Fr.tr (Fr.wJa rfl) (Fr.wrI rfl)
    exact fin _ ⟨_, a1, fw, Or.inr ⟨addL δ 0, a, rfl, hT.LRD fw, a2, p, h0, hl, g.addL h10, pl⟩⟩
  · rw [if_neg (by decide), if_pos rfl]
    exact fin _ (copy_c (x := 1) t c (t10 (Or.inr (Or.inl rfl))))
  · rw [if_neg (by decide), if_neg (by decide), if_pos rfl]
    exact fin _ (copy_c (x := 2) t c (t10 (Or.inr (Or.inr rfl))))
  · rw [if_neg (by decide), if_neg (by decide), if_neg (by decide), if_pos rfl]
    exact fin _ (draw_c (kw := 3) t c (hd rfl))
  · rw [if_neg (by decide), if_neg (by decide), if_neg (by decide), if_neg (by decide), if_pos rfl]
    exact fin _ (draw_c (kw := 4) t c (hd rfl))
  · rw [if_neg (by decide), if_neg (by decide), if_neg (by decide), if_neg (by decide), if_neg (by decide), if_pos rfl]
    exact fin _ (draw_c (kw := 5) t c (hd rfl))
  · rw [if_neg (by decide), if_neg (by decide), if_neg (by decide), if_neg (by decide), if_neg (by decide), if_neg (by decide), if_pos rfl]
    exact fin _ (word_c t c (by
      have := of_decide_eq_false ht
      omega))
  · rw [if_neg (by decide), if_neg (by decide), if_neg (by decide), if_neg (by decide), if_neg (by decide), if_neg (by decide), if_neg (by decide), if_pos rfl]
    exact fin _ (spread_c t c)
theorem clause_c {h : Nat → Int32} {n a c : Nat} {δ : Dr} {M : Mm} (t : Tx h n) (cs : CS h n δ a M) (hc : c ≤ 100) : ∃ M', f_X8_readClause_1 (nI c) M = some M' ∧ RsC h n (clP h δ c a) M M' := by
  have h5 := t.1
  obtain ⟨M1, e1, f1, p1⟩ := kw_c t cs.1 cs.2.2.1 cs.2.2.2.2.1
  have el := aE_le t cs.2.2.2.2.1
  have cs1 := cs.f4 f1 p1 el
  have s1 : Fr LRD M M1 := Fr.sub f1 (by decide)
  have g := cs.2.2.2.2.2.1
  have hn : dL δ ≤ 10 := g.1
  have d1 : M1.1 3 7 = nI (dL δ) := cs1.2.1.of.1
  unfold f_X8_readClause_1 bb_X8_readClause_1_0
  rw [ltv_eq, e1, bd2_some, cs.2.2.1]
  have kin := kwV_in h a (aE h a)
  unfold clP
  generalize kwV h a (aE h a) = kw at *
  have bad : ∀ (k : Nat) (o : Oc (Dr × Nat)), 1 ≤ k → k ≤ 3 → o = .inl (k, a) → ∃ M', (bd (f_X8_fail_1 (nI k) (nI a) M1) fun M_6 => some M_6) = some M' ∧ RsC h n o M M' := by
    intro k o k1 k3 ho
    rw [fail_c cs1.2.2.2.1, bd_some]
    exact ⟨_, rfl, Fr.tr s1 (Fr.tr (Fr.wrI rfl) (Fr.wrI rfl)), Or.inl ⟨k, a, ho, rfl, wI_at, k1, k3, _, el, p1⟩⟩
  have e61 : ¬ (kw = -1 ∨ (drB kw = true ∧ dL δ = 0)) → ∃ M', bb_X8_readClause_1_61 (nI c) (nI a) kw M1 = some M' ∧ RsC h n (if kw = -1 ∨ (drB kw = true ∧ dL δ = 0) then .inl (1, a) else if 60 ≤ c ∨ tmB kw δ = true then .inl (3, a) else obd (rsP h kw δ (aE h a)) fun q => obd (smP h q.2) fun e => .inr (q.1, e)) M M' := by
    intro nb
    rw [if_neg nb]
    unfold bb_X8_readClause_1_61
    by_cases c60 : 60 ≤ c
    · rw [if_pos (show (60 : Int32) ≤ nI c from nI_le (a := 60) c60 (by omega)), if_pos (Or.inl c60)]
      exact bad 3 _ (by decide) (by decide) rfl
    rw [if_neg (show ¬ (60 : Int32) ≤ nI c from nI_ge (b := 60) (by omega) (by decide)), tm_c kw cs1.2.1 g, bd_some]
    cases ht : tmB kw δ with
    | true =>
      rw [if_neg (by decide), if_pos (Or.inr rfl)]
      exact bad 3 _ (by decide) (by decide) rfl
    | false =>
      rw [if_pos (by decide), if_neg (by rintro (z | z); exact c60 z; cases z)]
      obtain ⟨M2, e2, s2, r2⟩ := rest_c (kw := kw) t cs1 (kin.resolve_left (fun z => nb (Or.inl z))) (fun z => by
        apply Classical.byContradiction
        intro y
        exact nb (Or.inr ⟨z, by omega⟩)) ht
      rw [e2, bd_some]
      rcases r2 with ⟨k, p, ho, fs⟩ | ⟨δ', a', ho, cs2⟩
      · have : f_X8_readSemicolon_1 M2 = some M2 := by
          unfold f_X8_readSemicolon_1 bb_X8_readSemicolon_1_0
          rw [if_neg fs.ne]
        rw [this, bd_some, ho, obd_l]
        exact ⟨M2, rfl, Fr.tr s1 s2, Or.inl ⟨k, p, rfl, fs⟩⟩
      · obtain ⟨M3, e3, s3, r3⟩ := semi_c t cs2
        rw [e3, bd_some, ho, obd_r]
        rcases r3 with ⟨k, p, hq, fs⟩ | ⟨e, hq, cs3⟩
        · exact ⟨M3, rfl, Fr.tr s1 (Fr.tr s2 s3), Or.inl ⟨k, p, by show obd (smP h a') _ = _; rw [hq, obd_l], fs⟩⟩
        · exact ⟨M3, rfl, Fr.tr s1 (Fr.tr s2 s3), Or.inr ⟨δ', e, by show obd (smP h a') _ = _; rw [hq, obd_r], cs3⟩⟩
  have e30 : ∀ s0 : Int32, (s0 = 1 ∧ drB kw = true) ∨ (s0 = 0 ∧ drB kw = false) → ∃ M', bb_X8_readClause_1_30 (nI c) (nI a) kw s0 M1 = some M' ∧ RsC h n (if kw = -1 ∨ (drB kw = true ∧ dL δ = 0) then .inl (1, a) else if 60 ≤ c ∨ tmB kw δ = true then .inl (3, a) else obd (rsP h kw δ (aE h a)) fun q => obd (smP h q.2) fun e => .inr (q.1, e)) M M' := by
    intro s0 hs
    unfold bb_X8_readClause_1_30
    by_cases km : kw = -1
    · rw [if_pos km]
      exact bad 1 _ (by decide) (by decide) (if_pos (Or.inl km))
    rw [if_neg km]
    rcases hs with ⟨rfl, hb⟩ | ⟨rfl, hb⟩
    · rw [if_neg (by decide), d1]
      by_cases z : dL δ = 0
      · rw [if_pos (by rw [z]; rfl)]
        exact bad 1 _ (by decide) (by decide) (if_pos (Or.inr ⟨hb, z⟩))
      · rw [if_neg (show ¬ nI (dL δ) = (0 : Int32) from fun y => z ((nI_eq (b := 0) (by omega) (by decide)).mp y))]
        exact e61 (by rintro (y | y); exact km y; exact z y.2)
    · rw [if_pos rfl]
      exact e61 (by
        rintro (y | y)
        · exact km y
        · rw [hb] at y
          cases y.1)
  unfold bb_X8_readClause_1_25
  by_cases k3 : kw = 3
  · rw [if_pos k3]
    exact e30 1 (Or.inl ⟨rfl, by rw [k3]; rfl⟩)
  rw [if_neg k3]
  by_cases k4 : kw = 4
  · rw [if_pos k4]
    exact e30 1 (Or.inl ⟨rfl, by rw [k4]; rfl⟩)
  rw [if_neg k4]
  by_cases k5 : kw = 5
  · rw [if_pos k5]
    exact e30 1 (Or.inl ⟨rfl, by rw [k5]; rfl⟩)
  rw [if_neg k5]
  exact e30 0 (Or.inr ⟨rfl, by unfold drB; rw [decide_eq_false k3, decide_eq_false k4, decide_eq_false k5]; rfl⟩)
def ldP (h : Nat → Int32) (n : Nat) : Nat → Nat → Dr → Nat → Oc Dr
  | 0, _, _, _ => .inl (3, 0)
  | f + 1, c, δ, a => if n ≤ a then .inr δ else obd (clP h δ c a) fun q => ldP h n f (c + 1) q.1 (sk h q.2)
theorem clP_60 {h : Nat → Int32} {δ : Dr} {a : Nat} : ∃ k, clP h δ 60 a = .inl (k, a) := by
  unfold clP
  by_cases c : kwV h a (aE h a) = -1 ∨ (drB (kwV h a (aE h a)) = true ∧ dL δ = 0)
  · rw [if_pos c]
    exact ⟨1, rfl⟩
  · rw [if_neg c, if_pos (Or.inl (by decide))]
    exact ⟨3, rfl⟩
theorem load_c {h : Nat → Int32} {n : Nat} (t : Tx h n) : ∀ (f c fu : Nat) (δ : Dr) (a : Nat) (M : Mm), c + f = 62 → f + 1 < fu → c ≤ 60 → CS h n δ a M → ∃ M' v, b_X8_readFirst_1_44 fu (nI c) M = some (v, M') ∧ Fr LRD M M' ∧ ((∃ k p, ldP h n f c δ a = .inl (k, p) ∧ v = nI k ∧ FS n k p M') ∨ ∃ δ', ldP h n f c δ a = .inr δ' ∧ v = 0 ∧ DC δ' M' ∧ GD δ' ∧ M'.1 1 6 = -1) := by
  have h5 := t.1
  intro f
  induction f with
  | zero =>
    intro c fu δ a M h1 _ h3
    omega
  | succ f ih =>
    intro c fu δ a M h1 h2 h3 cs
    obtain ⟨fu, rfl⟩ : ∃ z, fu = z + 1 := ⟨fu - 1, by omega⟩
    obtain ⟨hT, hD, p, h0, hl, g, pl⟩ := id cs
    show ∃ M' v, bb_X8_readFirst_1_44 (b_X8_readFirst_1_44 fu) (nI c) M = some (v, M') ∧ Fr LRD M M' ∧ ((∃ k p, (if n ≤ a then .inr δ else obd (clP h δ c a) fun q => ldP h n f (c + 1) q.1 (sk h q.2)) = .inl (k, p) ∧ v = nI k ∧ FS n k p M') ∨ ∃ δ', (if n ≤ a then .inr δ else obd (clP h δ c a) fun q => ldP h n f (c + 1) q.1 (sk h q.2)) = .inr δ' ∧ v = 0 ∧ DC δ' M' ∧ GD δ' ∧ M'.1 1 6 = -1)
    unfold bb_X8_readFirst_1_44
    rw [if_neg (show ¬ (500 : Int32) ≤ nI c from nI_ge (b := 500) (by omega) (by decide)), hT.1, p]
    by_cases ce : n ≤ a
    · rw [if_pos (nI_le ce (by omega)), if_pos ce, h0]
      exact ⟨M, 0, rfl, Fr.refl, Or.inr ⟨δ, rfl, rfl, hD, g, pl⟩⟩
    rw [if_neg (nI_ge (by omega) (by omega)), if_neg ce, if_pos h0]
    obtain ⟨M1, e1, f1, r1⟩ := clause_c (c := c) t cs (by omega)
    rw [e1, bd_some]
    rcases r1 with ⟨k, q, ho, fs⟩ | ⟨δ', a', ho, cs1⟩
    · obtain ⟨fs1, fs2, fs3, fs4, a1, al, pa⟩ := id fs
      obtain ⟨M2, e2, f2, p2⟩ := skip_c t (hT.LRD f1) pa al
      have z5 : M2.1 1 5 = nI k := ((f2 1 5 rfl).1).trans fs1
      have fs' : FS n k q M2 := ⟨z5, ((f2 1 6 rfl).1).trans fs2, fs3, fs4, _, sk_le t al, p2⟩
      obtain ⟨fu, rfl⟩ : ∃ z, fu = z + 1 := ⟨fu - 1, by omega⟩
      have st : b_X8_readFirst_1_44 (fu + 1) (nI (c + 1)) M2 = some (M2.1 1 5, M2) := by
        show bb_X8_readFirst_1_44 (b_X8_readFirst_1_44 fu) (nI (c + 1)) M2 = _
        unfold bb_X8_readFirst_1_44
        rw [if_neg (show ¬ (500 : Int32) ≤ nI (c + 1) from nI_ge (b := 500) (by omega) (by decide)), if_neg fs'.ne]
        by_cases y : M2.1 1 3 ≤ M2.1 1 4
        · rw [if_pos y]
        · rw [if_neg y]
      rw [e2, bd_some, ltv_eq, nI_1, st, ho, obd_l]
      exact ⟨M2, _, rfl, Fr.tr f1 (Fr.sub f2 (by decide)), Or.inl ⟨k, q, rfl, z5, fs'⟩⟩
    · obtain ⟨M2, e2, f2, p2⟩ := skip_c t cs1.1 cs1.2.2.1 cs1.2.2.2.2.1
      have c60 : c < 60 := by
        apply Classical.byContradiction
        intro z
        have : c = 60 := by omega
        subst this
        obtain ⟨k, hk⟩ := clP_60 (h := h) (δ := δ) (a := a)
        rw [hk] at ho
        cases ho
      obtain ⟨M3, v, e3, f3, r3⟩ := ih (c + 1) fu δ' (sk h a') M2 (by omega) (by omega) (by omega) (cs1.f4 f2 p2 (sk_le t cs1.2.2.2.2.1))
      rw [e2, bd_some, ltv_eq, nI_1, e3, ho, obd_r]
      exact ⟨M3, v, rfl, Fr.tr f1 (Fr.tr (Fr.sub f2 (by decide)) f3), r3⟩
