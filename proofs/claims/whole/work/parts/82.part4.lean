-- ===== partings: the model's tree =====
def LPT : List (Nat × Nat) := [(67, 43), (67, 44), (67, 45), (107, 999)]
def PtM (K : Nat → Nat → Bool) (n : Nat) (N : Mm) : Prop := N.1 67 26 = nI n ∧ ∀ a, a < n → ∀ b, b < n → N.1 (112 + a) b = if K a b then 1 else 0
theorem PtM.fr {K : Nat → Nat → Bool} {n : Nat} {N a : Mm} (h : PtM K n N) (hf : Fr LPT N a) : PtM K n a := by
  refine ⟨(hf 67 26 rfl).1.trans h.1, fun x hx y hy => ?_⟩
  rw [(hf (112 + x) y ?_).1]
  · exact h.2 x hx y hy
  · unfold inW LPT
    simp
    omega
def PtI (u : Nat → Nat) (k : Nat) (s : Nat × Int32 × Nat) (N a : Mm) : Prop := Fr LPT N a ∧ (∀ o, o < k → a.1 107 o = nI (u o)) ∧ a.1 67 43 = nI s.1 ∧ a.1 67 44 = s.2.1 ∧ a.1 67 45 = nI s.2.2
theorem andn_id (A x : Nat) : andn (andn A x) x = andn A x := by
  apply Nat.eq_of_testBit_eq
  intro i
  rw [andn_bit, andn_bit]
  cases A.testBit i <;> cases x.testBit i <;> rfl
theorem andn_z (A : Nat) : andn A 0 = A := by
  apply Nat.eq_of_testBit_eq
  intro i
  rw [andn_bit, Nat.zero_testBit]
  cases A.testBit i <;> rfl
theorem andn_or (A x y : Nat) : andn A (x ||| y) = andn (andn A x) y := by
  apply Nat.eq_of_testBit_eq
  intro i
  rw [andn_bit, andn_bit, andn_bit, Nat.testBit_or]
  cases A.testBit i <;> cases x.testBit i <;> cases y.testBit i <;> rfl
theorem alone_in {K : Nat → Nat → Bool} {n p A : Nat} {u : Nat → Nat} {N a : Mm} (rc : Int32 → Int32 → Mm → Option Mm) (k48 : Int32 → Mm → Option Mm) (hN : PtM K n N) (hn : n ≤ 8) (hp : p < n) (hu : ∀ o, o < n → u o < 2 ^ 31) (hf : Fr LPT N a) (h107 : ∀ o, o < n → a.1 107 o = nI (u o)) (h45 : a.1 67 45 = nI A) : b_X10_parts_67_59 rc k48 FU (nI p) 0 a = k48 (nI (p + 1)) (wI a 67 45 (nI (if anB (fun b => !decide (p = b) && decide (u p = u b)) n then andn A (2 ^ p) else A))) := by
  have base : wI a 67 45 (nI A) = a := wI_self h45
  refine for_q (fun q i (_ : Unit) => b_X10_parts_67_59 rc k48 q (nI p) (nI i) (wI a 67 45 (nI (if anB (fun b => !decide (p = b) && decide (u p = u b)) i then andn A (2 ^ p) else A)))) n (fun _ _ => True) (fun o => o = k48 (nI (p + 1)) (wI a 67 45 (nI (if anB (fun b => !decide (p = b) && decide (u p = u b)) n then andn A (2 ^ p) else A)))) ?_ ?_ n 0 () FU (Nat.zero_add _) (by show _ < 200000; omega) trivial |> fun h => by
    have h' : b_X10_parts_67_59 rc k48 FU (nI p) (nI 0) (wI a 67 45 (nI A)) = _ := h
    rw [base] at h'
    exact h'
  · intro q i _ hi _
    right
    refine ⟨(), ?_, trivial⟩
    have b26 : ∀ v, (wI a 67 45 v).1 67 26 = nI n := fun v => (hN.fr hf).1
    show bb_X10_parts_67_59 _ _ _ _ _ _ = b_X10_parts_67_59 rc k48 q (nI p) (nI (i + 1)) (wI a 67 45 (nI (if (anB (fun b => !decide (p = b) && decide (u p = u b)) i || (!decide (p = i) && decide (u p = u i))) then andn A (2 ^ p) else A)))
    unfold bb_X10_parts_67_59
    rw [b26, if_neg (nI_ge hi (by omega))]
    by_cases e : p = i
    · rw [if_pos (by rw [e]), ltv_eq, nI_1, decide_eq_true e]
      simp
    · have g1 : ∀ v, (wI a 67 45 v).1 107 p = nI (u p) := fun v => h107 p hp
      have g2 : ∀ v, (wI a 67 45 v).1 107 i = nI (u i) := fun v => h107 i hi
      rw [if_neg (fun z => e ((nI_eq (by omega) (by omega)).mp z)), gd_of (inb_nI (by omega) (by decide)), gd_of (inb_nI (by omega) (by decide)), ix_nI (show p < 2 ^ 31 by omega), ix_nI (show i < 2 ^ 31 by omega), g1, g2, decide_eq_false e]
      by_cases e2 : u p = u i
      · rw [if_pos (by rw [e2]), ltv_eq, ltv_eq, nI_1, wI_at, shI_c p (by omega), nI_andn, wI_wI, decide_eq_true e2]
        cases anB (fun b => !decide (p = b) && decide (u p = u b)) i with
        | false => rfl
        | true =>
          show b_X10_parts_67_59 rc k48 q (nI p) (nI (i + 1)) (wI a 67 45 (nI (andn (andn A (2 ^ p)) (2 ^ p)))) = _
          rw [andn_id]
          rfl
      · rw [if_neg (fun z => e2 ((nI_eq (hu p hp) (hu i hi)).mp z)), ltv_eq, nI_1, decide_eq_false e2]
        simp
  · intro q _ _
    have b26 : ∀ v, (wI a 67 45 v).1 67 26 = nI n := fun v => (hN.fr hf).1
    show bb_X10_parts_67_59 _ _ _ _ _ _ = _
    unfold bb_X10_parts_67_59
    rw [b26, if_pos (nI_le (Nat.le_refl _) (by omega)), ltv_eq, nI_1]
theorem alone_ok {K : Nat → Nat → Bool} {n A : Nat} {u : Nat → Nat} {N a : Mm} (rc : Int32 → Int32 → Mm → Option Mm) (hN : PtM K n N) (hn : n ≤ 8) (hu : ∀ o, o < n → u o < 2 ^ 31) (hf : Fr LPT N a) (h107 : ∀ o, o < n → a.1 107 o = nI (u o)) (h45 : a.1 67 45 = nI A) : b_X10_parts_67_48 rc FU 0 a = some (wI a 67 45 (nI (andn A (shB n u)))) := by
  have base : wI a 67 45 (nI (andn A 0)) = a := by
    rw [andn_z]
    exact wI_self h45
  refine for_q (fun q i (_ : Unit) => b_X10_parts_67_48 rc q (nI i) (wI a 67 45 (nI (andn A (mkB (fun a => anB (fun b => !decide (a = b) && decide (u a = u b)) n) i))))) n (fun _ _ => True) (fun o => o = some (wI a 67 45 (nI (andn A (shB n u))))) ?_ ?_ n 0 () FU (Nat.zero_add _) (by show _ < 200000; omega) trivial |> fun h => by
    have h' : b_X10_parts_67_48 rc FU (nI 0) (wI a 67 45 (nI (andn A 0))) = _ := h
    rw [base] at h'
    exact h'
  · intro q i _ hi _
    right
    refine ⟨(), ?_, trivial⟩
    have hf' : ∀ v, Fr LPT N (wI a 67 45 v) := fun v => Fr.tr hf (Fr.wrI rfl)
    have b26 : ∀ v, (wI a 67 45 v).1 67 26 = nI n := fun v => (hN.fr hf).1
    show bb_X10_parts_67_48 _ _ _ _ = b_X10_parts_67_48 rc q (nI (i + 1)) (wI a 67 45 (nI (andn A (if anB (fun b => !decide (i = b) && decide (u i = u b)) n then mkB (fun a => anB (fun b => !decide (a = b) && decide (u a = u b)) n) i ||| 2 ^ i else mkB (fun a => anB (fun b => !decide (a = b) && decide (u a = u b)) n) i))))
    unfold bb_X10_parts_67_48
    rw [b26, if_neg (nI_ge hi (by omega)), alone_in rc (b_X10_parts_67_48 rc q) hN hn hi hu (hf' _) h107 wI_at, wI_wI]
    cases anB (fun b => !decide (i = b) && decide (u i = u b)) n with
    | false => rfl
    | true =>
      rw [if_pos rfl, if_pos rfl, andn_or]
  · intro q _ _
    have b26 : ∀ v, (wI a 67 45 v).1 67 26 = nI n := fun v => (hN.fr hf).1
    show bb_X10_parts_67_48 _ _ _ _ = _
    unfold bb_X10_parts_67_48
    rw [b26, if_pos (nI_le (Nat.le_refl _) (by omega))]
    rfl
theorem okk_in {K : Nat → Nat → Bool} {n k j i : Nat} {u : Nat → Nat} {N a : Mm} (rc : Int32 → Int32 → Mm → Option Mm) (k119 : Int32 → Int32 → Int32 → Mm → Option Mm) (hN : PtM K n N) (hn : n ≤ 8) (hk : k < n) (hi : i < 2 ^ 31) (hu : ∀ o, o < k → u o < 2 ^ 31) (hf : Fr LPT N a) (h107 : ∀ o, o < k → a.1 107 o = nI (u o)) : b_X10_parts_67_130 rc k119 FU (nI k) (nI j) (nI i) 1 0 a = bb_X10_parts_67_177 rc k119 (nI k) (nI j) (nI i) (if okk K u k i then 1 else 0) a := by
  have hkin := (hN.fr hf).2
  have mono : ∀ o, o ≤ k → allB (fun o => !decide (u o = i) || K k o) o = false → okk K u k i = false := by
    intro o ho h
    apply Bool.eq_false_iff.mpr
    intro q
    unfold okk at q
    have := allB_iff.mpr (fun x hx => allB_iff.mp q x (Nat.lt_of_lt_of_le hx ho))
    rw [h] at this
    cases this
  refine (fun (key : (fun z => z = bb_X10_parts_67_177 rc k119 (nI k) (nI j) (nI i) (if okk K u k i then 1 else 0) a) (b_X10_parts_67_130 rc k119 FU (nI k) (nI j) (nI i) (if allB (fun o => !decide (u o = i) || K k o) 0 then 1 else 0) (nI 0) a)) => ?_) ?_
  · have e0 : (if allB (fun o => !decide (u o = i) || K k o) 0 then (1 : Int32) else 0) = 1 := rfl
    rw [e0] at key
    exact key
  refine for_q (fun q o (_ : Unit) => b_X10_parts_67_130 rc k119 q (nI k) (nI j) (nI i) (if allB (fun o => !decide (u o = i) || K k o) o then 1 else 0) (nI o) a) k (fun _ _ => True) (fun o => o = bb_X10_parts_67_177 rc k119 (nI k) (nI j) (nI i) (if okk K u k i then 1 else 0) a) ?_ ?_ k 0 () FU (Nat.zero_add _) (by show _ < 200000; omega) trivial
  · intro q o _ ho _
    show bb_X10_parts_67_130 _ _ _ _ _ _ _ _ _ = _ ∨ ∃ a', bb_X10_parts_67_130 _ _ _ _ _ _ _ _ _ = b_X10_parts_67_130 rc k119 q (nI k) (nI j) (nI i) (if (allB (fun o => !decide (u o = i) || K k o) o && (!decide (u o = i) || K k o)) then 1 else 0) (nI (o + 1)) a ∧ _
    unfold bb_X10_parts_67_130
    rw [if_neg (nI_ge ho (by omega))]
    cases hA : allB (fun o => !decide (u o = i) || K k o) o with
    | false =>
      left
      rw [mono o (by omega) hA, if_pos (show (if false = true then (1 : Int32) else 0) = 0 from rfl)]
    | true =>
      right
      refine ⟨(), ?_, trivial⟩
      rw [if_pos rfl, if_neg (by decide), gd_of (inb_nI (by omega) (by decide)), ix_nI (show o < 2 ^ 31 by omega), h107 o ho]
      by_cases e : u o = i
      · rw [if_pos (by rw [e]), gd_of (inb_nI (by omega) (by decide)), gd_of (inb_nI (by omega) (by decide)), ix_nI (show k < 2 ^ 31 by omega), hkin k hk o (by omega), decide_eq_true e]
        cases K k o with
        | false =>
          have e1 : (if (true && (!true || false)) = true then (1 : Int32) else 0) = 0 := rfl
          rw [if_pos (by decide), ltv_eq, nI_1, e1]
        | true =>
          have e1 : (if (true && (!true || true)) = true then (1 : Int32) else 0) = 1 := rfl
          rw [if_pos rfl, if_neg (by decide), ltv_eq, nI_1, e1]
      · have e1 : (if (true && (!false || K k o)) = true then (1 : Int32) else 0) = 1 := rfl
        rw [if_neg (fun z => e ((nI_eq (hu o ho) hi).mp z)), ltv_eq, nI_1, decide_eq_false e, e1]
  · intro q _ _
    show bb_X10_parts_67_130 _ _ _ _ _ _ _ _ _ = _
    unfold bb_X10_parts_67_130
    have e1 : allB (fun o => !decide (u o = i) || K k o) k = okk K u k i := rfl
    rw [if_pos (nI_le (Nat.le_refl _) (by omega)), e1]
theorem parts_ok {K : Nat → Nat → Bool} {n : Nat} {N : Mm} (hN : PtM K n N) (hn : n ≤ 8) : ∀ (d k : Nat) (u : Nat → Nat) (j : Nat) (s : Nat × Int32 × Nat) (a : Mm) (D : Nat), k + d = n → d < D → (∀ o, o < k → u o < j) → j ≤ k → PtI u k s N a → ∃ a', fr_X10_parts_67 D (nI k) (nI j) a = some a' ∧ PtI u k (lfs n s (lvs K d k u j)) N a' := by
  intro d
  induction d with
  | zero =>
    intro k u j s a D hk hD hu hj hI
    obtain ⟨D, rfl⟩ : ∃ m, D = m + 1 := ⟨D - 1, by omega⟩
    obtain rfl : k = n := by omega
    obtain ⟨i1, i2, i3, i4, i5⟩ := hI
    have b26 : a.1 67 26 = nI k := (hN.fr i1).1
    have hu' : ∀ o, o < k → u o < 2 ^ 31 := fun o ho => by have := hu o ho; omega
    let v : Int32 := if s.2.1 = -1 then nI j else if s.2.1 ≤ nI j then s.2.1 else nI j
    have fin : ∃ a', b_X10_parts_67_48 (fr_X10_parts_67 D) FU 0 (wI (wI a 67 43 (nI (s.1 + 1))) 67 44 v) = some a' ∧ PtI u k (lfs k s (lvs K 0 k u j)) N a' := by
      have hf : Fr LPT N (wI (wI a 67 43 (nI (s.1 + 1))) 67 44 v) := Fr.tr i1 (Fr.tr (Fr.wrI rfl) (Fr.wrI rfl))
      refine ⟨_, alone_ok (u := u) (fr_X10_parts_67 D) hN hn hu' hf i2 i5, Fr.tr hf (Fr.wrI rfl), i2, rfl, rfl, wI_at⟩
    show ∃ a', bb_X10_parts_67_0 (fr_X10_parts_67 D) (nI k) (nI j) a = some a' ∧ _
    unfold bb_X10_parts_67_0
    rw [b26, if_pos rfl, ltv_eq, i3, nI_1, show (wI a 67 43 (nI (s.1 + 1))).1 67 44 = s.2.1 from i4]
    by_cases c1 : s.2.1 = -1
    · have ev : v = nI j := if_pos c1
      rw [ev] at fin
      rw [if_pos c1, ltv_eq]
      exact fin
    · by_cases c2 : s.2.1 ≤ nI j
      · have ev : v = s.2.1 := by
          show (if s.2.1 = -1 then nI j else if s.2.1 ≤ nI j then s.2.1 else nI j) = _
          rw [if_neg c1, if_pos c2]
        rw [ev] at fin
        rw [if_neg c1, if_pos c2, ltv_eq]
        exact fin
      · have ev : v = nI j := by
          show (if s.2.1 = -1 then nI j else if s.2.1 ≤ nI j then s.2.1 else nI j) = _
          rw [if_neg c1, if_neg c2]
        rw [ev] at fin
        rw [if_neg c1, if_neg c2, ltv_eq]
        exact fin
  | succ d ih =>
    intro k u j s a D hk hD hu hj hI
    obtain ⟨D, rfl⟩ : ∃ m, D = m + 1 := ⟨D - 1, by omega⟩
    have b26 : a.1 67 26 = nI n := (hN.fr hI.1).1
    have hu' : ∀ o, o < k → u o < 2 ^ 31 := fun o ho => by have := hu o ho; omega
    show ∃ a', bb_X10_parts_67_0 (fr_X10_parts_67 D) (nI k) (nI j) a = some a' ∧ _
    unfold bb_X10_parts_67_0
    rw [b26, if_neg (fun z => by have := (nI_eq (show k < 2 ^ 31 by omega) (show n < 2 ^ 31 by omega)).mp z; omega)]
    refine for_q (fun q i (b : Mm) => b_X10_parts_67_119 (fr_X10_parts_67 D) q (nI k) (nI j) (nI i) b) (j + 1) (fun i b => PtI u k (lfs n s (ctN (fun i => if okk K u k i then lvs K d (k + 1) (updN u k i) (if i = j then j + 1 else j) else []) i)) N b) (fun o => ∃ a', o = some a' ∧ PtI u k (lfs n s (lvs K (d + 1) k u j)) N a') ?_ ?_ (j + 1) 0 a FU (by omega) (by show _ < 200000; omega) hI
    · intro q i b hi hb
      right
      show ∃ a', bb_X10_parts_67_119 _ _ _ _ _ _ = _ ∧ PtI u k (lfs n s (ctN (fun i => if okk K u k i then lvs K d (k + 1) (updN u k i) (if i = j then j + 1 else j) else []) i ++ (if okk K u k i then lvs K d (k + 1) (updN u k i) (if i = j then j + 1 else j) else []))) N a'
      rw [lfs_app]
      unfold bb_X10_parts_67_119
      rw [if_neg (nI_nlt (by omega) (by omega)), okk_in (u := u) _ _ hN hn (by omega) (by omega) hu' hb.1 hb.2.1]
      generalize lfs n s (ctN (fun i => if okk K u k i then lvs K d (k + 1) (updN u k i) (if i = j then j + 1 else j) else []) i) = s1 at hb ⊢
      unfold bb_X10_parts_67_177
      cases ho : okk K u k i with
      | false =>
        refine ⟨b, ?_, hb⟩
        rw [if_pos (by decide), ltv_eq, nI_1]
      | true =>
        have hb2 : PtI (updN u k i) (k + 1) s1 N (wI b 107 k (nI i)) := by
          obtain ⟨i1, i2, i3, i4, i5⟩ := hb
          refine ⟨Fr.tr i1 (Fr.wIa rfl), fun o ho => ?_, i3, i4, i5⟩
          unfold updN
          by_cases e : o = k
          · subst e
            rw [if_pos rfl]
            exact wI_at
          · rw [if_neg e]
            have e1 : ∀ v, (wI b 107 k v).1 107 o = b.1 107 o := fun v => if_neg (fun z => e z.2)
            rw [e1]
            exact i2 o (by omega)
        have down : ∀ L a', PtI (updN u k i) (k + 1) (lfs n s1 L) N a' → PtI u k (lfs n s1 L) N a' := by
          rintro L a' ⟨i1, i2, i3, i4, i5⟩
          refine ⟨i1, fun o ho => ?_, i3, i4, i5⟩
          rw [i2 o (by omega)]
          unfold updN
          rw [if_neg (by omega)]
        rw [if_pos rfl, if_neg (by decide), gd_of (inb_nI (by omega) (by decide)), ltv_eq, ix_nI (by omega), nI_1, nI_1]
        by_cases e : i = j
        · obtain ⟨a', e1, h1⟩ := ih (k + 1) (updN u k i) (j + 1) s1 _ D (by omega) (by omega) (upd_lt (fun o ho => by have := hu o ho; omega) (by omega)) (by omega) hb2
          refine ⟨a', ?_, ?_⟩
          · rw [if_pos (by rw [e]), e1, bd_some, ltv_eq, nI_1]
          · rw [if_pos rfl, if_pos e]
            exact down _ _ h1
        · obtain ⟨a', e1, h1⟩ := ih (k + 1) (updN u k i) j s1 _ D (by omega) (by omega) (upd_lt hu (by omega)) (by omega) hb2
          refine ⟨a', ?_, ?_⟩
          · rw [if_neg (fun z => e ((nI_eq (by omega) (by omega)).mp z)), e1, bd_some, ltv_eq, nI_1]
          · rw [if_pos rfl, if_neg e]
            exact down _ _ h1
    · intro q b hb
      show ∃ a', bb_X10_parts_67_119 _ _ _ _ _ _ = _ ∧ _
      unfold bb_X10_parts_67_119
      rw [if_pos (nI_lt (by omega) (by omega))]
      exact ⟨b, rfl, hb⟩
def LKM : List (Nat × Nat) := [(112, 999), (113, 999), (114, 999), (115, 999), (116, 999), (117, 999), (118, 999), (119, 999)]
theorem inW_km : ∀ a, a < 8 → (LKM.any fun q => q.1 == 112 + a && q.2 == 999) = true := by decide
theorem knar (q : Bool) : vp_nar .boolean (if q then 1 else 0) = if q then 1 else 0 := by cases q <;> rfl
theorem kinM_in {σ : Sg} {β : Bn} {w a : Nat} {m y : Int32} {N b : Mm} (k42 : Int32 → Int32 → Int32 → Int32 → Mm → Option (Int32 × Mm)) (gB : GoodB σ β) (hM : BM β N) (hw : w ≤ 64) (ha : a < bN β) (hf : Fr LKM N b) (hK : ∀ p, p < a → ∀ q, q < bN β → b.1 (112 + p) q = if kiB β w (decide (m ≠ 0)) p q then 1 else 0) : ∃ b', b_X10_partings_67_54 k42 FU (nI w) m y (nI a) 0 b = k42 (nI w) m y (nI (a + 1)) b' ∧ Fr LKM N b' ∧ ∀ p, p < a + 1 → ∀ q, q < bN β → b'.1 (112 + p) q = if kiB β w (decide (m ≠ 0)) p q then 1 else 0 := by
  have hn : bN β ≤ 8 := gB.2.2.2.2.1
  refine for_q (fun q i (b : Mm) => b_X10_partings_67_54 k42 q (nI w) m y (nI a) (nI i) b) (bN β) (fun i b => (Fr LKM N b ∧ ∀ p, p < a → ∀ q, q < bN β → b.1 (112 + p) q = if kiB β w (decide (m ≠ 0)) p q then 1 else 0) ∧ ∀ q, q < i → b.1 (112 + a) q = if kiB β w (decide (m ≠ 0)) a q then 1 else 0) (fun o => ∃ b', o = k42 (nI w) m y (nI (a + 1)) b' ∧ Fr LKM N b' ∧ ∀ p, p < a + 1 → ∀ q, q < bN β → b'.1 (112 + p) q = if kiB β w (decide (m ≠ 0)) p q then 1 else 0) ?_ ?_ (bN β) 0 b FU (Nat.zero_add _) (by show _ < 200000; omega) ⟨⟨hf, hK⟩, fun q hq => absurd hq (Nat.not_lt_zero _)⟩
  · rintro z i b hi ⟨⟨f1, h1⟩, h2⟩
    right
    have bm : BM0 β b := hM.fr f1 (by decide)
    refine ⟨wI b (112 + a) i (if kiB β w (decide (m ≠ 0)) a i then 1 else 0), ?_, ⟨Fr.tr f1 (Fr.wIa (inW_km a (by omega))), fun p hp q hq => ?_⟩, fun q hq => ?_⟩
    · show bb_X10_partings_67_54 _ _ _ _ _ _ _ _ = _
      unfold bb_X10_partings_67_54
      rw [bm.2.2.2.2.1, if_neg (nI_ge hi (by omega)), gd_of (inb_nI (by omega) (by decide)), kin_m m gB bm hw ha hi, bd_some, gd_of (inb_nI (by omega) (by decide)), ltv_eq, ltv_eq, nI_1, ix_nI (show a < 2 ^ 31 by omega), ix_nI (show i < 2 ^ 31 by omega), knar]
    · have e1 : ∀ v, (wI b (112 + a) i v).1 (112 + p) q = b.1 (112 + p) q := fun v => if_neg (fun z => by omega)
      rw [e1]
      exact h1 p hp q hq
    · by_cases e : q = i
      · subst e
        exact wI_at
      · have e1 : ∀ v, (wI b (112 + a) i v).1 (112 + a) q = b.1 (112 + a) q := fun v => if_neg (fun z => e z.2)
        rw [e1]
        exact h2 q (by omega)
  · rintro z b ⟨⟨f1, h1⟩, h2⟩
    have bm : BM0 β b := hM.fr f1 (by decide)
    show ∃ b', bb_X10_partings_67_54 _ _ _ _ _ _ _ _ = _ ∧ _
    unfold bb_X10_partings_67_54
    rw [bm.2.2.2.2.1, if_pos (nI_le (Nat.le_refl _) (by omega)), ltv_eq, nI_1]
    refine ⟨b, rfl, f1, fun p hp q hq => ?_⟩
    by_cases e : p = a
    · rw [e]
      exact h2 q hq
    · exact h1 p (by omega) q hq
theorem m2pow {n : Nat} (hn : n ≤ 8) : shI 1 (nI n) - 1 = nI (2 ^ n - 1) := by
  rw [shI_c n (by omega)]
  exact nI_sub (Nat.two_pow_pos n)
/-- who is alone in all -/
def alnB (K : Nat → Nat → Bool) (n p : Nat) : Bool := decide (mkB (K p) n = 2 ^ p)
theorem aln_iff {K : Nat → Nat → Bool} {n p : Nat} (hr : ∀ a, K a a = true) (hp : p < n) : alnB K n p = true ↔ ∀ b, b < n → b ≠ p → K p b = false := by
  unfold alnB
  rw [decide_eq_true_eq]
  constructor
  · intro h b hb hne
    have := congrArg (fun z => Nat.testBit z b) h
    simp only [mkB_bit, decide_eq_true hb, Bool.true_and, Nat.testBit_two_pow] at this
    have e : ¬ p = b := fun q => hne q.symm
    rw [this]
    exact decide_eq_false e
  · intro h
    apply Nat.eq_of_testBit_eq
    intro b
    rw [mkB_bit, Nat.testBit_two_pow]
    by_cases hb : b < n
    · by_cases e : p = b
      · subst e
        simp [hb, hr]
      · rw [h b hb (fun q => e q.symm)]
        simp [e]
    · have e : ¬ p = b := by omega
      simp [hb, e]
noncomputable def prtV (K : Nat → Nat → Bool) (n : Nat) (y : Int32) : Int32 := if y = 0 then nI (tot K (2 ^ n - 1)) else if y = 1 then nI (few K (2 ^ n - 1)) else nI (mkB (alnB K n) n)
theorem leaves_ok {K : Nat → Nat → Bool} {n : Nat} (hK : ∀ a b, K a b = K b a) (hr : ∀ a, K a a = true) (hn : n ≤ 8) : (lfs n (0, -1, 2 ^ n - 1) (lvs K n 0 (fun _ => 0) 0)).1 = tot K (2 ^ n - 1) ∧ (lfs n (0, -1, 2 ^ n - 1) (lvs K n 0 (fun _ => 0) 0)).2.1 = nI (few K (2 ^ n - 1)) ∧ (lfs n (0, -1, 2 ^ n - 1) (lvs K n 0 (fun _ => 0) 0)).2.2 = mkB (alnB K n) n := by
  have hp : 2 ^ n ≤ 2 ^ 8 := Nat.pow_le_pow_right (by decide) hn
  have h1 : 0 < 2 ^ n := Nat.two_pow_pos n
  have cnt : ∀ t, cnN t (lvs K n 0 (fun _ => 0) 0) = way K (2 ^ n - 1) t := by
    intro t
    rw [lv_cnt hK hr hn n 0 (fun _ => 0) 0 t (Nat.zero_add n) (fun o ho => absurd ho (Nat.not_lt_zero _)), rS_all]
    rfl
  have le : ∀ e, e ∈ lvs K n 0 (fun _ => 0) 0 → e.2 ≤ n := fun e he => by have := lv_le n 0 _ 0 e he; omega
  refine ⟨?_, ?_, ?_⟩
  · rw [lfs_1, Nat.zero_add, ← cnN_len (n := 300) (fun e he => by have := le e he; omega)]
    unfold tot
    exact smN_cong (fun t _ => cnt t)
  · obtain ⟨f, f1, ⟨e, e1, e2⟩, f3⟩ := lfs_2' (n := n) (L := lvs K n 0 (fun _ => 0) 0) (s := (0, -1, 2 ^ n - 1)) rfl (fun e he => by have := le e he; omega) (lv_ex n 0 _ 0 (fun o ho => absurd ho (Nat.not_lt_zero _)))
    rw [f1]
    congr 1
    have fi := few_is (K := K) (S := 2 ^ n - 1) (by omega)
    apply Nat.le_antisymm
    · have q : cnN (few K (2 ^ n - 1)) (lvs K n 0 (fun _ => 0) 0) ≠ 0 := by
        rw [cnt]
        exact fi.2.1
      obtain ⟨x, x1, x2⟩ := cnN_pos.mp q
      rw [← x2]
      exact f3 x x1
    · apply fi.2.2
      rw [← cnt]
      exact cnN_pos.mpr ⟨e, e1, e2⟩
  · apply Nat.eq_of_testBit_eq
    intro i
    apply bool_ext
    rw [lfs_3, mkB_bit, Bool.and_eq_true, decide_eq_true_eq]
    show (2 ^ n - 1).testBit i = true ∧ _ ↔ _
    rw [Nat.testBit_two_pow_sub_one, decide_eq_true_eq]
    constructor
    · rintro ⟨hi, h⟩
      refine ⟨hi, (aln_iff hr hi).mpr (fun b hb hne => ?_)⟩
      cases hk : K i b with
      | false => rfl
      | true =>
        exfalso
        have two : ∃ e, e ∈ lvs K n 0 (fun _ => 0) 0 ∧ e.1 i = e.1 b := by
          rcases Nat.lt_or_ge i b with q | q
          · exact lv_two q (by rw [hK]; exact hk) n 0 _ 0 (Nat.zero_le _) (by omega) (fun o ho => absurd ho (Nat.not_lt_zero _)) (fun o o' ho => absurd ho (Nat.not_lt_zero _))
          · obtain ⟨e, e1, e2⟩ := lv_two (K := K) (show b < i by omega) hk n 0 (fun _ => 0) 0 (Nat.zero_le _) (by omega) (fun o ho => absurd ho (Nat.not_lt_zero _)) (fun o o' ho => absurd ho (Nat.not_lt_zero _))
            exact ⟨e, e1, e2.symm⟩
        obtain ⟨e, e1, e2⟩ := two
        have := h e e1
        rw [shB_bit.mpr ⟨hi, b, hb, fun q => hne q.symm, e2⟩] at this
        cases this
    · rintro ⟨hi, h⟩
      refine ⟨hi, fun e he => ?_⟩
      apply Bool.eq_false_iff.mpr
      intro q
      obtain ⟨_, b, hb, hne, he2⟩ := shB_bit.mp q
      have k1 := lv_kin hK n 0 _ 0 e he (fun a b ha => absurd ha (Nat.not_lt_zero _)) i b (by omega) (by omega) hne he2
      rw [(aln_iff hr hi).mp h b hb (fun z => hne z.symm)] at k1
      cases k1
theorem prt_m {σ : Sg} {β : Bn} {w : Nat} {m y : Int32} {N : Mm} (gB : GoodB σ β) (hM : BM β N) (hw : w ≤ 64) : ∃ N', b_X10_partings_67_42 FU (nI w) m y 0 N = some (prtV (kiB β w (decide (m ≠ 0))) (bN β) y, N') ∧ Fr (LKM ++ LPT) N N' := by
  have hn : bN β ≤ 8 := gB.2.2.2.2.1
  refine for_q (fun q i (b : Mm) => b_X10_partings_67_42 q (nI w) m y (nI i) b) (bN β) (fun i b => Fr LKM N b ∧ ∀ p, p < i → ∀ q, q < bN β → b.1 (112 + p) q = if kiB β w (decide (m ≠ 0)) p q then 1 else 0) (fun o => ∃ N', o = some (prtV (kiB β w (decide (m ≠ 0))) (bN β) y, N') ∧ Fr (LKM ++ LPT) N N') ?_ ?_ (bN β) 0 N FU (Nat.zero_add _) (by show _ < 200000; omega) ⟨Fr.refl, fun q hq => absurd hq (Nat.not_lt_zero _)⟩
  · rintro q i b hi ⟨f1, h1⟩
    right
    have bm : BM0 β b := hM.fr f1 (by decide)
    obtain ⟨b', e1, e2⟩ := kinM_in (y := y) (b_X10_partings_67_42 q) gB hM hw hi f1 h1
    refine ⟨b', ?_, e2⟩
    show bb_X10_partings_67_42 _ _ _ _ _ _ = _
    unfold bb_X10_partings_67_42
    rw [bm.2.2.2.2.1, if_neg (nI_ge hi (by omega)), e1]
  · rintro q b ⟨f1, h1⟩
    have bm : BM0 β b := hM.fr f1 (by decide)
    have b26 : b.1 67 26 = nI (bN β) := bm.2.2.2.2.1
    let b3 : Mm := wI (wI (wI b 67 43 0) 67 44 (-1)) 67 45 (nI (2 ^ bN β - 1))
    have pm : PtM (kiB β w (decide (m ≠ 0))) (bN β) b3 := ⟨b26, fun a ha q hq => by
      show (wI (wI (wI b 67 43 0) 67 44 (-1)) 67 45 (nI (2 ^ bN β - 1))).1 (112 + a) q = _
      rw [wI_c (by omega), wI_c (by omega), wI_c (by omega)]
      exact h1 a ha q hq⟩
    obtain ⟨a', e1, i1, i2, i3, i4, i5⟩ := parts_ok pm hn (bN β) 0 (fun _ => 0) 0 (0, -1, 2 ^ bN β - 1) b3 12 (Nat.zero_add _) (by omega) (fun o ho => absurd ho (Nat.not_lt_zero _)) (Nat.le_refl _) ⟨Fr.refl, fun o ho => absurd ho (Nat.not_lt_zero _), rfl, rfl, rfl⟩
    obtain ⟨l1, l2, l3⟩ := leaves_ok (kiB_c β w (decide (m ≠ 0))) (kiB_r β w (decide (m ≠ 0))) hn
    rw [l1] at i3
    rw [l2] at i4
    rw [l3] at i5
    refine ⟨a', ?_, Fr.tr (Fr.sub f1 (by decide)) (Fr.tr (Fr.tr (Fr.wrI rfl) (Fr.tr (Fr.wrI rfl) (Fr.wrI rfl))) (Fr.sub i1 (by decide)))⟩
    show bb_X10_partings_67_42 _ _ _ _ _ _ = _
    unfold bb_X10_partings_67_42
    rw [b26, if_pos (nI_le (Nat.le_refl _) (by omega)), ltv_eq, ltv_eq, ltv_eq, show (wI (wI b 67 43 0) 67 44 (-1)).1 67 26 = nI (bN β) from b26, m2pow hn, show f_X10_parts_67 0 0 (wI (wI (wI b 67 43 0) 67 44 (-1)) 67 45 (nI (2 ^ bN β - 1))) = some a' from e1, bd_some, i3, i4, i5]
    unfold prtV
    by_cases y0 : y = 0
    · rw [if_pos y0, if_pos y0]
    · rw [if_neg y0, if_neg y0]
      by_cases y1 : y = 1
      · rw [if_pos y1, if_pos y1]
      · rw [if_neg y1, if_neg y1]
theorem prt_c {σ : Sg} {β : Bn} {w : Nat} {m y : Int32} {M : Mm} (gB : GoodB σ β) (hb : BC0 β 50 M) (hw : w ≤ 64) (hy : inI y 0 2 = true) (hz : inI (nI w) 0 64 = true) : ∃ M1, f_X9_partings_0 (nI w) m y M = some (prtV (kiB β w (decide (m ≠ 0))) (bN β) y, M1) ∧ Fr (LKN ++ [(47, 999), (48, 999), (49, 999)]) M M1 := by
  have hn : bN β ≤ 8 := gB.2.2.2.2.1
  have hp : 2 ^ bN β ≤ 2 ^ 8 := Nat.pow_le_pow_right (by decide) hn
  have h1 : 0 < 2 ^ bN β := Nat.two_pow_pos _
  obtain ⟨M', e1, k1, k2⟩ := layk_c m gB hb hw
  obtain ⟨M2, e2, f2, g2⟩ := sets_c (M := M') (kiB_c β w (decide (m ≠ 0))) (kiB_r β w (decide (m ≠ 0))) hn k1.2.1 k2
  have s44 : M2.1 44 5 = nI (bN β) := (f2 44 5 rfl).1.trans k1.2.1
  obtain ⟨t1, t2⟩ := g2.1 (2 ^ bN β - 1) (by omega)
  have ap : f_X5_allPrints_44 M2 = some (nI (2 ^ bN β - 1)) := by
    unfold f_X5_allPrints_44 bb_X5_allPrints_44_0
    rw [s44, m2pow hn]
  have al : f_X5_alwaysAlone_44 M' = some (nI (mkB (alnB (kiB β w (decide (m ≠ 0))) (bN β)) (bN β))) := by
    refine for_q (fun q i (_ : Unit) => b_X5_alwaysAlone_44_4 q (nI (mkB (alnB (kiB β w (decide (m ≠ 0))) (bN β)) i)) (nI i) M') (bN β) (fun _ _ => True) (fun o => o = some (nI (mkB (alnB (kiB β w (decide (m ≠ 0))) (bN β)) (bN β)))) ?_ ?_ (bN β) 0 () FU (Nat.zero_add _) (by show _ < 200000; omega) trivial
    · intro q i _ hi _
      right
      refine ⟨(), ?_, trivial⟩
      have hlt : mkB (kiB β w (decide (m ≠ 0)) i) (bN β) < 2 ^ 31 := Nat.lt_of_lt_of_le (mkB_lt _ _) (Nat.pow_le_pow_right (by decide) (by omega))
      have hl2 : 2 ^ i < 2 ^ 31 := pow2_lt (by omega)
      show bb_X5_alwaysAlone_44_4 _ _ _ _ = b_X5_alwaysAlone_44_4 q (nI (if alnB (kiB β w (decide (m ≠ 0))) (bN β) i then mkB (alnB (kiB β w (decide (m ≠ 0))) (bN β)) i ||| 2 ^ i else mkB (alnB (kiB β w (decide (m ≠ 0))) (bN β)) i)) (nI (i + 1)) M'
      unfold bb_X5_alwaysAlone_44_4
      rw [k1.2.1, if_neg (nI_ge hi (by omega)), gd_of (inb_nI (by omega) (by decide)), ix_nI (by omega), k2 i hi, shI_c i (by omega)]
      by_cases c : mkB (kiB β w (decide (m ≠ 0)) i) (bN β) = 2 ^ i
      · have : alnB (kiB β w (decide (m ≠ 0))) (bN β) i = true := decide_eq_true c
        rw [this, if_pos (by rw [c]), ltv_eq, ltv_eq, nI_1, nI_or]
        rfl
      · have : alnB (kiB β w (decide (m ≠ 0))) (bN β) i = false := decide_eq_false c
        rw [this, if_neg (fun z => c ((nI_eq hlt hl2).mp z)), ltv_eq, nI_1]
        rfl
    · intro q _ _
      show bb_X5_alwaysAlone_44_4 _ _ _ _ = _
      unfold bb_X5_alwaysAlone_44_4
      rw [k1.2.1, if_pos (nI_le (Nat.le_refl _) (by omega))]
  have fr1 : Fr (LKN ++ [(47, 999), (48, 999), (49, 999)]) M M' := Fr.sub k1.1 (by decide)
  have fr2 : Fr (LKN ++ [(47, 999), (48, 999), (49, 999)]) M M2 := Fr.tr fr1 (Fr.sub f2 (by decide))
  unfold f_X9_partings_0 bb_X9_partings_0_0
  rw [f_needR hz, bd_some, f_needR hy, bd_some, e1, bd_some]
  unfold prtV
  by_cases y2 : y = 2
  · refine ⟨M', ?_, fr1⟩
    have n0 : ¬ y = 0 := by rw [y2]; decide
    have n1 : ¬ y = 1 := by rw [y2]; decide
    rw [if_pos y2, al, bd_some, if_neg n0, if_neg n1]
  · refine ⟨M2, ?_, fr2⟩
    rw [if_neg y2]
    by_cases y0 : y = 0
    · rw [if_pos y0, if_pos y0]
      unfold f_X5_ways_44 bb_X5_ways_44_0
      rw [e2, bd_some, ap, bd_some, gd_of (inb_nI (by omega) (by decide)), ix_nI (by omega), t1]
      rfl
    · have y1 : y = 1 := by
        obtain ⟨k, rfl, _, hk⟩ := inI_nI (b := 0) (c := 2) (by decide) hy (by decide)
        rcases k with _ | _ | _ | k
        · exact absurd rfl y0
        · rfl
        · exact absurd rfl y2
        · omega
      rw [if_neg y0, if_neg y0, if_pos y1]
      unfold f_X5_fewest_44 bb_X5_fewest_44_0
      rw [e2, bd_some, ap, bd_some, gd_of (inb_nI (by omega) (by decide)), ix_nI (by omega), t2]
      rfl
theorem c_partings {M : Mm} (x z y : Int32) (h : Rel M) : AnsI (fw_L_partings_0_120 x z y M) (f_X10_partings_67 x z y) := by
  obtain ⟨σ, β, hR⟩ := id h
  obtain ⟨g, gB, hC, hM, hb, hm, hT, hI⟩ := id hR
  have bad : ∀ N : Mm, bb_X10_partings_67_25 x z y (wI N 67 0 0) = some (0, wI (wI N 67 0 0) 67 0 1) := by
    intro N
    simp only [bb_X10_partings_67_25, bad1 (M := wI N 67 0 0) (k := 1) rfl (by decide), bd2_some, i10, if_false]
  cases hx : inI x 0 64 with
  | false =>
    refine ans_t (c := 1) (w := 0) h (by decide) ?_ ?_
    · simp only [fw_L_partings_0_120, t_X9_partings_0, t_needR_f hx, orx]
    · simp only [f_X10_partings_67, bb_X10_partings_67_0, ltv_eq, f_inI, hx, bd_some, Bool.false_eq_true, if_false, if_true, bad]
  | true =>
    cases hy : inI y 0 2 with
    | false =>
      refine ans_t (c := 1) (w := 0) h (by decide) ?_ ?_
      · simp only [fw_L_partings_0_120, t_X9_partings_0, t_needR_t hx, f_needR hx, bd_some, t_needR_f hy, orx]
      · simp only [f_X10_partings_67, bb_X10_partings_67_0, ltv_eq, f_inI, hx, hy, bd_some, Bool.false_eq_true, if_false, if_true, i10, bad]
    | true =>
      obtain ⟨w, rfl, hw⟩ := inI_64 hx
      obtain ⟨M1, e1, f1⟩ := prt_c (M := M) (m := z) gB hb hw hy hx
      have hR1 : Rl σ β M1 := hR.fr f1 (by decide)
      refine ans_g (L := LKM ++ LPT) (M1 := M1) (v := prtV (kiB β w (decide (z ≠ 0))) (bN β) y) ⟨σ, β, hR1⟩ ?_ ?_ rfl rfl rfl
      · simp only [fw_L_partings_0_120, t_X9_partings_0, t_needR_t hx, f_needR hx, bd_some, t_needR_t hy, orx, f_L_partings_0_120, bb_L_partings_0_120_0, e1, bd2_some, ltv_eq]
      · generalize ho : (prtV (kiB β w (decide (z ≠ 0))) (bN β) y).toInt64 = o
        obtain ⟨_, hM'⟩ := hR1.md o
        generalize hN : wI (wJ M1 120 0 o) 67 0 0 = N at hM' ⊢
        have N0 : N.1 67 0 = 0 := by rw [← hN]; rfl
        obtain ⟨N', e2, f2⟩ := prt_m (m := z) (y := y) gB hM' hw
        refine ⟨N', ?_, f2⟩
        simp only [f_X10_partings_67, bb_X10_partings_67_0, ltv_eq, hN, f_inI, hx, hy, bd_some, if_true, i10, if_false, bad0 N0, bd2_some, e2]
