-- ===== squares: what is beside, what a file reaches =====
theorem lb_shl1 (x : Int64) {i : Nat} (hi : i < 64) : lb (shL x 1) i = (decide (1 ≤ i) && lb x (i - 1)) := lb_shl (n := 1) (by decide) x hi
theorem lb_shl8 (x : Int64) {i : Nat} (hi : i < 64) : lb (shL x 8) i = (decide (8 ≤ i) && lb x (i - 8)) := lb_shl (n := 8) (by decide) x hi
theorem lb_ush1 (x : Int64) (i : Nat) : lb (ushL x 1) i = lb x (1 + i) := lb_ushl (n := 1) (by decide) x i
theorem lb_ush8 (x : Int64) (i : Nat) : lb (ushL x 8) i = lb x (8 + i) := lb_ushl (n := 8) (by decide) x i
theorem lb_7F : ∀ i, i < 64 → lb 9187201950435737471 i = decide (i % 8 ≠ 7) := by decide +kernel
theorem lb_FE : ∀ i, i < 64 → lb (-72340172838076674) i = decide (i % 8 ≠ 0) := by decide +kernel
theorem lb_01 : ∀ i, i < 64 → lb 72340172838076673 i = decide (i % 8 = 0) := by decide +kernel
theorem lb_80 : ∀ i, i < 64 → lb (-9187201950435737472) i = decide (i % 8 = 7) := by decide +kernel
theorem lb_FF : ∀ i, i < 64 → lb 255 i = decide (i < 8) := by decide +kernel
theorem lb_F0 : ∀ i, i < 64 → lb (-72057594037927936) i = decide (56 ≤ i) := by decide +kernel
/-- how far a square is from a side, and the next square towards it -/
def tD : Nat → Nat → Nat
  | 0, i => i % 8
  | 1, i => 7 - i % 8
  | 2, i => i / 8
  | _, i => 7 - i / 8
def pD : Nat → Nat → Nat
  | 0, i => i - 1
  | 1, i => i + 1
  | 2, i => i - 8
  | _, i => i + 8
theorem d_lt4 {P : Nat → Prop} (h0 : P 0) (h1 : P 1) (h2 : P 2) (h3 : P 3) : ∀ d, d < 4 → P d := by
  intro d hd
  rcases d with _ | _ | _ | _ | d
  · exact h0
  · exact h1
  · exact h2
  · exact h3
  · omega
theorem tD_p : ∀ d, d < 4 → ∀ i, i < 64 → 0 < tD d i → pD d i < 64 ∧ tD d (pD d i) = tD d i - 1 := by
  refine d_lt4 ?_ ?_ ?_ ?_ <;> (intro i hi h; simp only [tD, pD] at *; omega)
theorem tD_le : ∀ d, d < 4 → ∀ i, i < 64 → tD d i ≤ 7 := by
  refine d_lt4 ?_ ?_ ?_ ?_ <;> (intro i hi; simp only [tD]; omega)
theorem moved_ok (x : Int64) : ∀ d, d < 4 → Gv (fun y => ∀ i, i < 64 → lb y i = (decide (0 < tD d i) && lb x (pD d i))) (f_X4_moved x (nI d)) := by
  refine d_lt4 ?_ ?_ ?_ ?_
  · refine Gv.ret (r := shL (x &&& 9187201950435737471) 1) ?_
    intro i hi
    rw [lb_shl1 _ hi, lb_and, lb_7F _ (by omega)]
    simp only [tD, pD]
    by_cases h : 0 < i % 8
    · have h1 : 1 ≤ i := by omega
      have h2 : (i - 1) % 8 ≠ 7 := by omega
      simp [h, h1, h2]
    · have e : i % 8 = 0 := by omega
      by_cases h1 : 1 ≤ i
      · have h2 : (i - 1) % 8 = 7 := by omega
        simp [h2, e]
      · simp [h1, e]
  · refine Gv.ret (r := ushL (x &&& (-72340172838076674)) 1) ?_
    intro i hi
    rw [lb_ush1, lb_and, Nat.add_comm 1 i]
    simp only [tD, pD]
    by_cases h : i = 63
    · subst h
      rw [lb_big (x := x) (by decide)]
      simp
    · rw [lb_FE _ (by omega)]
      by_cases h2 : i % 8 = 7
      · have h3 : (i + 1) % 8 = 0 := by omega
        simp [h2, h3]
      · have h3 : (i + 1) % 8 ≠ 0 := by omega
        have h4 : 0 < 7 - i % 8 := by omega
        simp [h3, h4]
  · refine Gv.ret (r := shL x 8) ?_
    intro i hi
    rw [lb_shl8 _ hi]
    simp only [tD, pD]
    congr 1
    congr 1
    apply propext
    omega
  · refine Gv.ret (r := ushL x 8) ?_
    intro i hi
    rw [lb_ush8, Nat.add_comm 8 i]
    simp only [tD, pD]
    by_cases h : i < 56
    · have h1 : 0 < 7 - i / 8 := by omega
      simp [h1]
    · rw [lb_big (by omega)]
      simp
theorem rimOf_ok : ∀ d, d < 4 → Gv (fun y => ∀ i, i < 64 → lb y i = decide (tD d i = 0)) (f_X4_rimOf (nI d)) := by
  refine d_lt4 ?_ ?_ ?_ ?_
  · exact Gv.ret (r := (72340172838076673 : Int64)) (fun i hi => lb_01 i hi)
  · refine Gv.ret (r := (-9187201950435737472 : Int64)) (fun i hi => ?_)
    rw [lb_80 i hi]
    simp only [tD]
    congr 1
    apply propext
    omega
  · refine Gv.ret (r := (255 : Int64)) (fun i hi => ?_)
    rw [lb_FF i hi]
    simp only [tD]
    congr 1
    apply propext
    omega
  · refine Gv.ret (r := (-72057594037927936 : Int64)) (fun i hi => ?_)
    rw [lb_F0 i hi]
    simp only [tD]
    congr 1
    apply propext
    omega
def opnN (ink : Int64) (d : Nat) : Nat → Nat → Bool
  | 0, i => !lb ink i
  | t + 1, i => !lb ink i && opnN ink d t (pD d i)
/-- no ink from here to side d -/
def opn (ink : Int64) (d i : Nat) : Bool := opnN ink d (tD d i) i
theorem opn_0 {ink : Int64} {d i : Nat} (h : tD d i = 0) : opn ink d i = !lb ink i := by unfold opn; rw [h]; rfl
theorem opn_s {ink : Int64} {d i : Nat} (hd : d < 4) (hi : i < 64) (h : 0 < tD d i) : opn ink d i = (!lb ink i && opn ink d (pD d i)) := by
  unfold opn
  rw [(tD_p d hd i hi h).2]
  obtain ⟨t, ht⟩ : ∃ t, tD d i = t + 1 := ⟨tD d i - 1, by omega⟩
  rw [ht]
  rfl
theorem reachedFrom_ok (ink : Int64) (d : Nat) (hd : d < 4) : Gv (fun y => ∀ i, i < 64 → lb y i = opn ink d i) (f_X4_reachedFrom ink (nI d)) := by
  show Gv _ (bd (f_X4_rimOf (nI d)) _)
  refine Gv.bnd (rimOf_ok d hd) ?_
  intro r hr
  show Gv _ (b_X4_reachedFrom_14 FU ink (nI d) (r &&& (ink ^^^ -1)) (nI 0))
  refine for_q (fun n k a => b_X4_reachedFrom_14 n ink (nI d) a (nI k)) 7 (fun k a => ∀ i, i < 64 → lb a i = (decide (tD d i ≤ k) && opn ink d i)) _ ?_ ?_ 7 0 _ FU rfl (by decide) ?_
  · intro n k a hk hI
    right
    obtain ⟨v, hv, hb⟩ := moved_ok a d hd
    refine ⟨a ||| (v &&& (ink ^^^ -1)), ?_, ?_⟩
    · show bb_X4_reachedFrom_14 _ _ _ _ _ = _
      unfold bb_X4_reachedFrom_14
      rw [if_neg (show ¬ (7 : Int32) ≤ nI k from nI_ge hk (by decide)), hv, bd_some, ltv_eq, ltv_eq, nI_1]
    · intro i hi
      rw [lb_or, lb_and, lb_not _ hi, hb i hi, hI i hi]
      by_cases h : 0 < tD d i
      · obtain ⟨p1, p2⟩ := tD_p d hd i hi h
        rw [hI _ p1, p2, opn_s hd hi h]
        by_cases h2 : tD d i ≤ k
        · have h3 : tD d i ≤ k + 1 := by omega
          simp [h2, h3, h]
          cases lb ink i <;> simp
        · by_cases h3 : tD d i ≤ k + 1
          · have h4 : tD d i - 1 ≤ k := by omega
            simp [h2, h3, h]
            cases lb ink i <;> simp
          · have h4 : ¬ tD d i - 1 ≤ k := by omega
            simp [h2, h3, h4]
      · have h2 : tD d i = 0 := by omega
        simp [h2]
  · intro n a hI
    refine ⟨a, rfl, ?_⟩
    intro i hi
    rw [hI i hi]
    simp [tD_le d hd i hi]
  · intro i hi
    rw [lb_and, lb_not _ hi, hr i hi]
    by_cases h : tD d i = 0
    · rw [opn_0 h]
      simp [h]
    · simp [h]
theorem four {O : Type} {b : Nat → O} {x : O} (h : ∀ n, b (n + 5) = x) : b FU = x := h 199995
theorem reached_c (ink : Int64) : Gv (fun y => ∀ i, i < 64 → lb y i = (((opn ink 0 i || opn ink 1 i) || opn ink 2 i) || opn ink 3 i)) (f_X4_reached ink) := by
  obtain ⟨v0, e0, h0⟩ := reachedFrom_ok ink 0 (by decide)
  obtain ⟨v1, e1, h1⟩ := reachedFrom_ok ink 1 (by decide)
  obtain ⟨v2, e2, h2⟩ := reachedFrom_ok ink 2 (by decide)
  obtain ⟨v3, e3, h3⟩ := reachedFrom_ok ink 3 (by decide)
  have q0 : f_X4_reachedFrom ink 0 = some v0 := e0
  have q1 : f_X4_reachedFrom ink 1 = some v1 := e1
  have q2 : f_X4_reachedFrom ink 2 = some v2 := e2
  have q3 : f_X4_reachedFrom ink 3 = some v3 := e3
  have r : f_X4_reached ink = some ((((0 ||| v0) ||| v1) ||| v2) ||| v3) := by
    show b_X4_reached_5 FU ink 0 0 = _
    refine four (b := fun n => b_X4_reached_5 n ink 0 0) (fun n => ?_)
    have s0 : b_X4_reached_5 (n + 5) ink 0 0 = b_X4_reached_5 (n + 4) ink (0 ||| v0) 1 := by
      show bb_X4_reached_5 _ _ _ _ = _
      unfold bb_X4_reached_5
      rw [if_neg (by decide), q0]
      rfl
    have s1 : b_X4_reached_5 (n + 4) ink (0 ||| v0) 1 = b_X4_reached_5 (n + 3) ink ((0 ||| v0) ||| v1) 2 := by
      show bb_X4_reached_5 _ _ _ _ = _
      unfold bb_X4_reached_5
      rw [if_neg (by decide), q1]
      rfl
    have s2 : b_X4_reached_5 (n + 3) ink ((0 ||| v0) ||| v1) 2 = b_X4_reached_5 (n + 2) ink (((0 ||| v0) ||| v1) ||| v2) 3 := by
      show bb_X4_reached_5 _ _ _ _ = _
      unfold bb_X4_reached_5
      rw [if_neg (by decide), q2]
      rfl
    have s3 : b_X4_reached_5 (n + 2) ink (((0 ||| v0) ||| v1) ||| v2) 3 = b_X4_reached_5 (n + 1) ink ((((0 ||| v0) ||| v1) ||| v2) ||| v3) 4 := by
      show bb_X4_reached_5 _ _ _ _ = _
      unfold bb_X4_reached_5
      rw [if_neg (by decide), q3]
      rfl
    exact s0.trans (s1.trans (s2.trans (s3.trans rfl)))
  refine ⟨_, r, ?_⟩
  intro i hi
  rw [lb_or, lb_or, lb_or, lb_or, lb_0, h0 i hi, h1 i hi, h2 i hi, h3 i hi, Bool.false_or]
/-- the squares that a file reaches -/
def rchB (ink : Int64) (i : Nat) : Bool := ((opn ink 0 i || opn ink 1 i) || opn ink 2 i) || opn ink 3 i
def Rch (ink : Int64) : Int64 := ofB (rchB ink) 64
theorem lb_Rch (ink : Int64) {i : Nat} (hi : i < 64) : lb (Rch ink) i = rchB ink i := lb_ofB _ hi
theorem f_reached (ink : Int64) : f_X4_reached ink = some (Rch ink) := by
  obtain ⟨v, e, h⟩ := reached_c ink
  rw [e, ofB_lb h]
  rfl
def Hid (ink : Int64) : Int64 := (ink ^^^ -1) &&& (Rch ink ^^^ -1)
theorem f_hidden (ink : Int64) : f_X4_hidden ink = some (Hid ink) := by
  unfold f_X4_hidden bb_X4_hidden_0
  rw [f_reached]
  rfl
-- beside
def adjB (x : Int64) (i : Nat) : Bool := (((decide (0 < tD 0 i) && lb x (pD 0 i)) || (decide (0 < tD 1 i) && lb x (pD 1 i))) || (decide (0 < tD 2 i) && lb x (pD 2 i))) || (decide (0 < tD 3 i) && lb x (pD 3 i))
def Adj (x : Int64) : Int64 := ofB (adjB x) 64
theorem lb_Adj (x : Int64) {i : Nat} (hi : i < 64) : lb (Adj x) i = adjB x i := lb_ofB _ hi
def Bes (x : Int64) : Int64 := Adj x &&& (x ^^^ -1)
theorem f_beside (x : Int64) : f_X4_beside x = some (Bes x) := by
  obtain ⟨v0, e0, h0⟩ := moved_ok x 0 (by decide)
  obtain ⟨v1, e1, h1⟩ := moved_ok x 1 (by decide)
  obtain ⟨v2, e2, h2⟩ := moved_ok x 2 (by decide)
  obtain ⟨v3, e3, h3⟩ := moved_ok x 3 (by decide)
  have q0 : f_X4_moved x 0 = some v0 := e0
  have q1 : f_X4_moved x 1 = some v1 := e1
  have q2 : f_X4_moved x 2 = some v2 := e2
  have q3 : f_X4_moved x 3 = some v3 := e3
  have r : f_X4_beside x = some (((((0 ||| v0) ||| v1) ||| v2) ||| v3) &&& (x ^^^ -1)) := by
    show b_X4_beside_5 FU x 0 0 = _
    refine four (b := fun n => b_X4_beside_5 n x 0 0) (fun n => ?_)
    have s0 : b_X4_beside_5 (n + 5) x 0 0 = b_X4_beside_5 (n + 4) x (0 ||| v0) 1 := by
      show bb_X4_beside_5 _ _ _ _ = _
      unfold bb_X4_beside_5
      rw [if_neg (by decide), q0]
      rfl
    have s1 : b_X4_beside_5 (n + 4) x (0 ||| v0) 1 = b_X4_beside_5 (n + 3) x ((0 ||| v0) ||| v1) 2 := by
      show bb_X4_beside_5 _ _ _ _ = _
      unfold bb_X4_beside_5
      rw [if_neg (by decide), q1]
      rfl
    have s2 : b_X4_beside_5 (n + 3) x ((0 ||| v0) ||| v1) 2 = b_X4_beside_5 (n + 2) x (((0 ||| v0) ||| v1) ||| v2) 3 := by
      show bb_X4_beside_5 _ _ _ _ = _
      unfold bb_X4_beside_5
      rw [if_neg (by decide), q2]
      rfl
    have s3 : b_X4_beside_5 (n + 2) x (((0 ||| v0) ||| v1) ||| v2) 3 = b_X4_beside_5 (n + 1) x ((((0 ||| v0) ||| v1) ||| v2) ||| v3) 4 := by
      show bb_X4_beside_5 _ _ _ _ = _
      unfold bb_X4_beside_5
      rw [if_neg (by decide), q3]
      rfl
    exact s0.trans (s1.trans (s2.trans (s3.trans rfl)))
  rw [r]
  congr 1
  apply lb_ext
  intro i hi
  show _ = lb (Adj x &&& (x ^^^ -1)) i
  rw [lb_and, lb_and, lb_or, lb_or, lb_or, lb_or, lb_0, h0 i hi, h1 i hi, h2 i hi, h3 i hi, Bool.false_or, lb_Adj x hi]
  rfl
-- ===== the model's =====
theorem f_is (x : Int64) {s : Nat} (hs : s < 64) : f_X10_is x (nI s) = some (if lb x s then 1 else 0) := by
  have e : ((ushL x (nI s)) &&& (1 : Int64)) = (1 : Int64) ↔ lb x s = true := by
    constructor
    · intro h
      have t := congrArg (fun z => lb z 0) h
      simp only [lb_and, lb_ushl hs, lb_1 0 (by decide), Nat.add_zero] at t
      simpa using t
    · intro h
      apply lb_ext
      intro i hi
      rw [lb_and, lb_ushl hs, lb_1 i hi]
      by_cases h0 : i = 0
      · subst h0
        simp [h]
      · simp [h0]
  show (if ((ushL x (nI s)) &&& (1 : Int64)) = (1 : Int64) then (some (1 : Int32)) else (some (0 : Int32))) = _
  by_cases h : lb x s = true
  · rw [if_pos (e.mpr h), if_pos h]
  · rw [if_neg (fun z => h (e.mp z)), if_neg h]
theorem is_t {x : Int64} {s : Nat} (hs : s < 64) (h : lb x s = true) : f_X10_is x (nI s) = some 1 := by rw [f_is x hs, if_pos h]
theorem is_f {x : Int64} {s : Nat} (hs : s < 64) (h : lb x s = false) : f_X10_is x (nI s) = some 0 := by rw [f_is x hs, h]; rfl
theorem f_ones (x : Int64) : f_X10_ones x = some (nI (pop x)) := by
  show b_X10_ones_4 FU x (nI 0) (nI 0) = _
  refine for_q (fun n k a => b_X10_ones_4 n x a (nI k)) 64 (fun k a => a = nI (bcn (lb x) k)) (fun o => o = some (nI (pop x))) ?_ ?_ 64 0 (nI 0) FU rfl (by decide) rfl
  · intro n k a hk ha
    subst ha
    right
    refine ⟨nI (bcn (lb x) (k + 1)), ?_, rfl⟩
    show bb_X10_ones_4 _ _ _ _ = _
    unfold bb_X10_ones_4
    rw [if_neg (show ¬ (64 : Int32) ≤ nI k from nI_ge hk (by decide))]
    cases hb : lb x k with
    | true =>
      rw [is_t hk hb, bd_some, if_neg (by decide), ltv_eq, ltv_eq, nI_1, nI_1]
      show _ = b_X10_ones_4 n x (nI (bcn (lb x) k + (if lb x k then 1 else 0))) _
      rw [if_pos hb]
    | false =>
      rw [is_f hk hb, bd_some, if_pos rfl, ltv_eq, ltv_eq, nI_1]
      show _ = b_X10_ones_4 n x (nI (bcn (lb x) k + (if lb x k then 1 else 0))) _
      rw [hb]
      show b_X10_ones_4 n x (nI _ + nI 0) _ = _
      rw [nI_add]
      rfl
  · intro n a ha
    subst ha
    rfl
