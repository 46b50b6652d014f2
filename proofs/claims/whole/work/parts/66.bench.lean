-- ===== blocks, files, blows =====
def blkB (x y w h i : Nat) : Bool := (decide (x ≤ i % 8) && decide (i % 8 < x + w)) && (decide (y ≤ i / 8) && decide (i / 8 < y + h))
theorem row_bits : ∀ w, w < 9 → ∀ i, i < 64 → lb (shL 1 (nI w) - 1) i = decide (i < w) := by decide +kernel
theorem block_ok {x y w h : Nat} (hw : x + w ≤ 8) (hh : y + h ≤ 8) : f_X4_block (nI x) (nI y) (nI w) (nI h) = some (ofB (blkB x y w h) 64) := by
  have key : ∀ row : Int64, (∀ i, i < 64 → lb row i = (decide (x ≤ i) && decide (i < x + w))) → b_X4_block_23 FU (nI y) (nI h) row 0 (nI 0) = some (ofB (blkB x y w h) 64) := by
    intro row hr
    refine for_q (fun n k a => b_X4_block_23 n (nI y) (nI h) row a (nI k)) h (fun k a => ∀ i, i < 64 → lb a i = blkB x y w k i) (fun o => o = some (ofB (blkB x y w h) 64)) ?_ ?_ h 0 0 FU (Nat.zero_add h) (by show h < 200000; omega) ?_
    · intro n k a hk hI
      right
      refine ⟨a ||| shL row (nI (8 * (y + k))), ?_, ?_⟩
      · show bb_X4_block_23 _ _ _ _ _ _ = _
        unfold bb_X4_block_23
        rw [if_neg (nI_ge hk (by omega)), ltv_eq, ltv_eq, nI_1, nI_add, show (8 : Int32) * nI (y + k) = nI (8 * (y + k)) from pk_mul 8 _]
      · intro i hi
        rw [lb_or, hI i hi, lb_shl (by omega) _ hi]
        unfold blkB
        by_cases q : 8 * (y + k) ≤ i
        · rw [hr _ (by omega)]
          by_cases e : i / 8 = y + k
          · have e1 : i - 8 * (y + k) = i % 8 := by omega
            rw [e1]
            have a1 : ¬ i / 8 < y + k := by omega
            have a2 : i / 8 < y + (k + 1) := by omega
            have a3 : y ≤ i / 8 := by omega
            simp [q, a1, a2, a3]
          · have a1 : ¬ i - 8 * (y + k) < x + w := by omega
            have a2 : decide (i / 8 < y + (k + 1)) = decide (i / 8 < y + k) := by
              congr 1
              apply propext
              omega
            rw [a2]
            simp [a1]
        · have a2 : decide (i / 8 < y + (k + 1)) = decide (i / 8 < y + k) := by
            congr 1
            apply propext
            omega
          rw [a2]
          simp [q]
    · intro n a hI
      show bb_X4_block_23 _ _ _ _ _ _ = _
      unfold bb_X4_block_23
      rw [if_pos (nI_le (Nat.le_refl _) (by omega)), ofB_lb hI]
    · intro i hi
      rw [lb_0]
      unfold blkB
      by_cases q : y ≤ i / 8
      · have : ¬ i / 8 < y + 0 := by omega
        simp [this]
      · simp [q]
  unfold f_X4_block bb_X4_block_0
  by_cases hz : 0 < w
  · rw [if_pos (show (0 : Int32) < nI w from nI_lt (a := 0) hz (by omega)), ltv_eq]
    refine key _ ?_
    intro i hi
    rw [lb_shl (by omega) _ hi]
    by_cases q : x ≤ i
    · rw [row_bits w (by omega) _ (by omega)]
      simp only [q, decide_true, Bool.true_and]
      congr 1
      apply propext
      omega
    · simp [q]
  · obtain rfl : w = 0 := by omega
    rw [if_neg (show ¬ (0 : Int32) < nI 0 by decide)]
    refine key _ ?_
    intro i hi
    rw [lb_0]
    by_cases q : x ≤ i
    · have : ¬ i < x + 0 := by omega
      simp [this]
    · simp [q]
theorem shL_0 (k : Int32) : shL (0 : Int64) k = 0 := by
  unfold shL
  apply Int64.toBitVec_inj.mp
  rw [Int64.toBitVec_shiftLeft]
  show (0#64) <<< _ = 0#64
  simp
/-- with nothing broad, or nothing high, there is no block -/
theorem block_h (x y w : Int32) : f_X4_block x y w (-1) = some 0 := by
  have key : ∀ row : Int64, b_X4_block_23 FU y (-1) row 0 0 = some 0 := by
    intro row
    show bb_X4_block_23 (b_X4_block_23 199999) y (-1) row 0 0 = some 0
    unfold bb_X4_block_23
    rw [if_pos (by decide)]
  unfold f_X4_block bb_X4_block_0
  by_cases h : 0 < w
  · rw [if_pos h, ltv_eq, key]
  · rw [if_neg h, key]
theorem block_w (x y : Int32) {h : Nat} (hh : h ≤ 8) : f_X4_block x y (-1) (nI h) = some 0 := by
  unfold f_X4_block bb_X4_block_0
  rw [if_neg (by decide)]
  refine for_q (fun n k a => b_X4_block_23 n y (nI h) 0 a (nI k)) h (fun k a => a = 0) (fun o => o = some 0) ?_ ?_ h 0 0 FU (Nat.zero_add h) (by show h < 200000; omega) rfl
  · intro n k a hk hI
    subst hI
    right
    refine ⟨0, ?_, rfl⟩
    show bb_X4_block_23 _ _ _ _ _ _ = _
    unfold bb_X4_block_23
    rw [if_neg (nI_ge hk (by omega)), ltv_eq, ltv_eq, nI_1, shL_0]
    rfl
  · intro n a hI
    subst hI
    show bb_X4_block_23 _ _ _ _ _ _ = _
    unfold bb_X4_block_23
    rw [if_pos (nI_le (Nat.le_refl _) (by omega))]
theorem filed_ok {s l n : Nat} (hs : s < 4) (hl : l < 8) (h1 : 1 ≤ n) (h8 : n ≤ 8) : f_X4_filed (nI s) (nI l) (nI n) = some (Fil s l n) := by
  have e : ∀ x y w h, x + w ≤ 8 → y + h ≤ 8 → (∀ i, i < 64 → blkB x y w h i = flB s l n i) → f_X4_block (nI x) (nI y) (nI w) (nI h) = some (Fil s l n) := by
    intro x y w h hw hh hb
    rw [block_ok hw hh]
    congr 1
    exact ofB_lb (fun i hi => by rw [lb_ofB _ hi, hb i hi])
  unfold f_X4_filed bb_X4_filed_0
  have s8 : (8 : Int32) - nI n = nI (8 - n) := nI_sub (a := 8) (b := n) h8
  rcases s with _ | _ | _ | _ | s
  · rw [if_pos (by decide)]
    have q := e 0 l n 1 (by omega) (by omega) (fun i hi => by
      unfold blkB
      simp only [flB]
      apply Bool.eq_iff_iff.mpr
      simp only [Bool.and_eq_true, decide_eq_true_eq]
      omega)
    rw [show f_X4_block 0 (nI l) (nI n) 1 = _ from q, bd_some]
  · rw [if_neg (by decide), if_pos (by decide), s8]
    have q := e (8 - n) l n 1 (by omega) (by omega) (fun i hi => by
      unfold blkB
      simp only [flB]
      apply Bool.eq_iff_iff.mpr
      simp only [Bool.and_eq_true, decide_eq_true_eq]
      omega)
    rw [show f_X4_block (nI (8 - n)) (nI l) (nI n) 1 = _ from q, bd_some]
  · rw [if_neg (by decide), if_neg (by decide), if_pos (by decide)]
    have q := e l 0 1 n (by omega) (by omega) (fun i hi => by
      unfold blkB
      simp only [flB]
      apply Bool.eq_iff_iff.mpr
      simp only [Bool.and_eq_true, decide_eq_true_eq]
      omega)
    rw [show f_X4_block (nI l) 0 1 (nI n) = _ from q, bd_some]
  · rw [if_neg (by decide), if_neg (by decide), if_neg (by decide), s8]
    have q := e l (8 - n) 1 n (by omega) (by omega) (fun i hi => by
      unfold blkB
      simp only [flB]
      apply Bool.eq_iff_iff.mpr
      simp only [Bool.and_eq_true, decide_eq_true_eq]
      omega)
    rw [show f_X4_block (nI l) (nI (8 - n)) 1 (nI n) = _ from q, bd_some]
  · omega
theorem wJ_self {M : Mm} {c i : Nat} : wJ M c i (M.2 c i) = M := by
  unfold wJ
  refine Prod.ext rfl ?_
  funext a b
  show (if a = c ∧ b = i then M.2 c i else M.2 a b) = M.2 a b
  by_cases h : a = c ∧ b = i
  · rw [if_pos h, h.1, h.2]
  · rw [if_neg h]
theorem wJ_wJ {M : Mm} {c i : Nat} {v w : Int64} : wJ (wJ M c i v) c i w = wJ M c i w := by
  unfold wJ
  refine Prod.ext rfl ?_
  funext a b
  show (if a = c ∧ b = i then w else (if a = c ∧ b = i then v else M.2 a b)) = (if a = c ∧ b = i then w else M.2 a b)
  by_cases h : a = c ∧ b = i
  · rw [if_pos h, if_pos h]
  · rw [if_neg h, if_neg h, if_neg h]
theorem wI_wI {M : Mm} {c i : Nat} {v w : Int32} : wI (wI M c i v) c i w = wI M c i w := by
  unfold wI
  refine Prod.ext ?_ rfl
  funext a b
  show (if a = c ∧ b = i then w else (if a = c ∧ b = i then v else M.1 a b)) = (if a = c ∧ b = i then w else M.1 a b)
  by_cases h : a = c ∧ b = i
  · rw [if_pos h, if_pos h]
  · rw [if_neg h, if_neg h, if_neg h]
/-- the k-th square of a file -/
def flS (s l k : Nat) : Nat := match s with
  | 0 => 8 * l + k
  | 1 => 8 * l + (7 - k)
  | 2 => 8 * k + l
  | _ => 8 * (7 - k) + l
theorem flB_s : ∀ s, s < 4 → ∀ l k i, l < 8 → k < 8 → i < 64 → flS s l k < 64 ∧ flB s l (k + 1) i = (flB s l k i || decide (i = flS s l k)) := by
  refine d_lt4 ?_ ?_ ?_ ?_ <;>
  · intro l k i hl hk hi
    simp only [flB, flS]
    refine ⟨by omega, ?_⟩
    apply Bool.eq_iff_iff.mpr
    simp only [Bool.and_eq_true, Bool.or_eq_true, decide_eq_true_eq]
    omega
theorem flB_0 : ∀ s, s < 4 → ∀ l i, i < 64 → flB s l 0 i = false := by
  refine d_lt4 ?_ ?_ ?_ ?_ <;>
  · intro l i hi
    simp only [flB]
    apply Bool.eq_false_iff.mpr
    simp only [Bool.and_eq_true, decide_eq_true_eq, ne_eq]
    omega
theorem files_s (n : Nat) {s l m k : Nat} (M : Mm) (hs : s < 4) (hl : l < 8) (hk : k < m) (hm : m ≤ 8) : b_X10_files_67_3 (n + 1) (nI s) (nI l) (nI m) (nI k) M = b_X10_files_67_3 n (nI s) (nI l) (nI m) (nI (k + 1)) (wJ M 67 22 (M.2 67 22 &&& (shL 1 (nI (flS s l k)) ^^^ -1))) := by
  show bb_X10_files_67_3 _ _ _ _ _ _ = _
  unfold bb_X10_files_67_3
  rw [if_neg (nI_ge hk (by omega))]
  have e7 : (7 : Int32) - nI k = nI (7 - k) := nI_sub (a := 7) (b := k) (by omega)
  have ad : ∀ a b : Nat, (8 : Int32) * nI a + nI b = nI (8 * a + b) := fun a b => by
    show nI 8 * nI a + nI b = _
    rw [pk_mul, nI_add]
  rcases s with _ | _ | _ | _ | s
  · rw [if_pos (by decide)]
    unfold bb_X10_files_67_32
    rw [if_neg (by decide), if_neg (by decide)]
    unfold bb_X10_files_67_58
    rw [ltv_eq, ltv_eq, nI_1, ad]
    rfl
  · rw [if_neg (by decide), if_pos (by decide), e7]
    unfold bb_X10_files_67_32
    rw [if_neg (by decide), if_neg (by decide)]
    unfold bb_X10_files_67_58
    rw [ltv_eq, ltv_eq, nI_1, ad]
    rfl
  · rw [if_neg (by decide), if_neg (by decide)]
    unfold bb_X10_files_67_32
    rw [if_pos (by decide)]
    unfold bb_X10_files_67_58
    rw [ltv_eq, ltv_eq, nI_1, ad]
    rfl
  · rw [if_neg (by decide), if_neg (by decide)]
    unfold bb_X10_files_67_32
    rw [if_neg (by decide), if_pos (by decide), e7]
    unfold bb_X10_files_67_58
    rw [ltv_eq, ltv_eq, nI_1, ad]
    rfl
  · omega
theorem files_ok {s l m : Nat} (M : Mm) (hs : s < 4) (hl : l < 8) (hm : m ≤ 8) : f_X10_files_67 (nI s) (nI l) (nI m) M = some (wJ M 67 22 (M.2 67 22 &&& (Fil s l m ^^^ -1))) := by
  show b_X10_files_67_3 FU (nI s) (nI l) (nI m) (nI 0) M = _
  refine for_q (fun n k N => b_X10_files_67_3 n (nI s) (nI l) (nI m) (nI k) N) m (fun k N => N = wJ M 67 22 (M.2 67 22 &&& (Fil s l k ^^^ -1))) (fun o => o = some (wJ M 67 22 (M.2 67 22 &&& (Fil s l m ^^^ -1)))) ?_ ?_ m 0 M FU (Nat.zero_add m) (by show m < 200000; omega) ?_
  · intro n k N hk hN
    right
    refine ⟨_, files_s n N hs hl hk hm, ?_⟩
    subst hN
    rw [wJ_wJ, wJ_at]
    congr 1
    apply lb_ext
    intro i hi
    obtain ⟨f1, f2⟩ := flB_s s hs l k i hl (by omega) hi
    unfold Fil
    rw [lb_and, lb_and, lb_and, lb_not _ hi, lb_not _ hi, lb_not _ hi, lb_ofB _ hi, lb_ofB _ hi, lb_one f1 hi, f2]
    cases lb (M.2 67 22) i <;> cases flB s l k i <;> simp
  · intro n N hN
    subst hN
    show bb_X10_files_67_3 _ _ _ _ _ _ = _
    unfold bb_X10_files_67_3
    rw [if_pos (nI_le (Nat.le_refl _) (by omega))]
  · have : M.2 67 22 &&& (Fil s l 0 ^^^ -1) = M.2 67 22 := by
      apply lb_ext
      intro i hi
      unfold Fil
      rw [lb_and, lb_not _ hi, lb_ofB _ hi, flB_0 s hs l i hi]
      simp
    rw [this, wJ_self]
-- how many squares go
theorem bcn_split (f g : Nat → Bool) : ∀ n, bcn f n = bcn (fun i => f i && g i) n + bcn (fun i => f i && !g i) n
  | 0 => rfl
  | n + 1 => by
    unfold bcn
    rw [bcn_split f g n]
    cases f n <;> cases g n <;> simp <;> omega
theorem pop_split (x y : Int64) : pop x = pop (x &&& y) + pop (x &&& (y ^^^ -1)) := by
  unfold pop
  rw [bcn_split (lb x) (lb y) 64]
  congr 1
  · exact bcn_cong (fun i hi => (lb_and x y i).symm)
  · exact bcn_cong (fun i hi => by rw [lb_and, lb_not _ hi])
/-- a hollow is struck: whether it bursts, and what steel is left -/
def Brs (st ho : Int64) : Bool := !decide ((Bes ho &&& (st ^^^ -1)) = 0)
def Hit (st ho : Int64) : Int64 := if Brs st ho then ho ||| Bes ho else ho
def Stk (st ho : Int64) : Int64 := st &&& (Hit st ho ^^^ -1)
theorem hit_bits (st ho : Int64) : (st &&& (ho ^^^ -1)) &&& (Adj ho ^^^ -1) = st &&& ((ho ||| Bes ho) ^^^ -1) := by
  apply lb_ext
  intro i hi
  unfold Bes
  rw [lb_and, lb_and, lb_and, lb_not _ hi, lb_not _ hi, lb_not _ hi, lb_or, lb_and, lb_not _ hi]
  cases lb st i <;> cases lb ho i <;> cases lb (Adj ho) i <;> rfl
theorem blows_ok {h : Nat} {M : Mm} {ho : Int64} (hh : h < 16) (hM : M.2 91 h = ho) : f_X10_blows_67 (nI h) M = some (if Brs (M.2 67 22) ho then 1 else 0, wJ M 67 22 (Stk (M.2 67 22) ho)) := by
  unfold f_X10_blows_67 bb_X10_blows_67_0
  rw [gd_of (inb_nI hh (by decide)), ix_nI (by omega), hM, g_beside, bd_some, gd_of (inb_nI hh (by decide))]
  have e39 : ∀ s : Int32, isB s = true → bb_X10_blows_67_39 (nI h) s M = some (s, wJ M 67 22 (if s = 0 then M.2 67 22 &&& (ho ^^^ -1) else (M.2 67 22 &&& (ho ^^^ -1)) &&& (Adj ho ^^^ -1))) := by
    intro s hs
    unfold bb_X10_blows_67_39
    rw [gd_of (inb_nI hh (by decide)), ix_nI (by omega), hM, ltv_eq]
    by_cases s0 : s = 0
    · rw [if_pos s0, if_pos s0, gd_of hs]
    · rw [if_neg s0, if_neg s0, gd_of (inb_nI hh (by decide))]
      have q : (wJ M 67 22 (M.2 67 22 &&& (ho ^^^ -1))).2 91 h = ho := hM
      rw [q, g_beside, bd_some, ltv_eq, gd_of hs, wJ_wJ, wJ_at]
  have eb : (Adj ho &&& (ho ^^^ -1)) &&& (M.2 67 22 ^^^ -1) = Bes ho &&& (M.2 67 22 ^^^ -1) := rfl
  rw [eb]
  by_cases hb : (Bes ho &&& (M.2 67 22 ^^^ -1)) = 0
  · have b : Brs (M.2 67 22) ho = false := by
      unfold Brs
      rw [decide_eq_true hb]
      rfl
    rw [if_pos hb, e39 0 rfl, if_pos rfl, b]
    unfold Stk Hit
    rw [b]
    rfl
  · have b : Brs (M.2 67 22) ho = true := by
      unfold Brs
      rw [decide_eq_false hb]
      rfl
    rw [if_neg hb, e39 1 rfl, if_neg (by decide), b, hit_bits]
    unfold Stk Hit
    rw [b]
    rfl
-- the class's blow
theorem bursts_ok (go ho : Int64) : f_X0_bursts go ho = some (if Brs (go ^^^ -1) ho then 1 else 0) := by
  unfold f_X0_bursts bb_X0_bursts_0
  rw [f_beside, bd_some]
  unfold Brs
  rw [xor_xor]
  by_cases hb : (Bes ho &&& go) = 0
  · rw [if_pos hb]
    simp [hb]
  · rw [if_neg hb]
    simp [hb]
theorem struck_ok (go ho : Int64) : f_X0_struckBy go ho = some (Hit (go ^^^ -1) ho) := by
  unfold f_X0_struckBy bb_X0_struckBy_0
  rw [bursts_ok, bd_some]
  unfold Hit
  cases Brs (go ^^^ -1) ho with
  | true =>
    rw [if_neg (by decide), f_beside]
    rfl
  | false => rfl
theorem not_or (x y : Int64) : (x ||| y) ^^^ -1 = (x ^^^ -1) &&& (y ^^^ -1) := by
  apply lb_ext
  intro i hi
  rw [lb_not _ hi, lb_or, lb_and, lb_not _ hi, lb_not _ hi]
  cases lb x i <;> cases lb y i <;> rfl
theorem and_comm' (x y : Int64) : x &&& y = y &&& x := by
  apply lb_ext
  intro i hi
  rw [lb_and, lb_and, Bool.and_comm]
/-- what a bench's take answers and leaves, told by the steel -/
theorem take_ok (sq : Int64) (M : Mm) : f_X0_take_50 sq M = some (nI (pop (M.2 50 1 ^^^ -1)) - nI (pop ((M.2 50 1 ^^^ -1) &&& (sq ^^^ -1))), wJ M 50 1 (((M.2 50 1 ^^^ -1) &&& (sq ^^^ -1)) ^^^ -1)) := by
  unfold f_X0_take_50 bb_X0_take_50_0
  rw [f_bits, bd_some, ltv_eq]
  have e1 : pop (M.2 50 1 ^^^ -1) = pop (sq &&& (M.2 50 1 ^^^ -1)) + pop ((M.2 50 1 ^^^ -1) &&& (sq ^^^ -1)) := by
    rw [pop_split _ sq, and_comm' (M.2 50 1 ^^^ -1) sq]
  have e2 : M.2 50 1 ||| sq = ((M.2 50 1 ^^^ -1) &&& (sq ^^^ -1)) ^^^ -1 := by
    rw [← not_or, xor_xor]
  rw [nI_sub (by omega), e2]
  congr 2
  congr 1
  omega
