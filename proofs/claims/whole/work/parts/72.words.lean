-- ===== colour, uneven, press =====
theorem smN_cong {f g : Nat → Nat} : ∀ {n : Nat}, (∀ i, i < n → f i = g i) → smN f n = smN g n
  | 0, _ => rfl
  | n + 1, h => by
    show smN f n + f n = smN g n + g n
    rw [smN_cong (fun i hi => h i (by omega)), h n (by omega)]
theorem smN_add (f g : Nat → Nat) : ∀ n, smN (fun i => f i + g i) n = smN f n + smN g n
  | 0 => rfl
  | n + 1 => by
    show smN (fun i => f i + g i) n + (f n + g n) = (smN f n + f n) + (smN g n + g n)
    rw [smN_add f g n]
    omega
theorem smN_zero : ∀ n, smN (fun _ => 0) n = 0
  | 0 => rfl
  | n + 1 => by
    show smN (fun _ => 0) n + 0 = 0
    rw [smN_zero n]
theorem smN_le {f : Nat → Nat} {b : Nat} : ∀ {n : Nat}, (∀ i, i < n → f i ≤ b) → smN f n ≤ n * b
  | 0, _ => Nat.zero_le _
  | n + 1, h => by
    have h1 := smN_le (f := f) (b := b) (n := n) (fun i hi => h i (by omega))
    have h2 := h n (by omega)
    show smN f n + f n ≤ (n + 1) * b
    rw [Nat.succ_mul]
    omega
theorem smN_one (f : Nat → Nat) {u : Nat} : ∀ {n : Nat}, u < n → smN (fun l => (if decide (u = l) then 1 else 0) * f l) n = f u
  | 0, h => absurd h (Nat.not_lt_zero _)
  | n + 1, h => by
    show smN (fun l => (if decide (u = l) then 1 else 0) * f l) n + (if decide (u = n) then 1 else 0) * f n = f u
    by_cases e : u = n
    · subst e
      have : smN (fun l => (if decide (u = l) then 1 else 0) * f l) u = smN (fun _ => 0) u := smN_cong (fun i hi => by
        have : ¬ u = i := by omega
        simp [this])
      rw [this, smN_zero]
      simp
    · rw [smN_one f (by omega)]
      simp [e]
theorem cnt_sum {u : Nat → Nat} {f : Nat → Nat} {L : Nat} : ∀ {n : Nat}, (∀ k, k < n → u k < L) → smN (fun l => bcn (fun k => decide (u k = l)) n * f l) L = smN (fun k => f (u k)) n
  | 0, _ => by
    have : smN (fun l => bcn (fun k => decide (u k = l)) 0 * f l) L = smN (fun _ => 0) L := smN_cong (fun i _ => Nat.zero_mul _)
    rw [this, smN_zero]
    rfl
  | n + 1, h => by
    have ih := cnt_sum (u := u) (f := f) (L := L) (n := n) (fun k hk => h k (by omega))
    have e : smN (fun l => bcn (fun k => decide (u k = l)) (n + 1) * f l) L = smN (fun l => bcn (fun k => decide (u k = l)) n * f l + (if decide (u n = l) then 1 else 0) * f l) L := smN_cong (fun l _ => Nat.add_mul _ _ _)
    rw [e, smN_add, ih, smN_one f (h n (by omega))]
    rfl
theorem Blk_le {σ : Sg} {gr l : Nat} (h : gr ≤ 16) : Blk σ gr l ≤ 2048 := by
  unfold Blk
  have h1 := pop_le (sInk σ l)
  have h2 := pop_le (Bes (sInk σ l))
  have h3 : gr * pop (Bes (sInk σ l)) ≤ 16 * 64 := Nat.mul_le_mul h h2
  omega
theorem Wid_le (σ : Sg) (r l : Nat) : Wid σ r l ≤ 12 := by
  unfold Wid
  have := brN_le (sInk σ l)
  have := Nat.mod_lt (r / 5 ^ l) (show 0 < 5 by decide)
  omega
theorem smB_le {σ : Sg} {gr w : Nat} (g : Good σ) (h : gr ≤ 16) (hw : w < sW σ) : smW σ w (Blk σ gr) ≤ 16384 := by
  have h8 := (g.2.2.1 w hw).2.1
  have := smN_le (f := fun k => Blk σ gr (sWl σ w k)) (b := 2048) (n := sLen σ w) (fun i _ => Blk_le h)
  have : sLen σ w * 2048 ≤ 8 * 2048 := Nat.mul_le_mul_right _ h8
  unfold smW
  omega
theorem smR_le {σ : Sg} {r w : Nat} (g : Good σ) (hw : w < sW σ) : smW σ w (Wid σ r) ≤ 96 := by
  have h8 := (g.2.2.1 w hw).2.1
  have := smN_le (f := fun k => Wid σ r (sWl σ w k)) (b := 12) (n := sLen σ w) (fun i _ => Wid_le σ r _)
  have : sLen σ w * 12 ≤ 8 * 12 := Nat.mul_le_mul_right _ h8
  unfold smW
  omega
/-- a letter that has no breadth has no black: black is at most 2048 times the space -/
theorem BlkW_le {σ : Sg} {gr r l : Nat} (h : gr ≤ 16) : Blk σ gr l ≤ 2048 * Wid σ r l := by
  by_cases e : brN (sInk σ l) = 0
  · unfold Blk
    rw [brN_0 e, show Bes 0 = 0 by decide, show pop 0 = 0 by decide, Nat.mul_zero, Nat.mul_zero]
    exact Nat.zero_le _
  · have h1 := Blk_le (σ := σ) (l := l) h
    have h2 : 1 ≤ Wid σ r l := by
      unfold Wid
      omega
    omega
theorem smN_le2 {f g : Nat → Nat} {c : Nat} : ∀ {n : Nat}, (∀ i, i < n → f i ≤ c * g i) → smN f n ≤ c * smN g n
  | 0, _ => Nat.zero_le _
  | n + 1, h => by
    have h1 := smN_le2 (f := f) (g := g) (c := c) (n := n) (fun i hi => h i (by omega))
    have h2 := h n (by omega)
    show smN f n + f n ≤ c * (smN g n + g n)
    rw [Nat.mul_add]
    omega
theorem smBR {σ : Sg} {gr r w : Nat} (h : gr ≤ 16) : smW σ w (Blk σ gr) ≤ 2048 * smW σ w (Wid σ r) := smN_le2 (fun _ _ => BlkW_le h)
theorem clB_le {b s : Nat} (hb : b ≤ 2048 * s) : clB b s ≤ 128000 := by
  unfold clB
  by_cases h : s = 0
  · rw [if_pos h]
    omega
  · rw [if_neg h]
    exact Nat.div_le_of_le_mul (by omega)
theorem Col_le {σ : Sg} {gr w r : Nat} (h : gr ≤ 16) : Col σ gr w r ≤ 128000 := clB_le (smBR h)
theorem pow_ok : ∀ l, l < 10 → powF l = nI (5 ^ l) ∧ ¬ powF l = 0 ∧ 0 < 5 ^ l ∧ 5 ^ l < 2 ^ 31 := by decide +kernel
theorem nI_gt0 {n : Nat} (h : 0 < n) (hn : n < 2 ^ 31) : 0 < nI n := nI_lt (a := 0) h hn
theorem colB_c {b s : Nat} (hb : b ≤ 16384) (hs : s ≤ 100000) : f_X6_colourBy (nI b) (nI s) = some (nI (clB b s)) := by
  unfold f_X6_colourBy bb_X6_colourBy_0 clB
  by_cases h : s = 0
  · subst h
    rw [if_neg (by decide), if_pos rfl]
    rfl
  · rw [if_pos (nI_gt0 (by omega) (by omega)), if_neg h, show (16 : Int32) * nI s = nI (16 * s) from pk_mul 16 s, show (1000 : Int32) * nI b = nI (1000 * b) from pk_mul 1000 b, pk_div (by omega) (by omega) (by omega), gd_of]
    exact decide_eq_true (nI_ne0 (by omega) (by omega))
-- the class's words
theorem blackW_c {M : Mm} {σ : Sg} {w : Nat} (gr : Nat) (g : Good σ) (hC : C4 σ M) (hw : w < sW σ) : f_X6_blackOfWord_34 (nI w) (nI gr) M = some (nI (smW σ w (Blk σ gr))) := by
  have hL := g.1
  have hW := g.2.1
  have c : C40 σ M := hC
  have key : f_X6_blackOfWord_34 (nI w) (nI gr) M = some (nI (smN (fun l => cntW σ w l * Blk σ gr l) (sL σ))) := by
    refine for_q (fun n i a => b_X6_blackOfWord_34_5 n (nI w) (nI gr) a (nI i) M) (sL σ) (fun i a => a = nI (smN (fun l => cntW σ w l * Blk σ gr l) i)) (fun o => o = some (nI (smN (fun l => cntW σ w l * Blk σ gr l) (sL σ)))) ?_ ?_ (sL σ) 0 (nI 0) FU (Nat.zero_add _) (by show sL σ < 200000; omega) rfl
    · rintro n i a hi rfl
      right
      refine ⟨_, ?_, rfl⟩
      show bb_X6_blackOfWord_34_5 _ _ _ _ _ _ = _
      unfold bb_X6_blackOfWord_34_5
      rw [c.1, if_neg (nI_ge hi (by omega)), show (10 : Int32) * nI w + nI i = nI (10 * w + i) from by rw [← nI_add, ← pk_mul]; rfl, gd_of (inb_nI (by omega) (by decide)), black_c gr g hC hi, bd_some, ltv_eq, ltv_eq, nI_1, ix_nI (by omega), c.2.2.2 w hw i (by omega), pk_mul, nI_add]
      rfl
    · rintro n a rfl
      show bb_X6_blackOfWord_34_5 _ _ _ _ _ _ = _
      unfold bb_X6_blackOfWord_34_5
      rw [c.1, if_pos (nI_le (Nat.le_refl _) (by omega))]
  rw [key]
  congr 2
  exact cnt_sum (fun k hk => (g.2.2.1 w hw).2.2 k hk)
theorem spaceW_c {M : Mm} {σ : Sg} {w r : Nat} (g : Good σ) (hC : C4 σ M) (hw : w < sW σ) (hr : r < 2 ^ 31) : f_X6_spaceOfWord_34 (nI w) (nI r) M = some (nI (smW σ w (Wid σ r))) := by
  have hL := g.1
  have hW := g.2.1
  have c : C40 σ M := hC
  have key : f_X6_spaceOfWord_34 (nI w) (nI r) M = some (nI (smN (fun l => cntW σ w l * Wid σ r l) (sL σ))) := by
    refine for_q (fun n i a => b_X6_spaceOfWord_34_5 n (nI w) (nI r) a (nI i) M) (sL σ) (fun i a => a = nI (smN (fun l => cntW σ w l * Wid σ r l) i)) (fun o => o = some (nI (smN (fun l => cntW σ w l * Wid σ r l) (sL σ)))) ?_ ?_ (sL σ) 0 (nI 0) FU (Nat.zero_add _) (by show sL σ < 200000; omega) rfl
    · rintro n i a hi rfl
      right
      refine ⟨_, ?_, rfl⟩
      show bb_X6_spaceOfWord_34_5 _ _ _ _ _ _ = _
      unfold bb_X6_spaceOfWord_34_5
      obtain ⟨p1, p2, p3, p4⟩ := pow_ok i (by omega)
      have hd : r / 5 ^ i < 2 ^ 31 := Nat.lt_of_le_of_lt (Nat.div_le_self _ _) hr
      rw [c.1, if_neg (nI_ge hi (by omega)), show (10 : Int32) * nI w + nI i = nI (10 * w + i) from by rw [← nI_add, ← pk_mul]; rfl, gd_of (inb_nI (by omega) (by decide)), gd_of (inb_nI (by omega) (by decide)), gd_of (inb_nI (by omega) (by decide)), ix_nI (show i < 2 ^ 31 by omega), gd_of (decide_eq_true p2), ltv_eq, ltv_eq, nI_1, ix_nI (by omega), c.2.2.2 w hw i (by omega), (c.2.2.1 i hi).2.2, p1, pk_div hr p3 p4, show (5 : Int32) = nI 5 from rfl, rmI_nI hd (by decide) (by decide), nI_add, pk_mul, nI_add]
      rfl
    · rintro n a rfl
      show bb_X6_spaceOfWord_34_5 _ _ _ _ _ _ = _
      unfold bb_X6_spaceOfWord_34_5
      rw [c.1, if_pos (nI_le (Nat.le_refl _) (by omega))]
  rw [key]
  congr 2
  exact cnt_sum (fun k hk => (g.2.2.1 w hw).2.2 k hk)
theorem col_c {M : Mm} {σ : Sg} {w r gr : Nat} (g : Good σ) (hC : C4 σ M) (hw : w < sW σ) (hr : r < 2 ^ 31) (hg : gr ≤ 16) : f_X6_colourOf_34 (nI w) (nI gr) (nI r) M = some (nI (Col σ gr w r)) := by
  unfold f_X6_colourOf_34 bb_X6_colourOf_34_0
  have := smR_le (r := r) g hw
  rw [blackW_c gr g hC hw, bd_some, spaceW_c g hC hw hr, bd_some, colB_c (smB_le g hg hw) (by omega), bd_some]
  rfl
theorem mx_nI {a b : Nat} (ha : a < 2 ^ 31) (hb : b < 2 ^ 31) : (if nI a < nI b then nI b else nI a) = nI (max a b) := by
  by_cases h : a < b
  · rw [if_pos (nI_lt h hb), Nat.max_eq_right (by omega)]
  · rw [if_neg (fun q => h ((nI_ltI ha hb).mp q)), Nat.max_eq_left (by omega)]
theorem mxN_le {f : Nat → Nat} {b : Nat} : ∀ {n : Nat}, (∀ i, i < n → f i ≤ b) → mxN f n ≤ b
  | 0, _ => Nat.zero_le _
  | n + 1, h => by
    show max (mxN f n) (f n) ≤ b
    exact Nat.max_le.mpr ⟨mxN_le (fun i hi => h i (by omega)), h n (by omega)⟩
theorem le_mxN {f : Nat → Nat} : ∀ {n i : Nat}, i < n → f i ≤ mxN f n
  | n + 1, i, h => by
    show f i ≤ max (mxN f n) (f n)
    by_cases e : i = n
    · rw [e]
      exact Nat.le_max_right _ _
    · exact Nat.le_trans (le_mxN (by omega)) (Nat.le_max_left _ _)
theorem mnN_le {f : Nat → Nat} : ∀ {n i : Nat}, i < n → mnN f n ≤ f i
  | 1, i, h => by
    obtain rfl : i = 0 := by omega
    exact Nat.le_refl _
  | n + 2, i, h => by
    show min (mnN f (n + 1)) (f (n + 1)) ≤ f i
    by_cases e : i = n + 1
    · rw [e]
      exact Nat.min_le_right _ _
    · exact Nat.le_trans (Nat.min_le_left _ _) (mnN_le (by omega))
theorem mn_mx (f : Nat → Nat) : ∀ n, mnN f n ≤ mxN f n
  | 0 => Nat.le_refl _
  | n + 1 => Nat.le_trans (mnN_le (show 0 < n + 1 by omega)) (le_mxN (by omega))
theorem mnN_b {f : Nat → Nat} {b : Nat} {n : Nat} (h : ∀ i, i < n → f i ≤ b) : mnN f n ≤ b := Nat.le_trans (mn_mx f n) (mxN_le h)
/-- the class's bound: words laid, with what may still be added -/
theorem uneven_c {M : Mm} {W : Nat} {B S wd : Nat → Nat} (x1 : Int32) (hW : W ≤ 6) (m1 : M.1 34 1 = nI W) (hB : ∀ w, w < W → M.1 40 w = nI (B w) ∧ M.1 41 w = nI (S w) ∧ B w ≤ 16384 ∧ S w + wd w ≤ 100000 ∧ B w ≤ 2048 * S w)
    (hw : (x1 = -1 ∧ ∀ w, w < W → wd w = 0) ∨ ∃ k, k < 6 ∧ x1 = nI k ∧ ∀ w, w < W → M.1 42 (6 * w + k) = nI (wd w)) : f_X6_unevenAtLeast_34 x1 M = some (nI (mxN (fun w => clB (B w) (S w + wd w)) W - mnN (fun w => clB (B w) (S w)) W)) := by
  let f1 : Nat → Nat := fun w => clB (B w) (S w + wd w)
  let f2 : Nat → Nat := fun w => clB (B w) (S w)
  have l1 : ∀ w, w < W → f1 w ≤ 128000 := fun w h => clB_le (b := B w) (s := S w + wd w) (by have := (hB w h).2.2.2.2; omega)
  have l2 : ∀ w, w < W → f2 w ≤ 128000 := fun w h => clB_le (hB w h).2.2.2.2
  refine for_q (fun n i (a : Int32 × Int32) => b_X6_unevenAtLeast_34_8 n x1 a.1 a.2 (nI i) M) W (fun i a => a.1 = nI (mxN f1 i) ∧ a.2 = (if i = 0 then 1000000 else nI (mnN f2 i))) (fun o => o = some (nI (mxN f1 W - mnN f2 W))) ?_ ?_ W 0 (nI 0, 1000000) FU (Nat.zero_add _) (by show W < 200000; omega) ⟨rfl, rfl⟩
  · rintro n i ⟨a, b⟩ hi ⟨h1, h2⟩
    have h1' : a = nI (mxN f1 i) := h1
    have h2' : b = (if i = 0 then 1000000 else nI (mnN f2 i)) := h2
    obtain ⟨q1, q2, q3, q4, _⟩ := hB i hi
    have a1 : mxN f1 i ≤ 128000 := mxN_le (fun j hj => l1 j (by omega))
    have a2 := l1 i hi
    have b1 : mnN f2 i ≤ 128000 := mnN_b (fun j hj => l2 j (by omega))
    have b2 := l2 i hi
    right
    have k43 : bb_X6_unevenAtLeast_34_43 (b_X6_unevenAtLeast_34_8 n) x1 a b (nI i) (nI (wd i)) M = b_X6_unevenAtLeast_34_8 n x1 (nI (mxN f1 (i + 1))) (nI (mnN f2 (i + 1))) (nI (i + 1)) M := by
      unfold bb_X6_unevenAtLeast_34_43
      have e2 : (if nI (f2 i) < b then nI (f2 i) else b) = nI (mnN f2 (i + 1)) := by
        rw [h2']
        rcases i with _ | i
        · rw [if_pos rfl, if_pos (show nI (f2 0) < (1000000 : Int32) from nI_lt (b := 1000000) (by omega) (by decide))]
          rfl
        · rw [if_neg (Nat.succ_ne_zero i), min_nI (by omega) (by omega)]
          rfl
      simp only [gd_of (inb_nI (n := 6) (show i < 6 by omega) (by decide)), ix_nI (show i < 2 ^ 31 by omega), q1, q2, nI_add, colB_c q3 q4, bd_some, ltv_eq, colB_c q3 (show S i ≤ 100000 by omega), nI_1]
      show b_X6_unevenAtLeast_34_8 n x1 (if a < nI (f1 i) then nI (f1 i) else a) (if nI (f2 i) < b then nI (f2 i) else b) _ M = _
      rw [e2, h1', mx_nI (by omega) (by omega)]
      rfl
    refine ⟨(nI (mxN f1 (i + 1)), nI (mnN f2 (i + 1))), ?_, rfl, by show _ = (if i + 1 = 0 then _ else _); rw [if_neg (by omega)]⟩
    show bb_X6_unevenAtLeast_34_8 _ _ _ _ _ _ = _
    unfold bb_X6_unevenAtLeast_34_8 bb_X6_unevenAtLeast_34_42
    rw [m1, if_neg (nI_ge hi (by omega))]
    rcases hw with ⟨rfl, z⟩ | ⟨k, hk, rfl, z⟩
    · rw [if_pos (by decide), ← k43, z i hi]
      rfl
    · rw [if_neg (nI_pos (by omega)), if_neg (show ¬ (6 : Int32) ≤ nI k from nI_ge hk (by decide)), show (6 : Int32) * nI i + nI k = nI (6 * i + k) from by rw [← nI_add, ← pk_mul]; rfl, gd_of (inb_nI (by omega) (by decide)), ix_nI (by omega), z i hi, k43]
  · rintro n ⟨a, b⟩ ⟨h1, h2⟩
    have h1' : a = nI (mxN f1 W) := h1
    have h2' : b = (if W = 0 then 1000000 else nI (mnN f2 W)) := h2
    show bb_X6_unevenAtLeast_34_8 _ _ _ _ _ _ = _
    unfold bb_X6_unevenAtLeast_34_8
    rw [m1, if_pos (nI_le (Nat.le_refl _) (by omega))]
    rcases W with _ | W
    · rfl
    · have a1 : mxN f1 (W + 1) ≤ 128000 := mxN_le (fun j hj => l1 j hj)
      have b1 : mnN f2 (W + 1) ≤ 128000 := mnN_b (fun j hj => l2 j hj)
      have h2'' : b = nI (mnN f2 (W + 1)) := by rw [h2', if_neg (Nat.succ_ne_zero W)]
      rw [if_neg (nI_ne0 (by omega) (by omega)), h1', h2'']
      dsimp only
      congr 1
      by_cases e : mnN f2 (W + 1) ≤ mxN f1 (W + 1)
      · rw [nI_sub e]
        by_cases e2 : mxN f1 (W + 1) - mnN f2 (W + 1) = 0
        · rw [e2, if_neg (by decide)]
          rfl
        · rw [if_pos (nI_gt0 (by omega) (by omega))]
      · rw [show mxN f1 (W + 1) - mnN f2 (W + 1) = 0 by omega, if_neg]
        · rfl
        · intro q
          have := pk_sneg (a := mxN f1 (W + 1)) (b := mnN f2 (W + 1)) (by omega) (by omega)
          rw [Int32.lt_iff_toInt_lt] at q this
          omega
/-- words laid -/
theorem layW_c {M : Mm} {σ : Sg} {r gr : Nat} (g : Good σ) (hC : C4 σ M) (hr : r < 2 ^ 31) : ∃ M', f_X6_layWords_34 (nI gr) (nI r) M = some M' ∧ Fr [(40, 999), (41, 999)] M M' ∧ ∀ w, w < sW σ → M'.1 40 w = nI (smW σ w (Blk σ gr)) ∧ M'.1 41 w = nI (smW σ w (Wid σ r)) := by
  have hW := g.2.1
  refine for_q (fun n i a => b_X6_layWords_34_2 n (nI gr) (nI r) (nI i) a) (sW σ) (fun i a => Fr [(40, 999), (41, 999)] M a ∧ ∀ w, w < i → a.1 40 w = nI (smW σ w (Blk σ gr)) ∧ a.1 41 w = nI (smW σ w (Wid σ r))) (fun o => ∃ M', o = some M' ∧ Fr [(40, 999), (41, 999)] M M' ∧ ∀ w, w < sW σ → M'.1 40 w = nI (smW σ w (Blk σ gr)) ∧ M'.1 41 w = nI (smW σ w (Wid σ r))) ?_ ?_ (sW σ) 0 M FU (Nat.zero_add _) (by show sW σ < 200000; omega) ⟨Fr.refl, fun w hw => absurd hw (Nat.not_lt_zero w)⟩
  · rintro n i N hi ⟨h1, h2⟩
    right
    have c1 : C4 σ N := hC.fr h1 (by decide)
    have c2 : C4 σ (wI N 40 i (nI (smW σ i (Blk σ gr)))) := c1.fr (L := [(40, 999)]) (Fr.wIa rfl) (by decide)
    have e1 : N.1 34 1 = nI (sW σ) := (show C40 σ N from c1).2.1
    refine ⟨wI (wI N 40 i (nI (smW σ i (Blk σ gr)))) 41 i (nI (smW σ i (Wid σ r))), ?_, Fr.tr h1 (Fr.tr (Fr.wIa rfl) (Fr.wIa rfl)), ?_⟩
    · show bb_X6_layWords_34_2 _ _ _ _ _ = _
      unfold bb_X6_layWords_34_2
      rw [e1, if_neg (nI_ge hi (by omega)), blackW_c gr g c1 hi, bd_some, gd_of (inb_nI (by omega) (by decide)), ltv_eq, ix_nI (by omega), spaceW_c g c2 hi hr, bd_some, gd_of (inb_nI (by omega) (by decide)), ltv_eq, ltv_eq, nI_1]
    · intro w hw
      show (if 40 = 40 ∧ w = i then nI (smW σ i (Blk σ gr)) else N.1 40 w) = _ ∧ (if 41 = 41 ∧ w = i then nI (smW σ i (Wid σ r)) else N.1 41 w) = _
      by_cases e : w = i
      · rw [if_pos ⟨rfl, e⟩, if_pos ⟨rfl, e⟩, e]
        exact ⟨rfl, rfl⟩
      · rw [if_neg (fun q => e q.2), if_neg (fun q => e q.2)]
        exact h2 w (by omega)
  · rintro n N ⟨h1, h2⟩
    have c1 : C4 σ N := hC.fr h1 (by decide)
    have e1 : N.1 34 1 = nI (sW σ) := (show C40 σ N from c1).2.1
    refine ⟨N, ?_, h1, h2⟩
    show bb_X6_layWords_34_2 _ _ _ _ _ = _
    unfold bb_X6_layWords_34_2
    rw [e1, if_pos (nI_le (Nat.le_refl _) (by omega))]
-- the model's words
def LayB (σ : Sg) (gr : Nat) (N : Mm) : Prop := ∀ l, l < sL σ → N.1 109 l = nI (Blk σ gr l) ∧ N.1 110 l = nI (brN (sInk σ l))
theorem layB_m {N : Mm} {σ : Sg} (gr : Nat) (g : Good σ) (hM : SM σ N) : ∃ N', f_X10_layBlacks_67 (nI gr) N = some N' ∧ Fr [(109, 999), (110, 999)] N N' ∧ LayB σ gr N' := by
  have hL := g.1
  refine for_q (fun n i a => b_X10_layBlacks_67_2 n (nI gr) (nI i) a) (sL σ) (fun i a => Fr [(109, 999), (110, 999)] N a ∧ ∀ l, l < i → a.1 109 l = nI (Blk σ gr l) ∧ a.1 110 l = nI (brN (sInk σ l))) (fun o => ∃ N', o = some N' ∧ Fr [(109, 999), (110, 999)] N N' ∧ LayB σ gr N') ?_ ?_ (sL σ) 0 N FU (Nat.zero_add _) (by show sL σ < 200000; omega) ⟨Fr.refl, fun w hw => absurd hw (Nat.not_lt_zero w)⟩
  · rintro n i K hi ⟨h1, h2⟩
    right
    have c1 : SM σ K := hM.fr h1 (by decide)
    have e1 : K.1 70 0 = nI (sL σ) := c1.of.1
    have e2 : (wI K 109 i (nI (Blk σ gr i))).2 72 i = sInk σ i := c1.of.2.2.2.1 i hi
    refine ⟨wI (wI K 109 i (nI (Blk σ gr i))) 110 i (nI (brN (sInk σ i))), ?_, Fr.tr h1 (Fr.tr (Fr.wIa rfl) (Fr.wIa rfl)), ?_⟩
    · show bb_X10_layBlacks_67_2 _ _ _ _ = _
      unfold bb_X10_layBlacks_67_2
      rw [e1, if_neg (nI_ge hi (by omega)), black_m gr g c1 hi, bd_some, gd_of (inb_nI (by omega) (by decide)), ltv_eq, ix_nI (by omega), g_broad (by omega), e2, bd_some, gd_of (inb_nI (by omega) (by decide)), ltv_eq, ltv_eq, nI_1, Brd_nI]
    · intro w hw
      show (if 109 = 109 ∧ w = i then nI (Blk σ gr i) else K.1 109 w) = _ ∧ (if 110 = 110 ∧ w = i then nI (brN (sInk σ i)) else K.1 110 w) = _
      by_cases e : w = i
      · rw [if_pos ⟨rfl, e⟩, if_pos ⟨rfl, e⟩, e]
        exact ⟨rfl, rfl⟩
      · rw [if_neg (fun q => e q.2), if_neg (fun q => e q.2)]
        exact h2 w (by omega)
  · rintro n K ⟨h1, h2⟩
    have c1 : SM σ K := hM.fr h1 (by decide)
    refine ⟨K, ?_, h1, h2⟩
    show bb_X10_layBlacks_67_2 _ _ _ _ = _
    unfold bb_X10_layBlacks_67_2
    rw [c1.of.1, if_pos (nI_le (Nat.le_refl _) (by omega))]
theorem room_m {r l : Nat} (hr : r < 2 ^ 31) (hl : l < 10) : f_X10_roomOf (nI r) (nI l) = some (nI (r / 5 ^ l % 5)) := by
  refine for_q (fun n i a => b_X10_roomOf_4 n (nI l) a (nI i)) l (fun i a => a = nI (r / 5 ^ i)) (fun o => o = some (nI (r / 5 ^ l % 5))) ?_ ?_ l 0 (nI r) FU (Nat.zero_add _) (by show l < 200000; omega) (by rw [Nat.pow_zero, Nat.div_one])
  · rintro n i a hi rfl
    right
    refine ⟨_, ?_, rfl⟩
    show bb_X10_roomOf_4 _ _ _ _ = _
    unfold bb_X10_roomOf_4
    have hd : r / 5 ^ i < 2 ^ 31 := Nat.lt_of_le_of_lt (Nat.div_le_self _ _) hr
    rw [if_neg (nI_ge hi (by omega)), ltv_eq, ltv_eq, nI_1, show (5 : Int32) = nI 5 from rfl, pk_div hd (by decide) (by decide), Nat.div_div_eq_div_mul, ← Nat.pow_succ]
  · rintro n a rfl
    show bb_X10_roomOf_4 _ _ _ _ = _
    unfold bb_X10_roomOf_4
    have hd : r / 5 ^ l < 2 ^ 31 := Nat.lt_of_le_of_lt (Nat.div_le_self _ _) hr
    rw [if_pos (nI_le (Nat.le_refl _) (by omega)), show (5 : Int32) = nI 5 from rfl, rmI_nI hd (by decide) (by decide)]
theorem col_m {N : Mm} {σ : Sg} {w r gr : Nat} (g : Good σ) (hM : SM σ N) (hB : LayB σ gr N) (hw : w < sW σ) (hr : r < 2 ^ 31) (hg : gr ≤ 16) : f_X10_colourOf_67 (nI w) (nI r) N = some (nI (Col σ gr w r)) := by
  have hL := g.1
  have hW := g.2.1
  obtain ⟨_, h8, hwl⟩ := g.2.2.1 w hw
  have s := hM.of
  have sl : N.1 88 w = nI (sLen σ w) := s.2.2.2.2.1.1 w hw
  refine for_q (fun n i (a : Int32 × Int32) => b_X10_colourOf_67_8 n (nI w) (nI r) a.1 a.2 (nI i) N) (sLen σ w) (fun i a => a.1 = nI (smN (fun k => Blk σ gr (sWl σ w k)) i) ∧ a.2 = nI (smN (fun k => Wid σ r (sWl σ w k)) i)) (fun o => o = some (nI (Col σ gr w r))) ?_ ?_ (sLen σ w) 0 (nI 0, nI 0) FU (Nat.zero_add _) (by show sLen σ w < 200000; omega) ⟨rfl, rfl⟩
  · rintro n i ⟨a, b⟩ hi ⟨h1, h2⟩
    have h1' : a = nI (smN (fun k => Blk σ gr (sWl σ w k)) i) := h1
    have h2' : b = nI (smN (fun k => Wid σ r (sWl σ w k)) i) := h2
    right
    refine ⟨(nI (smN (fun k => Blk σ gr (sWl σ w k)) (i + 1)), nI (smN (fun k => Wid σ r (sWl σ w k)) (i + 1))), ?_, rfl, rfl⟩
    show bb_X10_colourOf_67_8 _ _ _ _ _ _ _ = _
    unfold bb_X10_colourOf_67_8
    have hl := hwl i hi
    have w6 : inb (nI w) 6 = true := inb_nI (by omega) (by decide)
    have i8 : inb (nI i) 8 = true := inb_nI (by omega) (by decide)
    have ew : N.1 (81 + w) i = nI (sWl σ w i) := hM.wl hW hw hi
    have l10 : inb (nI (sWl σ w i)) 10 = true := inb_nI (by omega) (by decide)
    rw [gd_of w6, ix_nI (show w < 2 ^ 31 by omega), sl, if_neg (nI_ge hi (by omega)), gd_of w6, gd_of i8, ix_nI (show i < 2 ^ 31 by omega), ew, gd_of l10, ltv_eq, gd_of w6, gd_of i8, gd_of l10, gd_of w6, gd_of i8, room_m hr (by omega), bd_some, ltv_eq, ltv_eq, nI_1, ix_nI (by omega), (hB _ hl).1, (hB _ hl).2, h1', h2', nI_add, nI_add, nI_add]
    rfl
  · rintro n ⟨a, b⟩ ⟨h1, h2⟩
    have h1' : a = nI (smW σ w (Blk σ gr)) := h1
    have h2' : b = nI (smW σ w (Wid σ r)) := h2
    show bb_X10_colourOf_67_8 _ _ _ _ _ _ _ = _
    unfold bb_X10_colourOf_67_8
    have w6 : inb (nI w) 6 = true := inb_nI (by omega) (by decide)
    have b1 := smB_le g hg hw
    have b2 := smR_le (r := r) g hw
    rw [gd_of w6, ix_nI (show w < 2 ^ 31 by omega), sl, if_pos (nI_le (Nat.le_refl _) (by omega)), h1', h2']
    dsimp only
    unfold Col clB
    by_cases e : smW σ w (Wid σ r) = 0
    · rw [e, if_pos nI_0, if_pos rfl]
      rfl
    · rw [if_neg (nI_ne0 (by omega) (by omega)), if_neg e, show (16 : Int32) * nI (smW σ w (Wid σ r)) = nI (16 * smW σ w (Wid σ r)) from pk_mul 16 _, show (1000 : Int32) * nI (smW σ w (Blk σ gr)) = nI (1000 * smW σ w (Blk σ gr)) from pk_mul 1000 _, pk_div (by omega) (by omega) (by omega), gd_of]
      exact decide_eq_true (nI_ne0 (by omega) (by omega))
theorem unv_m {N : Mm} {σ : Sg} {r gr : Nat} (g : Good σ) (hM : SM σ N) (hB : LayB σ gr N) (hr : r < 2 ^ 31) (hg : gr ≤ 16) : f_X10_unevenBy_67 (nI r) N = some (nI (Unv σ gr r)) := by
  have hW := g.2.1
  have s := hM.of
  let f : Nat → Nat := fun w => Col σ gr w r
  have l1 : ∀ w, w < sW σ → f w ≤ 128000 := fun w _ => Col_le hg
  refine for_q (fun n i (a : Int32 × Int32) => b_X10_unevenBy_67_7 n (nI r) a.1 a.2 (nI i) N) (sW σ) (fun i a => a.1 = nI (mxN f i) ∧ a.2 = nI (mnN f i)) (fun o => o = some (nI (Unv σ gr r))) ?_ ?_ (sW σ) 0 (nI 0, nI 0) FU (Nat.zero_add _) (by show sW σ < 200000; omega) ⟨rfl, rfl⟩
  · rintro n i ⟨a, b⟩ hi ⟨h1, h2⟩
    have h1' : a = nI (mxN f i) := h1
    have h2' : b = nI (mnN f i) := h2
    have a1 : mxN f i ≤ 128000 := mxN_le (fun j hj => l1 j (by omega))
    have b1 : mnN f i ≤ 128000 := mnN_b (fun j hj => l1 j (by omega))
    have c1 := l1 i hi
    right
    refine ⟨(nI (mxN f (i + 1)), nI (mnN f (i + 1))), ?_, rfl, rfl⟩
    show bb_X10_unevenBy_67_7 _ _ _ _ _ _ = _
    unfold bb_X10_unevenBy_67_7 bb_X10_unevenBy_67_38
    rw [s.2.1, if_neg (nI_ge hi (by omega)), col_m g hM hB hi hr hg, bd_some]
    show (if nI i = 0 then bb_X10_unevenBy_67_44 _ _ _ _ (nI (f i)) (nI (f i)) N else (if nI (f i) ≤ a then bb_X10_unevenBy_67_44 _ _ _ _ (nI (f i)) a N else bb_X10_unevenBy_67_44 _ _ _ _ (nI (f i)) (nI (f i)) N)) = _
    have k44 : ∀ s0 : Int32, bb_X10_unevenBy_67_44 (b_X10_unevenBy_67_7 n) (nI r) b (nI i) (nI (f i)) s0 N = b_X10_unevenBy_67_7 n (nI r) s0 (nI (mnN f (i + 1))) (nI (i + 1)) N := by
      intro s0
      unfold bb_X10_unevenBy_67_44
      simp only [ltv_eq, nI_1]
      rcases i with _ | i
      · rw [if_pos nI_0]
        rfl
      · rw [if_neg (nI_ne0 (by omega) (by omega)), h2']
        show _ = b_X10_unevenBy_67_7 n (nI r) s0 (nI (min (mnN f (i + 1)) (f (i + 1)))) _ N
        by_cases e : mnN f (i + 1) ≤ f (i + 1)
        · rw [if_pos (nI_le e (by omega)), Nat.min_eq_left e]
        · rw [if_neg (nI_ge (by omega) (by omega)), Nat.min_eq_right (by omega)]
    rw [k44, k44, h1']
    show _ = b_X10_unevenBy_67_7 n (nI r) (nI (max (mxN f i) (f i))) _ _ N
    rcases i with _ | i
    · rw [if_pos nI_0]
      rw [show max (mxN f 0) (f 0) = f 0 from Nat.max_eq_right (Nat.zero_le _)]
    · rw [if_neg (nI_ne0 (by omega) (by omega))]
      by_cases e : f (i + 1) ≤ mxN f (i + 1)
      · rw [if_pos (nI_le e (by omega)), Nat.max_eq_left e]
      · rw [if_neg (nI_ge (by omega) (by omega)), Nat.max_eq_right (by omega)]
  · rintro n ⟨a, b⟩ ⟨h1, h2⟩
    have h1' : a = nI (mxN f (sW σ)) := h1
    have h2' : b = nI (mnN f (sW σ)) := h2
    show bb_X10_unevenBy_67_7 _ _ _ _ _ _ = _
    unfold bb_X10_unevenBy_67_7
    rw [s.2.1, if_pos (nI_le (Nat.le_refl _) (by omega)), h1', h2', nI_sub (mn_mx f _)]
    rfl
theorem isRoom_eq (y z : Int32) : f_X10_isRoom y z = some (if inI y 1 9 && inI z 0 9765624 then 1 else 0) := by
  unfold f_X10_isRoom bb_X10_isRoom_0
  rw [f_inI, bd_some, f_inI, bd_some]
  cases inI y 1 9 <;> cases inI z 0 9765624 <;> rfl
theorem inI_room {z : Int32} (h : inI z 0 9765624 = true) : ∃ r, z = nI r ∧ r ≤ 9765624 := by
  obtain ⟨r, h1, _, h2⟩ := inI_nI (b := 0) (c := 9765624) (by decide) h (by decide)
  exact ⟨r, h1, h2⟩
theorem c_colour {M : Mm} (x y z : Int32) (h : Rel M) : AnsI (fw_L_colour_0_120 x y z M) (f_X10_colour_67 x y z) := by
  obtain ⟨σ, β, hR⟩ := id h
  obtain ⟨g, gB, hC, hM, hb, hm, hT, hI⟩ := id hR
  have s1 := hC.1.of
  have s2 := hM.of
  have hW := g.2.1
  rcases idx x (n := sW σ) (by omega) with ⟨k, hk, rfl⟩ | ⟨ho, hi⟩
  · have p0 : ¬ nI k < 0 := nI_pos (by omega)
    have p1 : nI k < M.1 11 8 := by rw [s1.2.1]; exact nI_lt hk (by omega)
    have q1 : ∀ N : Mm, N.1 70 1 = nI (sW σ) → f_X10_in (nI k) 0 (N.1 70 1 - 1) = some 1 := fun N e => by rw [e, f_inI, inI_lt hk (by omega)]; rfl
    have bad : (inI y 1 9 && inI z 0 9765624) = false → AnsI (fw_L_colour_0_120 (nI k) y z M) (f_X10_colour_67 (nI k) y z) := by
      intro hb
      refine ans_t (c := 2) (w := 0) h (by decide) ?_ ?_
      · cases hy : inI y 1 9 with
        | false => simp only [fw_L_colour_0_120, t_X9_colour_0, if_neg p0, if_pos p1, t_needR_f hy, orx]
        | true =>
          have hz : inI z 0 9765624 = false := by rw [hy] at hb; exact hb
          simp only [fw_L_colour_0_120, t_X9_colour_0, if_neg p0, if_pos p1, t_needR_t hy, f_needR hy, bd_some, t_needR_f hz, orx]
      · simp only [f_X10_colour_67, bb_X10_colour_67_0, ltv_eq, q1 (wI M 67 0 0) s2.2.1, bd_some, i10, if_false, bb_X10_colour_67_27, bad0 (M := wI M 67 0 0) rfl, bd2_some, if_true, isRoom_eq, hb, Bool.false_eq_true, bb_X10_colour_67_48, bad1 (M := wI M 67 0 0) (k := 2) rfl (by decide)]
    cases hy : inI y 1 9 with
    | false => exact bad (by rw [hy]; rfl)
    | true =>
      cases hz : inI z 0 9765624 with
      | false => exact bad (by rw [hy, hz]; rfl)
      | true =>
        obtain ⟨Z, rfl, z1, z9⟩ := inI_19 hy
        obtain ⟨r, rfl, hr⟩ := inI_room hz
        have hg := g.2.2.2.1 Z (by omega)
        obtain ⟨hM', _⟩ := hR.md (nI (Col σ (sSpr σ Z) k r)).toInt64
        obtain ⟨N', e1, e2, e3⟩ := layB_m (sSpr σ Z) g hM'
        refine ans_g (L := [(109, 999), (110, 999)]) (v := nI (Col σ (sSpr σ Z) k r)) h ?_ ⟨N', ?_, e2⟩ rfl rfl (by decide)
        · simp only [fw_L_colour_0_120, t_X9_colour_0, if_neg p0, if_pos p1, t_needR_t hy, f_needR hy, bd_some, t_needR_t hz, f_needR hz, orx, f_L_colour_0_120, bb_L_colour_0_120_0, f_X9_colour_0, bb_X9_colour_0_0, gd_of (inb_nI (n := 10) (show Z < 10 by omega) (by decide)), ix_nI (show Z < 2 ^ 31 by omega), s1.2.2.2.2.2.1 Z (by omega), col_c g hC.2.2.2.2.1 hk (show r < 2 ^ 31 by omega) hg, ltv_eq]
        · have hM2 : SM σ N' := hM'.fr e2 (by decide)
          generalize hN : wI (wJ M 120 0 (nI (Col σ (sSpr σ Z) k r)).toInt64) 67 0 0 = N at hM' e1
          have N0 : N.1 67 0 = 0 := by rw [← hN]; rfl
          simp only [f_X10_colour_67, bb_X10_colour_67_0, ltv_eq, hN, q1 N hM'.of.2.1, bd_some, i10, if_false, bb_X10_colour_67_27, bad0 N0, bd2_some, if_true, isRoom_eq, hy, hz, Bool.and_self, bb_X10_colour_67_48, gd_of (inb_nI (n := 10) (show Z < 10 by omega) (by decide)), ix_nI (show Z < 2 ^ 31 by omega), hM'.of.2.2.2.2.2.1 Z (by omega), e1, col_m g hM2 e3 hk (show r < 2 ^ 31 by omega) hg]
  · refine ans_t (c := 1) (w := 0) h (by decide) ?_ ?_
    · by_cases h0 : x < 0
      · simp only [fw_L_colour_0_120, t_X9_colour_0, if_pos h0]
      · simp only [fw_L_colour_0_120, t_X9_colour_0, if_neg h0, s1.2.1, if_neg (nle_lt' ho h0)]
    · have q0 : f_X10_in x 0 ((wI M 67 0 0).1 70 1 - 1) = some 0 := by
        rw [show (wI M 67 0 0).1 70 1 = nI (sW σ) from s2.2.1, f_inI, hi]
        rfl
      simp only [f_X10_colour_67, bb_X10_colour_67_0, ltv_eq, q0, bd_some, if_true, bb_X10_colour_67_27, bad1 (M := wI M 67 0 0) (k := 1) rfl (by decide), bd2_some, i10, if_false]
theorem c_uneven {M : Mm} (y z : Int32) (h : Rel M) : AnsI (fw_L_uneven_0_120 y z M) (f_X10_uneven_67 y z) := by
  obtain ⟨σ, β, hR⟩ := id h
  obtain ⟨g, gB, hC, hM, hb, hm, hT, hI⟩ := id hR
  have s1 := hC.1.of
  have s2 := hM.of
  have hW := g.2.1
  have bad : (inI y 1 9 && inI z 0 9765624) = false → AnsI (fw_L_uneven_0_120 y z M) (f_X10_uneven_67 y z) := by
    intro hb
    refine ans_t (c := 1) (w := 0) h (by decide) ?_ ?_
    · cases hy : inI y 1 9 with
      | false => simp only [fw_L_uneven_0_120, t_X9_uneven_0, t_needR_f hy, orx]
      | true =>
        have hz : inI z 0 9765624 = false := by rw [hy] at hb; exact hb
        simp only [fw_L_uneven_0_120, t_X9_uneven_0, t_needR_t hy, f_needR hy, bd_some, t_needR_f hz, orx]
    · simp only [f_X10_uneven_67, bb_X10_uneven_67_0, ltv_eq, isRoom_eq, hb, bd_some, Bool.false_eq_true, if_false, if_true, bb_X10_uneven_67_19, bad1 (M := wI M 67 0 0) (k := 1) rfl (by decide), bd2_some, i10]
  cases hy : inI y 1 9 with
  | false => exact bad (by rw [hy]; rfl)
  | true =>
    cases hz : inI z 0 9765624 with
    | false => exact bad (by rw [hy, hz]; rfl)
    | true =>
      obtain ⟨Z, rfl, z1, z9⟩ := inI_19 hy
      obtain ⟨r, rfl, hr⟩ := inI_room hz
      have hg := g.2.2.2.1 Z (by omega)
      obtain ⟨M1, k1, k2, k3⟩ := layW_c (gr := sSpr σ Z) g hC.2.2.2.2.1 (show r < 2 ^ 31 by omega)
      have c4 : C40 σ M1 := hC.2.2.2.2.1.fr k2 (by decide)
      have hR1 : Rl σ β M1 := hR.cls k2 (by decide) (hC.fr k2 (by decide))
      have ue : f_X6_unevenAtLeast_34 (-1) M1 = some (nI (Unv σ (sSpr σ Z) r)) := by
        rw [uneven_c (wd := fun _ => 0) (-1) hW c4.2.1 (fun w hw => ⟨(k3 w hw).1, (k3 w hw).2, smB_le g hg hw, by have := smR_le (r := r) g hw; omega, smBR hg⟩) (Or.inl ⟨rfl, fun _ _ => rfl⟩)]
        rfl
      obtain ⟨hM', _⟩ := hR1.md (nI (Unv σ (sSpr σ Z) r)).toInt64
      obtain ⟨N', e1, e2, e3⟩ := layB_m (sSpr σ Z) g hM'
      refine ans_g (L := [(109, 999), (110, 999)]) (v := nI (Unv σ (sSpr σ Z) r)) ⟨σ, β, hR1⟩ ?_ ⟨N', ?_, e2⟩ rfl rfl (by decide)
      · simp only [fw_L_uneven_0_120, t_X9_uneven_0, t_needR_t hy, f_needR hy, bd_some, t_needR_t hz, f_needR hz, orx, f_L_uneven_0_120, bb_L_uneven_0_120_0, f_X9_uneven_0, bb_X9_uneven_0_0, gd_of (inb_nI (n := 10) (show Z < 10 by omega) (by decide)), ix_nI (show Z < 2 ^ 31 by omega), s1.2.2.2.2.2.1 Z (by omega), f_X6_unevenOf_34, bb_X6_unevenOf_34_0, k1, ue, bd2_some, ltv_eq]
      · have hM2 : SM σ N' := hM'.fr e2 (by decide)
        generalize hN : wI (wJ M1 120 0 (nI (Unv σ (sSpr σ Z) r)).toInt64) 67 0 0 = N at hM' e1
        have N0 : N.1 67 0 = 0 := by rw [← hN]; rfl
        simp only [f_X10_uneven_67, bb_X10_uneven_67_0, ltv_eq, hN, bd_some, i10, if_false, bb_X10_uneven_67_19, bad0 N0, bd2_some, if_true, isRoom_eq, hy, hz, Bool.and_self, gd_of (inb_nI (n := 10) (show Z < 10 by omega) (by decide)), ix_nI (show Z < 2 ^ 31 by omega), hM'.of.2.2.2.2.2.1 Z (by omega), e1, unv_m g hM2 e3 (show r < 2 ^ 31 by omega) hg]
