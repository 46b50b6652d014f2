-- ===== feed =====
theorem sh31 : ∀ k, k < 32 → ((nI k &&& 31).toBitVec.smod 32).toNat = k ∧ (((nI k).toUInt32 &&& Int32.toUInt32 31).toBitVec % 32).toNat = k := by decide +kernel
theorem g255 : ∀ i, i < 32 → (255 : Int32).toBitVec.getLsbD i = decide (i < 8) := by decide +kernel
theorem byte_eq (x : Int32) {k : Nat} (hk : k ≤ 24) : ushI x (nI k) &&& 255 = shrI x (nI k) &&& 255 := by
  obtain ⟨h1, h2⟩ := sh31 k (by omega)
  apply Int32.toBitVec_inj.mp
  apply BitVec.eq_of_getLsbD_eq
  intro i hi
  rw [Int32.toBitVec_and, Int32.toBitVec_and, BitVec.getLsbD_and, BitVec.getLsbD_and, g255 i hi]
  by_cases h8 : i < 8
  · have e1 : (ushI x (nI k)).toBitVec.getLsbD i = x.toBitVec.getLsbD (k + i) := by
      show (x.toUInt32 >>> ((nI k).toUInt32 &&& Int32.toUInt32 31)).toBitVec.getLsbD i = x.toUInt32.toBitVec.getLsbD (k + i)
      rw [UInt32.toBitVec_shiftRight]
      show (x.toUInt32.toBitVec >>> (((nI k).toUInt32 &&& Int32.toUInt32 31).toBitVec % 32).toNat).getLsbD i = _
      rw [h2, BitVec.getLsbD_ushiftRight]
    have e2 : (shrI x (nI k)).toBitVec.getLsbD i = x.toBitVec.getLsbD (k + i) := by
      unfold shrI
      rw [Int32.toBitVec_shiftRight]
      show (x.toBitVec.sshiftRight ((nI k &&& 31).toBitVec.smod 32).toNat).getLsbD i = _
      rw [h1, BitVec.getLsbD_sshiftRight]
      have : k + i < 32 := by omega
      simp [hi, this]
    rw [e1, e2]
  · simp [h8]
/-- byte j of five numbers -/
def fdB (v : Nat → Int32) (j : Nat) : Int32 := shrI (v (j / 4)) (nI (24 - 8 * (j % 4))) &&& 255
/-- j bytes fed behind b, into cell c, the number of them at place p of cell q -/
def Fed (v : Nat → Int32) (q p c b j : Nat) (M0 M : Mm) : Prop := Fr [(q, p), (c, 999)] M0 M ∧ M.1 q p = nI (b + j) ∧ ∀ i, M.1 c i = if b ≤ i ∧ i < b + j then fdB v (i - b) else M0.1 c i
theorem Fed.step {v : Nat → Int32} {q p c b j : Nat} {M0 M : Mm} (h : Fed v q p c b j M0 M) (hq : q ≠ c) : Fed v q p c b (j + 1) M0 (wI (wI M c (b + j) (fdB v j)) q p (nI (b + (j + 1)))) := by
  obtain ⟨h1, h2, h3⟩ := h
  refine ⟨Fr.tr h1 (Fr.tr (Fr.wrI ?_) (Fr.wrI ?_)), wI_at, ?_⟩
  · unfold inW
    simp
  · unfold inW
    simp
  · intro i
    show (if c = q ∧ i = p then nI (b + (j + 1)) else (if c = c ∧ i = b + j then fdB v j else M.1 c i)) = _
    rw [if_neg (fun z => hq z.1.symm)]
    by_cases e : i = b + j
    · rw [if_pos ⟨rfl, e⟩, if_pos (by omega), e, Nat.add_sub_cancel_left]
    · rw [if_neg (fun z => e z.2), h3 i]
      by_cases e2 : b ≤ i ∧ i < b + j
      · rw [if_pos e2, if_pos (by omega)]
      · rw [if_neg e2, if_neg (by omega)]
theorem put_s (n : Nat) {v : Nat → Int32} {b m t : Nat} {M0 M : Mm} (ht : t < 4) (hb : b + (4 * m + t) < 500) (h : Fed v 1 2 2 b (4 * m + t) M0 M) : b_X8_putNumber_1_3 (n + 1) (v m) (nI (24 - 8 * t)) M = b_X8_putNumber_1_3 n (v m) (nI (24 - 8 * t) + -8) (wI (wI M 2 (b + (4 * m + t)) (fdB v (4 * m + t))) 1 2 (nI (b + (4 * m + t + 1)))) := by
  show bb_X8_putNumber_1_3 _ _ _ _ = _
  unfold bb_X8_putNumber_1_3
  have e : fdB v (4 * m + t) = ushI (v m) (nI (24 - 8 * t)) &&& 255 := by
    unfold fdB
    rw [show (4 * m + t) / 4 = m by omega, show (4 * m + t) % 4 = t by omega, byte_eq _ (by omega)]
  rw [if_neg (nI_pos (by omega)), h.2.1, if_neg (show ¬ (500 : Int32) ≤ nI (b + (4 * m + t)) from nI_ge (b := 500) hb (by decide)), gd_of (inb_nI hb (by decide)), ltv_eq, ltv_eq, ltv_eq, ix_nI (by omega), ← e, show (wI M 2 (b + (4 * m + t)) (fdB v (4 * m + t))).1 1 2 = nI (b + (4 * m + t)) from h.2.1, nI_1]
  rfl
theorem put_c {v : Nat → Int32} {b m : Nat} {M0 M : Mm} (hb : b + (4 * m + 4) ≤ 500) (h : Fed v 1 2 2 b (4 * m) M0 M) : Gv (Fed v 1 2 2 b (4 * m + 4) M0) (f_X8_putNumber_1 (v m) M) := by
  have h0 : Fed v 1 2 2 b (4 * m + 0) M0 M := h
  have h1 := h0.step (by decide)
  have h2 := h1.step (by decide)
  have h3 := h2.step (by decide)
  have h4 := h3.step (by decide)
  have a1 : nI (24 - 8 * 0) + -8 = nI (24 - 8 * 1) := by decide
  have a2 : nI (24 - 8 * 1) + -8 = nI (24 - 8 * 2) := by decide
  have a3 : nI (24 - 8 * 2) + -8 = nI (24 - 8 * 3) := by decide
  have key : ∀ n, Gv (Fed v 1 2 2 b (4 * m + 4) M0) (b_X8_putNumber_1_3 (n + 5) (v m) (nI (24 - 8 * 0)) M) := by
    intro n
    rw [put_s (n + 4) (by decide) (by omega) h0, a1, put_s (n + 3) (t := 1) (by decide) (by omega) h1, a2, put_s (n + 2) (t := 2) (by decide) (by omega) h2, a3, put_s (n + 1) (t := 3) (by decide) (by omega) h3]
    generalize wI (wI _ 2 (b + (4 * m + 3)) _) 1 2 _ = K at h4 ⊢
    refine ⟨K, ?_, h4⟩
    show bb_X8_putNumber_1_3 _ _ _ _ = _
    unfold bb_X8_putNumber_1_3
    rw [if_pos (by decide)]
  exact key 199995
def fiv (a b c d e : Int32) : Nat → Int32
  | 0 => a
  | 1 => b
  | 2 => c
  | 3 => d
  | _ => e
theorem feed_c {M : Mm} (a b c d e : Int32) {n : Nat} (hn : n + 20 ≤ 500) (h : M.1 1 2 = nI n) : ∃ M1, f_X9_feed_0 a b c d e M = some (nI (n + 20), M1) ∧ Fed (fiv a b c d e) 1 2 2 n 20 M M1 := by
  have h0 : Fed (fiv a b c d e) 1 2 2 n (4 * 0) M M := ⟨Fr.refl, h, fun i => by rw [if_neg (by omega)]⟩
  obtain ⟨M1, e1, h1⟩ := put_c (m := 0) (by omega) h0
  obtain ⟨M2, e2, h2⟩ := put_c (m := 1) (by omega) h1
  obtain ⟨M3, e3, h3⟩ := put_c (m := 2) (by omega) h2
  obtain ⟨M4, e4, h4⟩ := put_c (m := 3) (by omega) h3
  obtain ⟨M5, e5, h5⟩ := put_c (m := 4) (by omega) h4
  refine ⟨M5, ?_, h5⟩
  unfold f_X9_feed_0 bb_X9_feed_0_0
  rw [h, show nI n + 20 = nI (n + 20) from nI_add n 20, if_pos (show nI (n + 20) ≤ (500 : Int32) from nI_le (b := 500) hn (by decide)), show f_X8_putNumber_1 a M = some M1 from e1, bd_some, show f_X8_putNumber_1 b M1 = some M2 from e2, bd_some, show f_X8_putNumber_1 c M2 = some M3 from e3, bd_some, show f_X8_putNumber_1 d M3 = some M4 from e4, bd_some, show f_X8_putNumber_1 e M4 = some M5 from e5, bd_some, h5.2.1]
theorem feed_m {N : Mm} (a b c d e : Int32) {n : Nat} (hn : n + 20 ≤ 500) (h : N.1 67 1 = nI n) : ∃ N1, b_X10_feed_67_23 FU a b c d e 0 N = some (nI (n + 20), N1) ∧ Fed (fiv a b c d e) 67 1 68 n 20 N N1 := by
  refine for_q (fun m k K => b_X10_feed_67_23 m a b c d e (nI k) K) 20 (fun k K => Fed (fiv a b c d e) 67 1 68 n k N K) (fun o => ∃ N1, o = some (nI (n + 20), N1) ∧ Fed (fiv a b c d e) 67 1 68 n 20 N N1) ?_ ?_ 20 0 N FU rfl (by decide) ⟨Fr.refl, h, fun i => by rw [if_neg (by omega)]⟩
  · intro m k K hk hI
    right
    refine ⟨_, ?_, hI.step (by decide)⟩
    have k76 : bb_X10_feed_67_76 (b_X10_feed_67_23 m) a b c d e (nI k) (fiv a b c d e (k / 4)) K = b_X10_feed_67_23 m a b c d e (nI (k + 1)) (wI (wI K 68 (n + k) (fdB (fiv a b c d e) k)) 67 1 (nI (n + (k + 1)))) := by
      unfold bb_X10_feed_67_76
      rw [hI.2.1, gd_of (inb_nI (by omega) (by decide)), ltv_eq, ltv_eq, ltv_eq, nI_1, ix_nI (by omega), show (4 : Int32) = nI 4 from rfl, rmI_nI (by omega) (by decide) (by decide), show (8 : Int32) * nI (k % 4) = nI (8 * (k % 4)) from pk_mul 8 _, show (24 : Int32) = nI 24 from rfl, nI_sub (by omega)]
      show b_X10_feed_67_23 m a b c d e (nI (k + 1)) (wI (wI K 68 (n + k) (fdB (fiv a b c d e) k)) 67 1 ((wI K 68 (n + k) (fdB (fiv a b c d e) k)).1 67 1 + 1)) = _
      rw [show (wI K 68 (n + k) (fdB (fiv a b c d e) k)).1 67 1 = nI (n + k) from hI.2.1, nI_1]
      rfl
    rw [← k76]
    show bb_X10_feed_67_23 _ _ _ _ _ _ _ _ = _
    unfold bb_X10_feed_67_23
    rw [if_neg (show ¬ (20 : Int32) ≤ nI k from nI_ge hk (by decide))]
    by_cases q4 : k < 4
    · rw [if_neg (show ¬ (4 : Int32) ≤ nI k from nI_ge q4 (by decide)), show k / 4 = 0 by omega]
      rfl
    · rw [if_pos (show (4 : Int32) ≤ nI k from nI_le (a := 4) (by omega) (by omega))]
      by_cases q8 : k < 8
      · rw [if_neg (show ¬ (8 : Int32) ≤ nI k from nI_ge q8 (by decide)), show k / 4 = 1 by omega]
        rfl
      · rw [if_pos (show (8 : Int32) ≤ nI k from nI_le (a := 8) (by omega) (by omega))]
        by_cases q12 : k < 12
        · rw [if_neg (show ¬ (12 : Int32) ≤ nI k from nI_ge q12 (by decide)), show k / 4 = 2 by omega]
          rfl
        · rw [if_pos (show (12 : Int32) ≤ nI k from nI_le (a := 12) (by omega) (by omega))]
          by_cases q16 : k < 16
          · rw [if_neg (show ¬ (16 : Int32) ≤ nI k from nI_ge q16 (by decide)), show k / 4 = 3 by omega]
            rfl
          · rw [if_pos (show (16 : Int32) ≤ nI k from nI_le (a := 16) (by omega) (by omega)), show k / 4 = 4 by omega]
            rfl
  · intro m K hI
    refine ⟨K, ?_, hI⟩
    show bb_X10_feed_67_23 _ _ _ _ _ _ _ _ = _
    unfold bb_X10_feed_67_23
    rw [if_pos (by decide), hI.2.1]
theorem c_feed {M : Mm} (a b c d e : Int32) (h : Rel M) : ∃ v M1 M2, f_X9_feed_0 a b c d e M = some (v, M1) ∧ f_X10_feed_67 a b c d e M1 = some (v, M2) ∧ Rel M2 := by
  obtain ⟨σ, β, hR⟩ := id h
  obtain ⟨g, gB, hC, hM, hb, hm, hT, hI⟩ := id hR
  obtain ⟨⟨n, hn, t1⟩, t2, t3, t4⟩ := hT.of
  have t1' : M.1 1 2 = nI n := t1
  have t2' : M.1 67 1 = nI n := t2.trans t1
  by_cases hf : n + 20 ≤ 500
  · obtain ⟨M1, e1, f1⟩ := feed_c a b c d e hf t1'
    obtain ⟨M2, e2, f2⟩ := feed_m (N := wI M1 67 0 0) a b c d e hf ((f1.1 67 1 rfl).1.trans t2')
    have ff1 : Fr [(1, 2), (2, 999), (67, 0), (67, 1), (68, 999)] M (wI M1 67 0 0) := Fr.tr (Fr.sub f1.1 (by decide)) (Fr.wrI rfl)
    have ff : Fr [(1, 2), (2, 999), (67, 0), (67, 1), (68, 999)] M M2 := Fr.tr ff1 (Fr.sub f2.1 (by decide))
    refine ⟨nI (n + 20), M1, M2, e1, ?_, ?_⟩
    · unfold f_X10_feed_67 bb_X10_feed_67_0
      rw [ltv_eq, show (wI M1 67 0 0).1 67 1 = nI n from (f1.1 67 1 rfl).1.trans t2', show nI n + 20 = nI (n + 20) from nI_add n 20, if_pos (show nI (n + 20) ≤ (500 : Int32) from nI_le (b := 500) hf (by decide)), e2]
    · refine ⟨σ, β, g, gB, hC.fr ff (by decide), hM.fr ff (by decide), hb.fr ff (by decide), hm.fr ff (by decide), ?_, hI.fr ff (by decide)⟩
      have k12 : M2.1 1 2 = nI (n + 20) := ((f2.1 1 2 rfl).1).trans f1.2.1
      refine ⟨⟨n + 20, hf, k12⟩, ?_, ?_, ?_⟩
      · exact f2.2.1.trans k12.symm
      · intro i hi
        have p1 : M2.1 68 i = if n ≤ i ∧ i < n + 20 then fdB (fiv a b c d e) (i - n) else (wI M1 67 0 0).1 68 i := f2.2.2 i
        have p2 : M1.1 2 i = if n ≤ i ∧ i < n + 20 then fdB (fiv a b c d e) (i - n) else M.1 2 i := f1.2.2 i
        have p3 : M2.1 2 i = M1.1 2 i := (f2.1 2 i rfl).1
        have p4 : M1.1 68 i = M.1 68 i := (f1.1 68 i rfl).1
        have p5 : M.1 68 i = M.1 2 i := t3 i hi
        show M2.1 68 i = M2.1 2 i
        rw [p1, p3, p2]
        by_cases q : n ≤ i ∧ i < n + 20
        · rw [if_pos q, if_pos q]
        · rw [if_neg q, if_neg q]
          exact p4.trans p5
      · show M2.1 67 3 = M2.1 0 2
        rw [(ff 67 3 rfl).1, (ff 0 2 rfl).1]
        exact t4
  · refine ⟨-1, M, wI M 67 0 0, ?_, ?_, h.fr (Fr.wrI (L := [(67, 0)]) rfl) d67⟩
    · unfold f_X9_feed_0 bb_X9_feed_0_0
      rw [t1', show nI n + 20 = nI (n + 20) from nI_add n 20, if_neg (show ¬ nI (n + 20) ≤ (500 : Int32) from nI_ge (a := 500) (by omega) (by omega))]
    · unfold f_X10_feed_67 bb_X10_feed_67_0
      rw [ltv_eq, show (wI M 67 0 0).1 67 1 = nI n from t2', show nI n + 20 = nI (n + 20) from nI_add n 20, if_neg (show ¬ nI (n + 20) ≤ (500 : Int32) from nI_ge (a := 500) (by omega) (by omega))]
