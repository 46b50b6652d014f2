-- ===== how many bits: the JDK's way =====
def dg (w : Nat) (f : Nat → Nat) : Nat → Nat
  | 0 => 0
  | n + 1 => f 0 + 2 ^ w * dg w (fun k => f (k + 1)) n
theorem dg_cong (w : Nat) : ∀ {n : Nat} {f g : Nat → Nat}, (∀ k, k < n → f k = g k) → dg w f n = dg w g n
  | 0, _, _, _ => rfl
  | n + 1, f, g, h => by
    show f 0 + 2 ^ w * dg w (fun k => f (k + 1)) n = g 0 + 2 ^ w * dg w (fun k => g (k + 1)) n
    rw [h 0 (by omega), dg_cong w (n := n) (fun k hk => h (k + 1) (by omega))]
theorem dg_add (w : Nat) : ∀ (n : Nat) (f g : Nat → Nat), dg w f n + dg w g n = dg w (fun k => f k + g k) n
  | 0, _, _ => rfl
  | n + 1, f, g => by
    show (f 0 + 2 ^ w * dg w (fun k => f (k + 1)) n) + (g 0 + 2 ^ w * dg w (fun k => g (k + 1)) n) = (f 0 + g 0) + 2 ^ w * dg w (fun k => f (k + 1) + g (k + 1)) n
    rw [← dg_add w n (fun k => f (k + 1)) (fun k => g (k + 1)), Nat.mul_add]
    omega
theorem and_digit {w c m A B : Nat} (hc : c < 2 ^ w) (hm : m < 2 ^ w) : (c + 2 ^ w * A) &&& (m + 2 ^ w * B) = (c &&& m) + 2 ^ w * (A &&& B) := by
  have p : 0 < 2 ^ w := Nat.two_pow_pos w
  have h1 : ((c + 2 ^ w * A) &&& (m + 2 ^ w * B)) % 2 ^ w = c &&& m := by
    rw [Nat.and_mod_two_pow, Nat.add_mul_mod_self_left, Nat.add_mul_mod_self_left, Nat.mod_eq_of_lt hc, Nat.mod_eq_of_lt hm]
  have h2 : ((c + 2 ^ w * A) &&& (m + 2 ^ w * B)) / 2 ^ w = A &&& B := by
    rw [Nat.and_div_two_pow, Nat.add_mul_div_left _ _ p, Nat.add_mul_div_left _ _ p, Nat.div_eq_of_lt hc, Nat.div_eq_of_lt hm, Nat.zero_add, Nat.zero_add]
  have h3 := Nat.mod_add_div ((c + 2 ^ w * A) &&& (m + 2 ^ w * B)) (2 ^ w)
  rw [h1, h2] at h3
  exact h3.symm
theorem dg_and (w : Nat) : ∀ (n : Nat) (f g : Nat → Nat), (∀ k, f k < 2 ^ w) → (∀ k, g k < 2 ^ w) → dg w f n &&& dg w g n = dg w (fun k => f k &&& g k) n
  | 0, _, _, _, _ => Nat.and_self 0
  | n + 1, f, g, hf, hg => by
    show (f 0 + 2 ^ w * dg w (fun k => f (k + 1)) n) &&& (g 0 + 2 ^ w * dg w (fun k => g (k + 1)) n) = (f 0 &&& g 0) + 2 ^ w * dg w (fun k => f (k + 1) &&& g (k + 1)) n
    rw [and_digit (hf 0) (hg 0), dg_and w n _ _ (fun k => hf (k + 1)) (fun k => hg (k + 1))]
theorem dg_div (w : Nat) (n : Nat) (f : Nat → Nat) (h : f 0 < 2 ^ w) : dg w f (n + 1) / 2 ^ w = dg w (fun k => f (k + 1)) n := by
  show (f 0 + 2 ^ w * dg w (fun k => f (k + 1)) n) / 2 ^ w = _
  rw [Nat.add_mul_div_left _ _ (Nat.two_pow_pos w), Nat.div_eq_of_lt h, Nat.zero_add]
theorem dg_top (w : Nat) : ∀ (n : Nat) (f : Nat → Nat), f n = 0 → dg w f (n + 1) = dg w f n
  | 0, f, h => by
    show f 0 + 2 ^ w * 0 = 0
    rw [h]
    simp
  | n + 1, f, h => by
    show f 0 + 2 ^ w * dg w (fun k => f (k + 1)) (n + 1) = f 0 + 2 ^ w * dg w (fun k => f (k + 1)) n
    rw [dg_top w n (fun k => f (k + 1)) h]
/-- one digit down, where the row is 0 behind its end -/
theorem dg_shr (w n : Nat) (f : Nat → Nat) (h : f 0 < 2 ^ w) (hz : f (n + 1) = 0) : dg w f (n + 1) / 2 ^ w = dg w (fun k => f (k + 1)) (n + 1) := by
  rw [dg_div w n f h, dg_top w n _ hz]
theorem dg_two (w : Nat) : ∀ (n : Nat) (f : Nat → Nat), dg w f (2 * n) = dg (2 * w) (fun k => f (2 * k) + 2 ^ w * f (2 * k + 1)) n
  | 0, _ => rfl
  | n + 1, f => by
    have ih := dg_two w n (fun k => f (k + 2))
    show f 0 + 2 ^ w * (f 1 + 2 ^ w * dg w (fun k => f (k + 1 + 1)) (2 * n)) = (f (2 * 0) + 2 ^ w * f (2 * 0 + 1)) + 2 ^ (2 * w) * dg (2 * w) (fun k => f (2 * (k + 1)) + 2 ^ w * f (2 * (k + 1) + 1)) n
    have e : dg w (fun k => f (k + 1 + 1)) (2 * n) = dg w (fun k => f (k + 2)) (2 * n) := rfl
    rw [e, ih, Nat.mul_add, ← Nat.mul_assoc, ← Nat.pow_add, ← Nat.two_mul w, Nat.add_assoc]
    rfl
theorem dg_one (N : Nat) : ∀ n, N < 2 ^ n → N = dg 1 (fun k => (N.testBit k).toNat) n := by
  intro n
  induction n generalizing N with
  | zero =>
    intro h
    show N = 0
    simpa using h
  | succ n ih =>
    intro h
    have h2 : N / 2 < 2 ^ n := by
      rw [Nat.pow_succ] at h
      omega
    have e := ih (N / 2) h2
    have t : (fun k => ((N / 2).testBit k).toNat) = (fun k => (N.testBit (k + 1)).toNat) := by
      funext k
      rw [Nat.testBit_succ]
    rw [t] at e
    show N = (N.testBit 0).toNat + 2 ^ 1 * dg 1 (fun k => (N.testBit (k + 1)).toNat) n
    rw [← e, Nat.testBit_zero]
    by_cases h0 : N % 2 = 1
    · simp [h0]
      omega
    · simp [h0]
      omega
def smN (f : Nat → Nat) : Nat → Nat
  | 0 => 0
  | n + 1 => smN f n + f n
theorem smN_two (f : Nat → Nat) : ∀ n, smN f (2 * n) = smN (fun k => f (2 * k) + f (2 * k + 1)) n
  | 0 => rfl
  | n + 1 => by
    show smN f (2 * n) + f (2 * n) + f (2 * n + 1) = smN (fun k => f (2 * k) + f (2 * k + 1)) n + (f (2 * n) + f (2 * n + 1))
    rw [smN_two f n]
    omega
theorem bcn_smN (f : Nat → Bool) : ∀ n, bcn f n = smN (fun k => (f k).toNat) n
  | 0 => rfl
  | n + 1 => by
    show bcn f n + (if f n then 1 else 0) = smN _ n + (f n).toNat
    rw [bcn_smN f n]
    cases f n <;> rfl
def ev (a : Nat) (k : Nat) : Nat := if k % 2 = 0 then a else 0
theorem ev_and {f : Nat → Nat} {a w : Nat} (ha : a = 2 ^ w - 1) (hf : ∀ k, f k < 2 ^ w) (k : Nat) : f k &&& ev a k = if k % 2 = 0 then f k else 0 := by
  unfold ev
  by_cases h : k % 2 = 0
  · rw [if_pos h, if_pos h, ha, Nat.and_two_pow_sub_one_eq_mod, Nat.mod_eq_of_lt (hf k)]
  · rw [if_neg h, if_neg h]
    simp
/-- the even digits alone, in pairs -/
theorem dg_even {w n a : Nat} {f : Nat → Nat} (ha : a = 2 ^ w - 1) (hf : ∀ k, f k < 2 ^ w) : dg w f (2 * n) &&& dg w (ev a) (2 * n) = dg (2 * w) (fun k => f (2 * k)) n := by
  have p : 0 < 2 ^ w := Nat.two_pow_pos w
  rw [dg_and w (2 * n) f (ev a) hf (fun k => by unfold ev; split <;> omega), dg_two]
  apply dg_cong
  intro k hk
  rw [ev_and ha hf, ev_and ha hf, if_pos (by omega), if_neg (by omega)]
  simp
theorem M55 : (6148914691236517205 : Nat) = dg 1 (ev 1) (2 * 32) := by decide +kernel
theorem M33 : (3689348814741910323 : Nat) = dg 2 (ev 3) (2 * 16) := by decide +kernel
theorem M0F : (1085102592571150095 : Nat) = dg 4 (ev 15) (2 * 8) := by decide +kernel
theorem pop_nat {b : Nat → Nat} (hb : ∀ k, b k ≤ 1) (hz : ∀ k, 64 ≤ k → b k = 0) {N N1 N2 N3 N4 N5 N6 : Nat} (e0 : N = dg 1 b 64) (e1 : N1 = N - ((N / 2 ^ 1) &&& 6148914691236517205)) (e2 : N2 = (N1 &&& 3689348814741910323) + ((N1 / 2 ^ 2) &&& 3689348814741910323)) (e3 : N3 = (N2 + N2 / 2 ^ 4) &&& 1085102592571150095) (e4 : N4 = N3 + N3 / 2 ^ 8) (e5 : N5 = N4 + N4 / 2 ^ 16) (e6 : N6 = N5 + N5 / 2 ^ 32) : N6 % 128 = smN b 64 ∧ ((N / 2 ^ 1) &&& 6148914691236517205) ≤ N := by
  -- pairs
  have x0 : (N / 2 ^ 1) &&& 6148914691236517205 = dg 2 (fun k => b (2 * k + 1)) 32 := by
    rw [e0, dg_shr 1 63 b (by have := hb 0; omega) (hz 64 (by omega)), M55]
    exact dg_even (w := 1) (n := 32) (f := fun k => b (k + 1)) rfl (fun k => by have := hb (k + 1); omega)
  have x1 : N = dg 2 (fun k => b (2 * k + 1)) 32 + dg 2 (fun k => b (2 * k) + b (2 * k + 1)) 32 := by
    rw [e0, dg_add]
    refine (dg_two 1 32 b).trans (dg_cong 2 ?_)
    intro k hk
    omega
  have y1 : N1 = dg 2 (fun k => b (2 * k) + b (2 * k + 1)) 32 := by
    rw [e1, x0]
    omega
  -- fours
  have c4 : ∀ k, b (2 * k) + b (2 * k + 1) < 2 ^ 2 := fun k => by have := hb (2 * k); have := hb (2 * k + 1); omega
  have y2 : N2 = dg 4 (fun k => (b (2 * (2 * k)) + b (2 * (2 * k) + 1)) + (b (2 * (2 * k + 1)) + b (2 * (2 * k + 1) + 1))) 16 := by
    rw [e2, y1, dg_shr 2 31 _ (c4 0) (by rw [hz _ (by omega), hz _ (by omega)]), M33]
    rw [dg_even (w := 2) (n := 16) (f := fun k => b (2 * k) + b (2 * k + 1)) rfl c4, dg_even (w := 2) (n := 16) (f := fun k => b (2 * (k + 1)) + b (2 * (k + 1) + 1)) rfl (fun k => c4 (k + 1)), dg_add]
  -- eights
  have c16 : ∀ k, (b (2 * (2 * k)) + b (2 * (2 * k) + 1)) + (b (2 * (2 * k + 1)) + b (2 * (2 * k + 1) + 1)) ≤ 4 := fun k => by
    have := hb (2 * (2 * k)); have := hb (2 * (2 * k) + 1); have := hb (2 * (2 * k + 1)); have := hb (2 * (2 * k + 1) + 1); omega
  generalize hq : (fun k => (b (2 * (2 * k)) + b (2 * (2 * k) + 1)) + (b (2 * (2 * k + 1)) + b (2 * (2 * k + 1) + 1))) = q at y2
  have cq : ∀ k, q k ≤ 4 := fun k => by rw [← hq]; exact c16 k
  have zq : ∀ k, 16 ≤ k → q k = 0 := fun k hk => by
    rw [← hq]
    show (b (2 * (2 * k)) + b (2 * (2 * k) + 1)) + (b (2 * (2 * k + 1)) + b (2 * (2 * k + 1) + 1)) = 0
    rw [hz _ (by omega), hz _ (by omega), hz _ (by omega), hz _ (by omega)]
  have y3 : N3 = dg 8 (fun k => q (2 * k) + q (2 * k + 1)) 8 := by
    rw [e3, y2, dg_shr 4 15 q (by have := cq 0; omega) (zq 16 (by omega)), dg_add, M0F]
    exact dg_even (w := 4) (n := 8) (f := fun k => q k + q (k + 1)) rfl (fun k => by have := cq k; have := cq (k + 1); omega)
  generalize hg : (fun k => q (2 * k) + q (2 * k + 1)) = g at y3
  have cg : ∀ k, g k ≤ 8 := fun k => by rw [← hg]; show q (2 * k) + q (2 * k + 1) ≤ 8; have := cq (2 * k); have := cq (2 * k + 1); omega
  have tot : smN b 64 = smN g 8 := by
    rw [show (64 : Nat) = 2 * 32 from rfl, smN_two b 32, show (32 : Nat) = 2 * 16 from rfl, smN_two _ 16, hq, show (16 : Nat) = 2 * 8 from rfl, smN_two q 8, hg]
  have k0 := cg 0; have k1 := cg 1; have k2 := cg 2; have k3 := cg 3; have k4 := cg 4; have k5 := cg 5; have k6 := cg 6; have k7 := cg 7
  have z3 : N3 = g 0 + 256 * (g 1 + 256 * (g 2 + 256 * (g 3 + 256 * (g 4 + 256 * (g 5 + 256 * (g 6 + 256 * g 7)))))) := by
    rw [y3]
    simp only [dg, Nat.reduceAdd, Nat.reducePow, Nat.mul_zero, Nat.add_zero]
  have t8 : smN g 8 = g 0 + g 1 + g 2 + g 3 + g 4 + g 5 + g 6 + g 7 := by
    simp only [smN]
    omega
  refine ⟨?_, by rw [x0]; omega⟩
  rw [tot, t8]
  generalize g 0 = g0 at *
  generalize g 1 = g1 at *
  generalize g 2 = g2 at *
  generalize g 3 = g3 at *
  generalize g 4 = g4 at *
  generalize g 5 = g5 at *
  generalize g 6 = g6 at *
  generalize g 7 = g7 at *
  clear tot t8 hg hq y3 y2 y1 x1 x0 e0 e1 e2 e3 cg c16 c4 zq cq hb hz
  have z4 : N4 = (g0 + g1) + 256 * ((g1 + g2) + 256 * ((g2 + g3) + 256 * ((g3 + g4) + 256 * ((g4 + g5) + 256 * ((g5 + g6) + 256 * ((g6 + g7) + 256 * g7)))))) := by omega
  have z5 : N5 = (g0 + g1 + g2 + g3) + 256 * ((g1 + g2 + g3 + g4) + 256 * ((g2 + g3 + g4 + g5) + 256 * ((g3 + g4 + g5 + g6) + 256 * ((g4 + g5 + g6 + g7) + 256 * ((g5 + g6 + g7) + 256 * ((g6 + g7) + 256 * g7)))))) := by omega
  have z7 : N5 / 2 ^ 32 = (g4 + g5 + g6 + g7) + 256 * ((g5 + g6 + g7) + 256 * ((g6 + g7) + 256 * g7)) := by omega
  have : ∃ K, N6 = (g0 + g1 + g2 + g3 + g4 + g5 + g6 + g7) + 256 * K := ⟨((g1 + g2 + g3 + g4) + 256 * ((g2 + g3 + g4 + g5) + 256 * ((g3 + g4 + g5 + g6) + 256 * ((g4 + g5 + g6 + g7) + 256 * ((g5 + g6 + g7) + 256 * ((g6 + g7) + 256 * g7)))))) + ((g5 + g6 + g7) + 256 * ((g6 + g7) + 256 * g7)), by rw [e6, z7, z5]; omega⟩
  obtain ⟨K, hK⟩ := this
  rw [hK]
  clear hK z7 z5 z4 z3 e4 e5 e6
  omega
theorem wb_tb (n : Nat) : (lN n).toBitVec = BitVec.ofNat 64 n := rfl
theorem wb_inj {a b : Int64} (h : a.toBitVec = b.toBitVec) : a = b := Int64.toBitVec_inj.mp h
theorem wb_tn {n : Nat} (h : n < 2 ^ 64) : (lN n).toBitVec.toNat = n := by rw [wb_tb, BitVec.toNat_ofNat, Nat.mod_eq_of_lt h]
theorem wb_of (x : Int64) : ∃ n, n < 2 ^ 64 ∧ x = lN n := ⟨x.toBitVec.toNat, x.toBitVec.isLt, wb_inj (by rw [wb_tb]; simp)⟩
theorem wb_of32 (x : Int32) : ∃ n, n < 2 ^ 32 ∧ x = nI n := ⟨x.toBitVec.toNat, x.toBitVec.isLt, Int32.toBitVec_inj.mp (by show _ = BitVec.ofNat 32 _; simp)⟩
theorem wb_cu : ∀ k, k < 64 → ((nI k).toInt64.toUInt64 &&& Int64.toUInt64 63) = UInt64.ofNat k := by decide +kernel
theorem wb_shr {n k : Nat} (hn : n < 2 ^ 64) (hk : k < 64) : ((lN n).toUInt64 >>> ((nI k).toInt64.toUInt64 &&& Int64.toUInt64 63)).toInt64 = lN (n / 2 ^ k) := by
  rw [wb_cu k hk]
  apply wb_inj
  apply BitVec.eq_of_toNat_eq
  show ((lN n).toUInt64 >>> UInt64.ofNat k).toNat = (BitVec.ofNat 64 _).toNat
  have h1 : (UInt64.ofNat k).toNat = k := by
    show (BitVec.ofNat 64 k).toNat = k
    rw [BitVec.toNat_ofNat, Nat.mod_eq_of_lt (by omega)]
  have h2 : (lN n).toUInt64.toNat = n := wb_tn hn
  rw [UInt64.toNat_shiftRight, h1, h2, Nat.mod_eq_of_lt hk, Nat.shiftRight_eq_div_pow, BitVec.toNat_ofNat, Nat.mod_eq_of_lt (Nat.lt_of_le_of_lt (Nat.div_le_self _ _) hn)]
theorem fb_andL (a b : Nat) : lN a &&& lN b = lN (a &&& b) := by
  apply Int64.toBitVec_inj.1
  show BitVec.ofNat 64 a &&& BitVec.ofNat 64 b = BitVec.ofNat 64 (a &&& b)
  apply BitVec.eq_of_getLsbD_eq
  intro i hi
  simp [hi]
theorem fa_and (a b : Nat) : nI a &&& nI b = nI (a &&& b) := by
  apply Int32.toBitVec_inj.1
  show BitVec.ofNat 32 a &&& BitVec.ofNat 32 b = BitVec.ofNat 32 (a &&& b)
  apply BitVec.eq_of_getLsbD_eq
  intro i hi
  simp [hi]
theorem fa_or (a b : Nat) : nI a ||| nI b = nI (a ||| b) := by
  apply Int32.toBitVec_inj.1
  show BitVec.ofNat 32 a ||| BitVec.ofNat 32 b = BitVec.ofNat 32 (a ||| b)
  apply BitVec.eq_of_getLsbD_eq
  intro i hi
  simp [hi]
theorem fa_mask (n k : Nat) : nI n &&& nI (2 ^ k - 1) = nI (n % 2 ^ k) := by rw [fa_and, Nat.and_two_pow_sub_one_eq_mod]
theorem lb_lN {N : Nat} {k : Nat} (hk : k < 64) : lb (lN N) k = N.testBit k := by
  show (BitVec.ofNat 64 N).getLsbD k = _
  rw [BitVec.getLsbD_ofNat]
  simp [hk]
theorem f_bits (x : Int64) : f_J13_bitCount_95d88 x = some (nI (pop x)) := by
  obtain ⟨N, hN, rfl⟩ := wb_of x
  unfold f_J13_bitCount_95d88 bb_J13_bitCount_95d88_0
  simp only [ltv_eq]
  obtain ⟨hp, hle⟩ := pop_nat (b := fun k => (N.testBit k).toNat) (fun k => by cases N.testBit k <;> decide) (fun k hk => by
    show (N.testBit k).toNat = 0
    rw [Nat.testBit_lt_two_pow (Nat.lt_of_lt_of_le hN (Nat.pow_le_pow_right (by decide) hk))]
    rfl) (dg_one N 64 hN) rfl rfl rfl rfl rfl rfl
  have u : ∀ {a : Nat} (k : Nat), a < 2 ^ 64 → k < 64 → ushL (lN a) (nI k) = lN (a / 2 ^ k) := fun k ha hk => wb_shr ha hk
  have e1 : lN N - ((ushL (lN N) 1) &&& 6148914691236517205) = lN (N - ((N / 2 ^ 1) &&& 6148914691236517205)) := by
    rw [show ushL (lN N) 1 = lN (N / 2 ^ 1) from u 1 hN (by decide), show (6148914691236517205 : Int64) = lN 6148914691236517205 from rfl, fb_andL, lN_sub hle]
  rw [e1]
  generalize hN1 : N - ((N / 2 ^ 1) &&& 6148914691236517205) = N1 at hp ⊢
  have b1 : N1 < 2 ^ 64 := by omega
  have e2 : (lN N1 &&& 3689348814741910323) + ((ushL (lN N1) 2) &&& 3689348814741910323) = lN ((N1 &&& 3689348814741910323) + ((N1 / 2 ^ 2) &&& 3689348814741910323)) := by
    rw [show ushL (lN N1) 2 = lN (N1 / 2 ^ 2) from u 2 b1 (by decide), show (3689348814741910323 : Int64) = lN 3689348814741910323 from rfl, fb_andL, fb_andL, lN_add]
  rw [e2]
  have b2 : (N1 &&& 3689348814741910323) + ((N1 / 2 ^ 2) &&& 3689348814741910323) < 2 ^ 64 := by
    have q1 : N1 &&& 3689348814741910323 ≤ 3689348814741910323 := Nat.and_le_right
    have q2 : (N1 / 2 ^ 2) &&& 3689348814741910323 ≤ 3689348814741910323 := Nat.and_le_right
    omega
  generalize hN2 : (N1 &&& 3689348814741910323) + ((N1 / 2 ^ 2) &&& 3689348814741910323) = N2 at hp b2 ⊢
  have e3 : (lN N2 + (ushL (lN N2) 4)) &&& 1085102592571150095 = lN ((N2 + N2 / 2 ^ 4) &&& 1085102592571150095) := by
    rw [show ushL (lN N2) 4 = lN (N2 / 2 ^ 4) from u 4 b2 (by decide), show (1085102592571150095 : Int64) = lN 1085102592571150095 from rfl, lN_add, fb_andL]
  rw [e3]
  have b3 : (N2 + N2 / 2 ^ 4) &&& 1085102592571150095 ≤ 1085102592571150095 := Nat.and_le_right
  generalize hN3 : (N2 + N2 / 2 ^ 4) &&& 1085102592571150095 = N3 at hp b3 ⊢
  have e4 : lN N3 + ushL (lN N3) 8 = lN (N3 + N3 / 2 ^ 8) := by
    rw [show ushL (lN N3) 8 = lN (N3 / 2 ^ 8) from u 8 (by omega) (by decide), lN_add]
  rw [e4]
  have e5 : lN (N3 + N3 / 2 ^ 8) + ushL (lN (N3 + N3 / 2 ^ 8)) 16 = lN ((N3 + N3 / 2 ^ 8) + (N3 + N3 / 2 ^ 8) / 2 ^ 16) := by
    rw [show ushL (lN (N3 + N3 / 2 ^ 8)) 16 = lN ((N3 + N3 / 2 ^ 8) / 2 ^ 16) from u 16 (by omega) (by decide), lN_add]
  rw [e5]
  generalize hN5 : (N3 + N3 / 2 ^ 8) + (N3 + N3 / 2 ^ 8) / 2 ^ 16 = N5 at hp ⊢
  have e6 : lN N5 + ushL (lN N5) 32 = lN (N5 + N5 / 2 ^ 32) := by
    rw [show ushL (lN N5) 32 = lN (N5 / 2 ^ 32) from u 32 (by omega) (by decide), lN_add]
  rw [e6, lN_i, show nI (N5 + N5 / 2 ^ 32) &&& 127 = nI ((N5 + N5 / 2 ^ 32) % 2 ^ 7) from fa_mask _ 7, show (2 : Nat) ^ 7 = 128 from rfl, hp]
  congr 2
  unfold pop
  rw [bcn_smN]
  have : ∀ n, n ≤ 64 → smN (fun k => (N.testBit k).toNat) n = smN (fun k => (lb (lN N) k).toNat) n := by
    intro n
    induction n with
    | zero => intro _; rfl
    | succ n ih =>
      intro hn
      show smN _ n + (N.testBit n).toNat = smN _ n + (lb (lN N) n).toNat
      rw [ih (by omega), lb_lN (by omega)]
  exact this 64 (Nat.le_refl _)
