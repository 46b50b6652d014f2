-- ===== sets of small numbers as bits =====
theorem nI_bit (n i : Nat) : (nI n).toBitVec.getLsbD i = (decide (i < 32) && n.testBit i) := by
  show (BitVec.ofNat 32 n).getLsbD i = _
  rw [BitVec.getLsbD_ofNat]
theorem i_ext {x y : Int32} (h : ∀ i, i < 32 → x.toBitVec.getLsbD i = y.toBitVec.getLsbD i) : x = y := Int32.toBitVec_inj.mp (BitVec.eq_of_getLsbD_eq (fun i hi => h i hi))
theorem im1_bit : ∀ i, i < 32 → (-1 : Int32).toBitVec.getLsbD i = true := by decide +kernel
/-- a without b -/
def andn (a b : Nat) : Nat := a ^^^ (a &&& b)
theorem andn_bit (a b i : Nat) : (andn a b).testBit i = (a.testBit i && !b.testBit i) := by
  unfold andn
  rw [Nat.testBit_xor, Nat.testBit_and]
  cases a.testBit i <;> cases b.testBit i <;> rfl
theorem nI_andn (a b : Nat) : nI a &&& (nI b ^^^ -1) = nI (andn a b) := by
  apply i_ext
  intro i hi
  rw [Int32.toBitVec_and, Int32.toBitVec_xor, BitVec.getLsbD_and, BitVec.getLsbD_xor, nI_bit, nI_bit, nI_bit, im1_bit i hi, andn_bit]
  cases a.testBit i <;> cases b.testBit i <;> simp [hi]
theorem shI_c : ∀ k, k < 31 → shI 1 (nI k) = nI (2 ^ k) := by decide +kernel
theorem pow2_lt {k m : Nat} (h : k < m) : 2 ^ k < 2 ^ m := Nat.pow_lt_pow_right (by decide) h
theorem nI_or (a b : Nat) : nI a ||| nI b = nI (a ||| b) := fa_or a b
theorem nI_and (a b : Nat) : nI a &&& nI b = nI (a &&& b) := fa_and a b
theorem andn_lt {a b n : Nat} (h : a < 2 ^ n) : andn a b < 2 ^ n := by
  apply Nat.lt_pow_two_of_testBit
  intro i hi
  rw [andn_bit, Nat.testBit_lt_two_pow (Nat.lt_of_lt_of_le h (Nat.pow_le_pow_right (by decide) hi))]
  rfl
theorem or_lt {a b n : Nat} (h : a < 2 ^ n) (h2 : b < 2 ^ n) : a ||| b < 2 ^ n := Nat.or_lt_two_pow h h2
theorem and_pow {a k : Nat} : (a &&& 2 ^ k = 0) ↔ a.testBit k = false := by
  constructor
  · intro h
    have := congrArg (fun z => Nat.testBit z k) h
    simp only [Nat.testBit_and, Nat.testBit_two_pow_self, Bool.and_true, Nat.zero_testBit] at this
    exact this
  · intro h
    apply Nat.eq_of_testBit_eq
    intro i
    rw [Nat.testBit_and, Nat.zero_testBit, Nat.testBit_two_pow]
    by_cases e : k = i
    · subst e
      rw [h]
      rfl
    · simp [e]
theorem bitT {a k : Nat} (ha : a < 2 ^ 31) (hk : k < 31) : (nI a &&& shI 1 (nI k) = 0) ↔ a.testBit k = false := by
  rw [shI_c k hk, nI_and, ← and_pow]
  exact nI_eq (Nat.lt_of_le_of_lt Nat.and_le_left ha) (by decide)
/-- the numbers below n with P, as bits -/
def mkB (P : Nat → Bool) : Nat → Nat
  | 0 => 0
  | n + 1 => if P n then mkB P n ||| 2 ^ n else mkB P n
theorem mkB_bit (P : Nat → Bool) : ∀ n i, (mkB P n).testBit i = (decide (i < n) && P i)
  | 0, i => by
    show Nat.testBit 0 i = _
    simp
  | n + 1, i => by
    have ih := mkB_bit P n i
    unfold mkB
    by_cases e : i = n
    · subst e
      cases hp : P i with
      | true => simp [Nat.testBit_or, Nat.testBit_two_pow]
      | false =>
        rw [if_neg (by decide), ih]
        simp
    · have h1 : decide (i < n + 1) = decide (i < n) := by
        congr 1
        apply propext
        omega
      have h2 : ¬ n = i := fun q => e q.symm
      rw [h1]
      cases hp : P n with
      | true => rw [if_pos rfl, Nat.testBit_or, ih, Nat.testBit_two_pow]; simp [h2]
      | false => rw [if_neg (by decide), ih]
theorem mkB_lt (P : Nat → Bool) (n : Nat) : mkB P n < 2 ^ n := by
  apply Nat.lt_pow_two_of_testBit
  intro i hi
  rw [mkB_bit]
  have : ¬ i < n := by omega
  simp [this]
-- ===== sums over sets =====
def sB : Nat → (Nat → Nat) → Nat
  | 0, f => f 0
  | m + 1, f => sB m f + sB m (fun A => f (A + 2 ^ m))
theorem sB_cong : ∀ {m : Nat} {f g : Nat → Nat}, (∀ A, A < 2 ^ m → f A = g A) → sB m f = sB m g
  | 0, f, g, h => h 0 (by decide)
  | m + 1, f, g, h => by
    have e : 2 ^ (m + 1) = 2 ^ m + 2 ^ m := by rw [Nat.pow_succ]; omega
    show sB m f + sB m (fun A => f (A + 2 ^ m)) = sB m g + sB m (fun A => g (A + 2 ^ m))
    rw [sB_cong (fun A hA => h A (by omega)), sB_cong (f := fun A => f (A + 2 ^ m)) (g := fun A => g (A + 2 ^ m)) (fun A hA => h _ (by omega))]
theorem sB_add : ∀ (m : Nat) (f g : Nat → Nat), sB m (fun A => f A + g A) = sB m f + sB m g
  | 0, _, _ => rfl
  | m + 1, f, g => by
    show sB m (fun A => f A + g A) + sB m (fun A => f (A + 2 ^ m) + g (A + 2 ^ m)) = (sB m f + sB m (fun A => f (A + 2 ^ m))) + (sB m g + sB m (fun A => g (A + 2 ^ m)))
    rw [sB_add m f g, sB_add m (fun A => f (A + 2 ^ m)) (fun A => g (A + 2 ^ m))]
    omega
theorem sB_0 : ∀ m, sB m (fun _ => 0) = 0
  | 0 => rfl
  | m + 1 => by
    show sB m (fun _ => 0) + sB m (fun _ => 0) = 0
    rw [sB_0 m]
theorem sB_comm (n : Nat) : ∀ (m : Nat) (F : Nat → Nat → Nat), sB m (fun A => sB n (fun B => F A B)) = sB n (fun B => sB m (fun A => F A B))
  | 0, _ => rfl
  | m + 1, F => by
    show sB m (fun A => sB n (F A)) + sB m (fun A => sB n (F (A + 2 ^ m))) = sB n (fun B => sB m (fun A => F A B) + sB m (fun A => F (A + 2 ^ m) B))
    rw [sB_add, sB_comm n m F, sB_comm n m (fun A => F (A + 2 ^ m))]
theorem sB_smN {N : Nat} : ∀ (m : Nat) (F : Nat → Nat → Nat), sB m (fun A => smN (fun i => F A i) N) = smN (fun i => sB m (fun A => F A i)) N
  | 0, _ => rfl
  | m + 1, F => by
    show sB m (fun A => smN (F A) N) + sB m (fun A => smN (F (A + 2 ^ m)) N) = smN (fun i => sB m (fun A => F A i) + sB m (fun A => F (A + 2 ^ m) i)) N
    rw [smN_add, sB_smN m F, sB_smN m (fun A => F (A + 2 ^ m))]
theorem smN_split (f : Nat → Nat) (a : Nat) : ∀ b, smN f (a + b) = smN f a + smN (fun i => f (a + i)) b
  | 0 => rfl
  | b + 1 => by
    show smN f (a + b) + f (a + b) = smN f a + (smN (fun i => f (a + i)) b + f (a + b))
    rw [smN_split f a b]
    omega
theorem smN_sB : ∀ (m : Nat) (f : Nat → Nat), smN f (2 ^ m) = sB m f
  | 0, f => by
    show smN f 0 + f 0 = f 0
    show 0 + f 0 = f 0
    omega
  | m + 1, f => by
    have e : 2 ^ (m + 1) = 2 ^ m + 2 ^ m := by rw [Nat.pow_succ]; omega
    rw [e, smN_split, smN_sB m f, smN_sB m (fun i => f (2 ^ m + i))]
    show _ = sB m f + sB m (fun A => f (A + 2 ^ m))
    congr 1
    exact sB_cong (fun A _ => by rw [Nat.add_comm])
theorem tb_add {A m k : Nat} (hA : A < 2 ^ m) : (A + 2 ^ m).testBit k = (A.testBit k || decide (k = m)) := by
  have e := Nat.two_pow_add_eq_or_of_lt hA 1
  rw [Nat.mul_one] at e
  rw [Nat.add_comm, e, Nat.testBit_or, Nat.testBit_two_pow, Bool.or_comm]
  congr 1
  congr 1
  apply propext
  exact eq_comm
theorem sB_bit {k : Nat} : ∀ {m : Nat} (f : Nat → Nat), k < m → sB m f = sB m (fun A => if A.testBit k then 0 else f A + f (A + 2 ^ k))
  | 0, _, h => absurd h (Nat.not_lt_zero _)
  | m + 1, f, h => by
    show sB m f + sB m (fun A => f (A + 2 ^ m)) = sB m (fun A => if A.testBit k then 0 else f A + f (A + 2 ^ k)) + sB m (fun A => if (A + 2 ^ m).testBit k then 0 else f (A + 2 ^ m) + f (A + 2 ^ m + 2 ^ k))
    by_cases e : k = m
    · subst e
      have e1 : sB k (fun A => if A.testBit k then 0 else f A + f (A + 2 ^ k)) = sB k (fun A => f A + f (A + 2 ^ k)) := sB_cong (fun A hA => by rw [Nat.testBit_lt_two_pow hA]; rfl)
      have e2 : sB k (fun A => if (A + 2 ^ k).testBit k then 0 else f (A + 2 ^ k) + f (A + 2 ^ k + 2 ^ k)) = sB k (fun _ => 0) := sB_cong (fun A hA => by rw [tb_add hA]; simp)
      rw [e1, e2, sB_0, sB_add]
      rfl
    · have e2 : sB m (fun A => if (A + 2 ^ m).testBit k then 0 else f (A + 2 ^ m) + f (A + 2 ^ m + 2 ^ k)) = sB m (fun A => if A.testBit k then 0 else f (A + 2 ^ m) + f (A + 2 ^ k + 2 ^ m)) := sB_cong (fun A hA => by
        rw [tb_add hA]
        have : ¬ k = m := e
        simp only [this, decide_false, Bool.or_false]
        rw [show A + 2 ^ m + 2 ^ k = A + 2 ^ k + 2 ^ m by omega])
      rw [e2, sB_bit (k := k) f (by omega), sB_bit (k := k) (fun A => f (A + 2 ^ m)) (by omega)]
-- ===== partings: the sets' side and the numbers' side =====
/-- A is in S -/
def sbs (A S : Nat) : Bool := (A &&& S) == A
theorem sbs_iff {A S : Nat} : sbs A S = true ↔ ∀ i, A.testBit i = true → S.testBit i = true := by
  unfold sbs
  rw [beq_iff_eq]
  constructor
  · intro h i hi
    have := congrArg (fun z => Nat.testBit z i) h
    simp only [Nat.testBit_and, hi, Bool.true_and] at this
    exact this
  · intro h
    apply Nat.eq_of_testBit_eq
    intro i
    rw [Nat.testBit_and]
    cases ha : A.testBit i with
    | false => rfl
    | true => rw [h i ha]; rfl
def allB (P : Nat → Bool) : Nat → Bool
  | 0 => true
  | n + 1 => allB P n && P n
theorem allB_iff {P : Nat → Bool} : ∀ {n : Nat}, allB P n = true ↔ ∀ i, i < n → P i = true
  | 0 => ⟨fun _ i hi => absurd hi (Nat.not_lt_zero i), fun _ => rfl⟩
  | n + 1 => by
    show (allB P n && P n) = true ↔ _
    rw [Bool.and_eq_true, allB_iff]
    constructor
    · rintro ⟨h1, h2⟩ i hi
      rcases Nat.lt_or_ge i n with q | q
      · exact h1 i q
      · obtain rfl : i = n := by omega
        exact h2
    · intro h
      exact ⟨fun i hi => h i (by omega), h n (by omega)⟩
theorem bool_imp {a b : Bool} : (!a || b) = true ↔ (a = true → b = true) := by cases a <;> cases b <;> simp
/-- all of A are kin of each other -/
def clq (K : Nat → Nat → Bool) (A : Nat) : Bool := allB (fun a => allB (fun b => !(A.testBit a && A.testBit b) || K a b) 8) 8
theorem clq_iff {K : Nat → Nat → Bool} {A : Nat} : clq K A = true ↔ ∀ a, a < 8 → ∀ b, b < 8 → A.testBit a = true → A.testBit b = true → K a b = true := by
  unfold clq
  rw [allB_iff]
  constructor
  · intro h a ha b hb h1 h2
    have := allB_iff.mp (h a ha) b hb
    rw [bool_imp, Bool.and_eq_true] at this
    exact this ⟨h1, h2⟩
  · intro h a ha
    rw [allB_iff]
    intro b hb
    rw [bool_imp, Bool.and_eq_true]
    exact fun q => h a ha b hb q.1 q.2
/-- all of A are kin of k -/
def allK (K : Nat → Nat → Bool) (A k : Nat) : Bool := allB (fun a => !A.testBit a || K a k) 8
theorem allK_iff {K : Nat → Nat → Bool} {A k : Nat} : allK K A k = true ↔ ∀ a, a < 8 → A.testBit a = true → K a k = true := by
  unfold allK
  rw [allB_iff]
  exact forall_congr' fun a => forall_congr' fun _ => bool_imp
/-- S without A -/
def sub2 (S A : Nat) : Nat := andn S A
def upP (p : Nat → Nat) (t : Nat) : Nat := if t = 0 then 0 else p (t - 1)
/-- the least bit of S -/
def lowN (S : Nat) : Nat := if S.testBit 0 then 0 else if S.testBit 1 then 1 else if S.testBit 2 then 2 else if S.testBit 3 then 3 else if S.testBit 4 then 4 else if S.testBit 5 then 5 else if S.testBit 6 then 6 else 7
theorem low_ok : ∀ S, S < 256 → 0 < S → lowN S < 8 ∧ S.testBit (lowN S) = true ∧ S &&& (S - 1) = andn S (2 ^ lowN S) ∧ (S &&& (256 - S)) = 2 ^ lowN S ∧ andn S (2 ^ lowN S) < S ∧ andn S (2 ^ lowN S) + 2 ^ lowN S = S := by decide +kernel
theorem low_min : ∀ S, S < 256 → 0 < S → ∀ i, i < lowN S → S.testBit i = false := by decide +kernel
/-- how many partings of S there are into t groups, d deep -/
def wayN (K : Nat → Nat → Bool) : Nat → Nat → Nat → Nat
  | 0, _, _ => 0
  | d + 1, S, t => if S = 0 then (if t = 0 then 1 else 0) else sB 8 (fun A => if sbs A (andn S (2 ^ lowN S)) && (clq K A && allK K A (lowN S)) then upP (wayN K d (andn (andn S (2 ^ lowN S)) A)) t else 0)
theorem andn_le {a b : Nat} : andn a b ≤ a := by
  have e : andn a b = a &&& andn a b := by
    apply Nat.eq_of_testBit_eq
    intro i
    rw [Nat.testBit_and, andn_bit]
    cases a.testBit i <;> cases b.testBit i <;> rfl
  rw [e]
  exact Nat.and_le_left
theorem wayN_d {K : Nat → Nat → Bool} : ∀ (d d' S t : Nat), S < 256 → S < d → S < d' → wayN K d S t = wayN K d' S t
  | 0, _, _, _, _, h, _ => absurd h (Nat.not_lt_zero _)
  | d + 1, 0, _, _, _, _, h => absurd h (Nat.not_lt_zero _)
  | d + 1, d' + 1, S, t, h8, h1, h2 => by
    unfold wayN
    by_cases e : S = 0
    · rw [if_pos e, if_pos e]
    · rw [if_neg e, if_neg e]
      apply sB_cong
      intro A _
      have hl := (low_ok S h8 (by omega)).2.2.2.2.1
      have hq : andn (andn S (2 ^ lowN S)) A ≤ andn S (2 ^ lowN S) := andn_le
      have ih : ∀ t, wayN K d (andn (andn S (2 ^ lowN S)) A) t = wayN K d' (andn (andn S (2 ^ lowN S)) A) t := fun t => wayN_d d d' _ t (by omega) (by omega) (by omega)
      have : upP (wayN K d (andn (andn S (2 ^ lowN S)) A)) t = upP (wayN K d' (andn (andn S (2 ^ lowN S)) A)) t := by
        unfold upP
        by_cases q : t = 0
        · rw [if_pos q, if_pos q]
        · rw [if_neg q, if_neg q, ih]
      rw [this]
def way (K : Nat → Nat → Bool) (S t : Nat) : Nat := wayN K 300 S t
theorem way_0 {K : Nat → Nat → Bool} (t : Nat) : way K 0 t = if t = 0 then 1 else 0 := rfl
theorem way_s {K : Nat → Nat → Bool} {S : Nat} (t : Nat) (h8 : S < 256) (h0 : 0 < S) : way K S t = sB 8 (fun A => if sbs A (andn S (2 ^ lowN S)) && (clq K A && allK K A (lowN S)) then upP (way K (andn (andn S (2 ^ lowN S)) A)) t else 0) := by
  show wayN K (299 + 1) S t = _
  unfold wayN
  rw [if_neg (by omega)]
  apply sB_cong
  intro A _
  have hl := (low_ok S h8 h0).2.2.2.2.1
  have hq : andn (andn S (2 ^ lowN S)) A ≤ andn S (2 ^ lowN S) := andn_le
  have : upP (wayN K 299 (andn (andn S (2 ^ lowN S)) A)) t = upP (way K (andn (andn S (2 ^ lowN S)) A)) t := by
    unfold upP
    by_cases q : t = 0
    · rw [if_pos q, if_pos q]
    · rw [if_neg q, if_neg q]
      exact wayN_d 299 300 _ _ (by omega) (by omega) (by omega)
  rw [this]
def updN (u : Nat → Nat) (k i : Nat) : Nat → Nat := fun o => if o = k then i else u o
/-- all of A are kin of all of group j -/
def crs (K : Nat → Nat → Bool) (u : Nat → Nat) (k j A : Nat) : Bool := allB (fun o => !decide (u o = j) || allK K A o) k
/-- k is kin of all of group j -/
def okk (K : Nat → Nat → Bool) (u : Nat → Nat) (k j : Nat) : Bool := allB (fun o => !decide (u o = j) || K k o) k
theorem allB_cong {P Q : Nat → Bool} : ∀ {n : Nat}, (∀ i, i < n → P i = Q i) → allB P n = allB Q n
  | 0, _ => rfl
  | n + 1, h => by
    show (allB P n && P n) = (allB Q n && Q n)
    rw [allB_cong (fun i hi => h i (by omega)), h n (by omega)]
theorem crs_up {K : Nat → Nat → Bool} {u : Nat → Nat} {k i j A : Nat} : crs K (updN u k i) (k + 1) j A = (crs K u k j A && (!decide (i = j) || allK K A k)) := by
  unfold crs
  show (allB (fun o => !decide (updN u k i o = j) || allK K A o) k && (!decide (updN u k i k = j) || allK K A k)) = _
  have e : updN u k i k = i := if_pos rfl
  rw [e, allB_cong (Q := fun o => !decide (u o = j) || allK K A o) (fun o ho => by
    have : updN u k i o = u o := if_neg (by omega)
    rw [this])]
/-- partings in which the groups of u take of S, t groups -/
def Qn (K : Nat → Nat → Bool) (k : Nat) (u : Nat → Nat) : Nat → Nat → Nat → Nat
  | 0, S, t => way K S t
  | j + 1, S, t => sB 8 (fun A => if sbs A S && (clq K A && crs K u k j A) then upP (Qn K k u j (andn S A)) t else 0)
theorem upP_cong {p q : Nat → Nat} (h : ∀ t, p t = q t) (t : Nat) : upP p t = upP q t := by
  unfold upP
  by_cases e : t = 0
  · rw [if_pos e, if_pos e]
  · rw [if_neg e, if_neg e, h]
theorem Qn_up {K : Nat → Nat → Bool} {u : Nat → Nat} {k i : Nat} : ∀ (j S t : Nat), j ≤ i → Qn K (k + 1) (updN u k i) j S t = Qn K k u j S t
  | 0, _, _, _ => rfl
  | j + 1, S, t, h => by
    show sB 8 _ = sB 8 _
    apply sB_cong
    intro A _
    have e : crs K (updN u k i) (k + 1) j A = crs K u k j A := by
      rw [crs_up]
      have : ¬ i = j := by omega
      simp [this]
    rw [e, upP_cong (fun t => Qn_up j (andn S A) t (by omega)) t]
theorem low_eq {S k : Nat} (h8 : S < 256) (hk : S.testBit k = true) (hl : ∀ i, i < k → S.testBit i = false) : lowN S = k := by
  have h0 : 0 < S := by
    rcases Nat.eq_zero_or_pos S with q | q
    · rw [q, Nat.zero_testBit] at hk
      cases hk
    · exact q
  obtain ⟨_, h2, _⟩ := low_ok S h8 h0
  rcases Nat.lt_trichotomy (lowN S) k with q | q | q
  · rw [hl _ q] at h2
    cases h2
  · exact q
  · rw [low_min S h8 h0 k q] at hk
    cases hk
theorem bool_ext {a b : Bool} (h : a = true ↔ b = true) : a = b := by
  cases a <;> cases b <;> simp at h <;> rfl
theorem e_or : ∀ {a b : Nat}, a &&& b = 0 → a + b = a ||| b := by
  intro a b h
  have key : ∀ (n a b : Nat), a < 2 ^ n → b < 2 ^ n → a &&& b = 0 → a + b = a ||| b := by
    intro n a b ha hb h
    have hx := BitVec.add_eq_or_of_and_eq_zero (BitVec.ofNat (n + 1) a) (BitVec.ofNat (n + 1) b) (by
      apply BitVec.eq_of_toNat_eq
      have e : 2 ^ (n + 1) = 2 ^ n + 2 ^ n := by rw [Nat.pow_succ]; omega
      rw [BitVec.toNat_and, BitVec.toNat_ofNat, BitVec.toNat_ofNat, Nat.mod_eq_of_lt (by omega), Nat.mod_eq_of_lt (by omega), h]
      simp)
    have e : 2 ^ (n + 1) = 2 ^ n + 2 ^ n := by rw [Nat.pow_succ]; omega
    have := congrArg BitVec.toNat hx
    rw [BitVec.toNat_add, BitVec.toNat_or, BitVec.toNat_ofNat, BitVec.toNat_ofNat, Nat.mod_eq_of_lt (show a < 2 ^ (n + 1) by omega), Nat.mod_eq_of_lt (show b < 2 ^ (n + 1) by omega), Nat.mod_eq_of_lt (by omega)] at this
    exact this
  have h1 : a < 2 ^ (a + b) := Nat.lt_of_le_of_lt (Nat.le_add_right a b) Nat.lt_two_pow_self
  have h2 : b < 2 ^ (a + b) := Nat.lt_of_le_of_lt (Nat.le_add_left b a) Nat.lt_two_pow_self
  exact key (a + b) a b h1 h2 h
section stepQ
variable {K : Nat → Nat → Bool} {u : Nat → Nat} {k S A B : Nat}
theorem sbs_S (hA : A.testBit k = false) : sbs A S = sbs A (andn S (2 ^ k)) := by
  apply bool_ext
  rw [sbs_iff, sbs_iff]
  constructor
  · intro h i hi
    rw [andn_bit, h i hi, Nat.testBit_two_pow]
    have : ¬ k = i := by
      intro q
      rw [← q, hA] at hi
      cases hi
    simp [this]
  · intro h i hi
    have := h i hi
    rw [andn_bit, Bool.and_eq_true] at this
    exact this.1
theorem sbs_k (hA : A.testBit k = true) : sbs A (andn S (2 ^ k)) = false := by
  apply Bool.eq_false_iff.mpr
  intro h
  have := sbs_iff.mp h k hA
  rw [andn_bit, Nat.testBit_two_pow_self] at this
  simp at this
theorem tb_addk {i : Nat} (hA : A.testBit k = false) : (A + 2 ^ k).testBit i = (A.testBit i || decide (i = k)) := by
  have e : A + 2 ^ k = A ||| 2 ^ k := by
    have d : A &&& 2 ^ k = 0 := and_pow.mpr hA
    exact e_or d
  rw [e, Nat.testBit_or, Nat.testBit_two_pow]
  congr 1
  congr 1
  apply propext
  exact eq_comm
theorem sbs_add (hA : A.testBit k = false) (hS : S.testBit k = true) : sbs (A + 2 ^ k) S = sbs A (andn S (2 ^ k)) := by
  rw [← sbs_S hA]
  apply bool_ext
  rw [sbs_iff, sbs_iff]
  constructor
  · intro h i hi
    apply h
    rw [tb_addk hA, hi]
    rfl
  · intro h i hi
    rw [tb_addk hA, Bool.or_eq_true] at hi
    rcases hi with q | q
    · exact h i q
    · rw [of_decide_eq_true q]
      exact hS
theorem clq_add (hK : ∀ a b, K a b = K b a) (hr : ∀ a, K a a = true) (hk : k < 8) (hA : A.testBit k = false) : clq K (A + 2 ^ k) = (clq K A && allK K A k) := by
  apply bool_ext
  rw [Bool.and_eq_true, clq_iff, clq_iff, allK_iff]
  constructor
  · intro h
    refine ⟨fun a ha b hb h1 h2 => h a ha b hb (by rw [tb_addk hA, h1]; rfl) (by rw [tb_addk hA, h2]; rfl), fun a ha h1 => h a ha k hk (by rw [tb_addk hA, h1]; rfl) (by rw [tb_addk hA]; simp)⟩
  · rintro ⟨h, h'⟩ a ha b hb h1 h2
    rw [tb_addk hA, Bool.or_eq_true] at h1 h2
    rcases h1 with q1 | q1 <;> rcases h2 with q2 | q2
    · exact h a ha b hb q1 q2
    · rw [of_decide_eq_true q2]
      exact h' a ha q1
    · rw [of_decide_eq_true q1, hK]
      exact h' b hb q2
    · rw [of_decide_eq_true q1, of_decide_eq_true q2]
      exact hr k
theorem crs_add {j : Nat} (hk : k < 8) (hA : A.testBit k = false) : crs K u k j (A + 2 ^ k) = (crs K u k j A && okk K u k j) := by
  apply bool_ext
  unfold crs okk
  rw [Bool.and_eq_true, allB_iff, allB_iff, allB_iff]
  constructor
  · intro h
    constructor
    · intro o ho
      rw [bool_imp]
      intro q
      have := (bool_imp.mp (h o ho)) q
      rw [allK_iff] at this ⊢
      exact fun a ha h1 => this a ha (by rw [tb_addk hA, h1]; rfl)
    · intro o ho
      rw [bool_imp]
      intro q
      have := (bool_imp.mp (h o ho)) q
      rw [allK_iff] at this
      exact this k hk (by rw [tb_addk hA]; simp)
  · rintro ⟨h1, h2⟩ o ho
    rw [bool_imp]
    intro q
    rw [allK_iff]
    intro a ha hb
    rw [tb_addk hA, Bool.or_eq_true] at hb
    rcases hb with z | z
    · exact allK_iff.mp (bool_imp.mp (h1 o ho) q) a ha z
    · rw [of_decide_eq_true z]
      exact bool_imp.mp (h2 o ho) q
theorem andn_add (hA : A.testBit k = false) : andn S (A + 2 ^ k) = andn (andn S (2 ^ k)) A := by
  apply Nat.eq_of_testBit_eq
  intro i
  rw [andn_bit, andn_bit, andn_bit, tb_addk hA, Nat.testBit_two_pow]
  by_cases e : i = k
  · subst e
    simp
  · have : ¬ k = i := fun q => e q.symm
    simp [e, this]
theorem andn_andn (S A B : Nat) : andn (andn S A) B = andn (andn S B) A := by
  apply Nat.eq_of_testBit_eq
  intro i
  rw [andn_bit, andn_bit, andn_bit, andn_bit]
  cases S.testBit i <;> cases A.testBit i <;> cases B.testBit i <;> rfl
theorem sbs_sw (S A B : Nat) : (sbs A S && sbs B (andn S A)) = (sbs B S && sbs A (andn S B)) := by
  apply bool_ext
  rw [Bool.and_eq_true, Bool.and_eq_true, sbs_iff, sbs_iff, sbs_iff, sbs_iff]
  constructor
  · rintro ⟨h1, h2⟩
    refine ⟨fun i hi => ?_, fun i hi => ?_⟩
    · have := h2 i hi
      rw [andn_bit, Bool.and_eq_true] at this
      exact this.1
    · rw [andn_bit, h1 i hi]
      cases hb : B.testBit i with
      | false => rfl
      | true =>
        have := h2 i hb
        rw [andn_bit, hi] at this
        simp at this
  · rintro ⟨h1, h2⟩
    refine ⟨fun i hi => ?_, fun i hi => ?_⟩
    · have := h2 i hi
      rw [andn_bit, Bool.and_eq_true] at this
      exact this.1
    · rw [andn_bit, h1 i hi]
      cases hb : A.testBit i with
      | false => rfl
      | true =>
        have := h2 i hb
        rw [andn_bit, hi] at this
        simp at this
end stepQ
theorem Qn_t0 {K : Nat → Nat → Bool} {u : Nat → Nat} {k : Nat} (j S : Nat) : Qn K k u (j + 1) S 0 = 0 := by
  show sB 8 _ = 0
  rw [sB_cong (g := fun _ => 0) (fun A _ => by unfold upP; simp), sB_0]
/-- the next number goes into one of the groups, or begins one -/
theorem Qstep {K : Nat → Nat → Bool} {u : Nat → Nat} {k : Nat} (hK : ∀ a b, K a b = K b a) (hr : ∀ a, K a a = true) (hk : k < 8) : ∀ (j S t : Nat), S < 256 → S.testBit k = true → (∀ i, i < k → S.testBit i = false) →
    Qn K k u j S t = smN (fun i => if okk K u k i then Qn K (k + 1) (updN u k i) j (andn S (2 ^ k)) t else 0) j + sB 8 (fun B => if sbs B (andn S (2 ^ k)) && (clq K B && allK K B k) then upP (Qn K k u j (andn (andn S (2 ^ k)) B)) t else 0)
  | 0, S, t, h8, hS, hl => by
    have h0 : 0 < S := by
      rcases Nat.eq_zero_or_pos S with q | q
      · rw [q, Nat.zero_testBit] at hS
        cases hS
      · exact q
    show way K S t = 0 + _
    rw [way_s t h8 h0, low_eq h8 hS hl, Nat.zero_add]
    rfl
  | j + 1, S, 0, h8, hS, hl => by
    rw [Qn_t0]
    have e1 : smN (fun i => if okk K u k i then Qn K (k + 1) (updN u k i) (j + 1) (andn S (2 ^ k)) 0 else 0) (j + 1) = smN (fun _ => 0) (j + 1) := smN_cong (fun i _ => by rw [Qn_t0]; simp)
    have e2 : sB 8 (fun B => if sbs B (andn S (2 ^ k)) && (clq K B && allK K B k) then upP (Qn K k u (j + 1) (andn (andn S (2 ^ k)) B)) 0 else 0) = sB 8 (fun _ => 0) := sB_cong (fun B _ => by unfold upP; simp)
    rw [e1, e2, smN_zero, sB_0]
  | j + 1, S, t + 1, h8, hS, hl => by
    have up1 : ∀ p : Nat → Nat, upP p (t + 1) = p t := fun p => by unfold upP; rw [if_neg (by omega)]; rfl
    let S' := andn S (2 ^ k)
    -- the sum over A by whether k is in it
    have e0 : Qn K k u (j + 1) S (t + 1) = sB 8 (fun A => (if sbs A S' && (clq K A && crs K u k j A) then Qn K k u j (andn S A) t else 0) + (if sbs A S' && ((clq K A && crs K u k j A) && (allK K A k && okk K u k j)) then Qn K k u j (andn S' A) t else 0)) := by
      show sB 8 (fun A => if sbs A S && (clq K A && crs K u k j A) then upP (Qn K k u j (andn S A)) (t + 1) else 0) = _
      rw [sB_bit (k := k) _ hk]
      apply sB_cong
      intro A hA
      simp only [up1]
      cases hb : A.testBit k with
      | true =>
        rw [if_pos rfl]
        show 0 = (if sbs A (andn S (2 ^ k)) && _ then _ else 0) + (if sbs A (andn S (2 ^ k)) && _ then _ else 0)
        rw [sbs_k hb]
        rfl
      | false =>
        rw [if_neg (by decide), sbs_S hb, sbs_add hb hS, clq_add hK hr hk hb, crs_add hk hb, andn_add hb]
        congr 2
        congr 1
        cases clq K A <;> cases crs K u k j A <;> cases allK K A k <;> cases okk K u k j <;> rfl
    -- k goes to group j
    have e2 : sB 8 (fun A => if sbs A S' && ((clq K A && crs K u k j A) && (allK K A k && okk K u k j)) then Qn K k u j (andn S' A) t else 0) = if okk K u k j then Qn K (k + 1) (updN u k j) (j + 1) S' (t + 1) else 0 := by
      cases ho : okk K u k j with
      | false =>
        rw [if_neg (by decide), sB_cong (g := fun _ => 0) (fun A _ => by simp), sB_0]
      | true =>
        rw [if_pos rfl]
        show _ = sB 8 (fun A => if sbs A S' && (clq K A && crs K (updN u k j) (k + 1) j A) then upP (Qn K (k + 1) (updN u k j) j (andn S' A)) (t + 1) else 0)
        apply sB_cong
        intro A _
        rw [up1, Qn_up j _ t (Nat.le_refl j), crs_up]
        congr 2
        simp
        cases clq K A <;> cases crs K u k j A <;> cases allK K A k <;> rfl
    -- k goes elsewhere
    have e1 : sB 8 (fun A => if sbs A S' && (clq K A && crs K u k j A) then Qn K k u j (andn S A) t else 0) = sB 8 (fun A => smN (fun i => if okk K u k i then (if sbs A S' && (clq K A && crs K u k j A) then Qn K (k + 1) (updN u k i) j (andn S' A) t else 0) else 0) j) + sB 8 (fun A => sB 8 (fun B => if (sbs A S' && (clq K A && crs K u k j A)) && (sbs B (andn S' A) && (clq K B && allK K B k)) then upP (Qn K k u j (andn (andn S' A) B)) t else 0)) := by
      rw [← sB_add]
      apply sB_cong
      intro A _
      cases hc : (sbs A S' && (clq K A && crs K u k j A)) with
      | false =>
        rw [if_neg (by decide), smN_cong (g := fun _ => 0) (fun i _ => by simp), smN_zero, sB_cong (g := fun _ => 0) (fun B _ => by simp), sB_0]
      | true =>
        rw [if_pos rfl]
        rw [Bool.and_eq_true] at hc
        have hsb := sbs_iff.mp hc.1
        have nk : A.testBit k = false := by
          cases q : A.testBit k with
          | false => rfl
          | true =>
            have := hsb k q
            rw [andn_bit, Nat.testBit_two_pow_self] at this
            simp at this
        have hSA : andn (andn S A) (2 ^ k) = andn S' A := andn_andn S A (2 ^ k)
        rw [Qstep hK hr hk j (andn S A) t (Nat.lt_of_le_of_lt andn_le h8) (by rw [andn_bit, hS, nk]; rfl) (fun i hi => by rw [andn_bit, hl i hi]; rfl), hSA]
        simp
    have e3 : sB 8 (fun A => smN (fun i => if okk K u k i then (if sbs A S' && (clq K A && crs K u k j A) then Qn K (k + 1) (updN u k i) j (andn S' A) t else 0) else 0) j) = smN (fun i => if okk K u k i then Qn K (k + 1) (updN u k i) (j + 1) S' (t + 1) else 0) j := by
      rw [sB_smN]
      apply smN_cong
      intro i hi
      cases ho : okk K u k i with
      | false =>
        simp only [Bool.false_eq_true, if_false]
        rw [sB_0]
      | true =>
        simp only [if_true]
        show _ = sB 8 (fun A => if sbs A S' && (clq K A && crs K (updN u k i) (k + 1) j A) then upP (Qn K (k + 1) (updN u k i) j (andn S' A)) (t + 1) else 0)
        apply sB_cong
        intro A _
        rw [up1, crs_up]
        have : ¬ i = j := by omega
        simp [this]
    have e4 : sB 8 (fun A => sB 8 (fun B => if (sbs A S' && (clq K A && crs K u k j A)) && (sbs B (andn S' A) && (clq K B && allK K B k)) then upP (Qn K k u j (andn (andn S' A) B)) t else 0)) = sB 8 (fun B => if sbs B S' && (clq K B && allK K B k) then upP (Qn K k u (j + 1) (andn S' B)) (t + 1) else 0) := by
      rw [sB_comm]
      apply sB_cong
      intro B _
      rw [up1]
      cases hb : (clq K B && allK K B k) with
      | false =>
        rw [sB_cong (g := fun _ => 0) (fun A _ => by simp), sB_0]
        simp
      | true =>
        simp only [Bool.and_true]
        cases hs : sbs B S' with
        | false =>
          rw [if_neg (by decide), sB_cong (g := fun _ => 0) (fun A _ => by
            have := sbs_sw S' A B
            rw [hs] at this
            have q : ((sbs A S' && (clq K A && crs K u k j A)) && sbs B (andn S' A)) = false := by
              cases h1 : sbs A S' <;> cases h2 : sbs B (andn S' A) <;> simp [h1, h2] at this ⊢
            rw [q]
            rfl), sB_0]
        | true =>
          rw [if_pos rfl]
          show _ = sB 8 (fun A => if sbs A (andn S' B) && (clq K A && crs K u k j A) then upP (Qn K k u j (andn (andn S' B) A)) t else 0)
          apply sB_cong
          intro A _
          rw [andn_andn S' A B]
          have := sbs_sw S' A B
          rw [hs, Bool.true_and] at this
          rw [← this]
          congr 2
          cases sbs A S' <;> cases (clq K A && crs K u k j A) <;> cases sbs B (andn S' A) <;> rfl
    rw [e0, sB_add, e1, e2, e3, e4]
    show _ = (smN (fun i => if okk K u k i then Qn K (k + 1) (updN u k i) (j + 1) S' (t + 1) else 0) j + (if okk K u k j then Qn K (k + 1) (updN u k j) (j + 1) S' (t + 1) else 0)) + sB 8 (fun B => if sbs B S' && (clq K B && allK K B k) then upP (Qn K k u (j + 1) (andn S' B)) (t + 1) else 0)
    omega
