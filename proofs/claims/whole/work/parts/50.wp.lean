-- ===== the pure part: options, loops, bits =====
theorem bd_some {α β : Type} (a : α) (f : α → Option β) : bd (some a) f = f a := rfl
theorem bd_of {α β : Type} {x : Option α} {a : α} (h : x = some a) (f : α → Option β) : bd x f = f a := by rw [h]; rfl
theorem bd2_some {α γ β : Type} (a : α) (c : γ) (f : α → γ → Option β) : bd2 (some (a, c)) f = f a c := rfl
theorem bd2_of {α γ β : Type} {x : Option (α × γ)} {a : α} {c : γ} (h : x = some (a, c)) (f : α → γ → Option β) : bd2 x f = f a c := by rw [h]; rfl
theorem gd_of {β : Type} {c : Bool} (h : c = true) (x : Option β) : gd c x = x := by unfold gd; rw [if_pos h]
theorem ltv_eq {α β : Type} (e : α) (f : α → Option β) : ltv e f = f e := rfl
theorem inb_nI {k n : Nat} (h : k < n) (hn : n < 2 ^ 31) : inb (nI k) n = true := by
  unfold inb
  rw [nI_toInt (by omega)]
  simp only [Bool.and_eq_true, decide_eq_true_eq]
  omega
theorem ix_nI {k : Nat} (h : k < 2 ^ 31) : ix (nI k) = k := nI_clamp h
/-- o gives a value with P -/
def Gv {R : Type} (P : R → Prop) (o : Option R) : Prop := ∃ r, o = some r ∧ P r
theorem Gv.ret {R : Type} {P : R → Prop} {r : R} (h : P r) : Gv P (some r) := ⟨r, rfl, h⟩
theorem Gv.bnd {α R : Type} {P : R → Prop} {A : α → Prop} {x : Option α} {f : α → Option R} (hx : Gv A x) (hf : ∀ a, A a → Gv P (f a)) : Gv P (bd x f) := by
  obtain ⟨a, e, ha⟩ := hx
  rw [e]
  exact hf a ha
theorem Gv.bnd2 {α γ R : Type} {P : R → Prop} {A : α × γ → Prop} {x : Option (α × γ)} {f : α → γ → Option R} (hx : Gv A x) (hf : ∀ a c, A (a, c) → Gv P (f a c)) : Gv P (bd2 x f) := by
  obtain ⟨⟨a, c⟩, e, ha⟩ := hx
  rw [e]
  exact hf a c ha
theorem Gv.weak {R : Type} {P Q : R → Prop} {o : Option R} (h : Gv P o) (hq : ∀ r, P r → Q r) : Gv Q o := by
  obtain ⟨r, e, hr⟩ := h
  exact ⟨r, e, hq r hr⟩
theorem Gv.eq {R : Type} {a : R} {o : Option R} (h : Gv (fun r => r = a) o) : o = some a := by
  obtain ⟨r, e, rfl⟩ := h
  exact e
/-- a loop that counts up -/
theorem for_q {A O : Type} (b : Nat → Nat → A → O) (N : Nat) (Inv : Nat → A → Prop) (Q : O → Prop)
    (hs : ∀ n k a, k < N → Inv k a → Q (b (n + 1) k a) ∨ ∃ a', b (n + 1) k a = b n (k + 1) a' ∧ Inv (k + 1) a')
    (he : ∀ n a, Inv N a → Q (b (n + 1) N a)) :
    ∀ (d k : Nat) (a : A) (n : Nat), k + d = N → d < n → Inv k a → Q (b n k a) := by
  intro d
  induction d with
  | zero =>
    intro k a n hk hn hi
    obtain ⟨m, rfl⟩ : ∃ m, n = m + 1 := ⟨n - 1, by omega⟩
    obtain rfl : k = N := by omega
    exact he m a hi
  | succ d ih =>
    intro k a n hk hn hi
    obtain ⟨m, rfl⟩ : ∃ m, n = m + 1 := ⟨n - 1, by omega⟩
    rcases hs m k a (by omega) hi with h | ⟨a', h1, h2⟩
    · exact h
    · rw [h1]
      exact ih (k + 1) a' m (by omega) (by omega) h2
/-- a loop with a measure -/
theorem wh_q {A O : Type} (b : Nat → A → O) (mu : A → Nat) (Inv : A → Prop) (Q : O → Prop)
    (hs : ∀ n a, Inv a → Q (b (n + 1) a) ∨ ∃ a', b (n + 1) a = b n a' ∧ Inv a' ∧ mu a' < mu a) :
    ∀ (m : Nat) (a : A) (n : Nat), mu a ≤ m → m < n → Inv a → Q (b n a) := by
  intro m
  induction m with
  | zero =>
    intro a n hm hn hi
    obtain ⟨k, rfl⟩ : ∃ k, n = k + 1 := ⟨n - 1, by omega⟩
    rcases hs k a hi with h | ⟨a', _, _, h3⟩
    · exact h
    · omega
  | succ m ih =>
    intro a n hm hn hi
    obtain ⟨k, rfl⟩ : ∃ k, n = k + 1 := ⟨n - 1, by omega⟩
    rcases hs k a hi with h | ⟨a', h1, h2, h3⟩
    · exact h
    · rw [h1]
      exact ih a' k (by omega) (by omega) h2
theorem FU_lt {d : Nat} (h : d < 200000) : d < FU := h
-- ===== bits of a long =====
def lb (x : Int64) (i : Nat) : Bool := x.toBitVec.getLsbD i
theorem lb_ext {x y : Int64} (h : ∀ i, i < 64 → lb x i = lb y i) : x = y := Int64.toBitVec_inj.mp (BitVec.eq_of_getLsbD_eq (fun i hi => h i hi))
theorem lb_or (x y : Int64) (i : Nat) : lb (x ||| y) i = (lb x i || lb y i) := by unfold lb; rw [Int64.toBitVec_or, BitVec.getLsbD_or]
theorem lb_and (x y : Int64) (i : Nat) : lb (x &&& y) i = (lb x i && lb y i) := by unfold lb; rw [Int64.toBitVec_and, BitVec.getLsbD_and]
theorem lb_xor (x y : Int64) (i : Nat) : lb (x ^^^ y) i = (lb x i ^^ lb y i) := by unfold lb; rw [Int64.toBitVec_xor, BitVec.getLsbD_xor]
theorem lb_big {x : Int64} {i : Nat} (h : 64 ≤ i) : lb x i = false := BitVec.getLsbD_of_ge _ _ h
theorem lb_m1 : ∀ i, i < 64 → lb (-1) i = true := by decide +kernel
theorem lb_0 (i : Nat) : lb 0 i = false := BitVec.getLsbD_zero
theorem lb_not (x : Int64) {i : Nat} (h : i < 64) : lb (x ^^^ (-1)) i = !lb x i := by
  rw [lb_xor, lb_m1 i h]
  cases lb x i <;> rfl
theorem sl_c : ∀ n, n < 64 → (((nI n).toInt64 &&& 63).toBitVec.smod 64).toNat = n := by decide +kernel
theorem sl_u : ∀ n, n < 64 → (((nI n).toInt64.toUInt64 &&& Int64.toUInt64 63).toBitVec % 64).toNat = n := by decide +kernel
theorem lb_shl {n : Nat} (hn : n < 64) (x : Int64) {i : Nat} (hi : i < 64) : lb (shL x (nI n)) i = (decide (n ≤ i) && lb x (i - n)) := by
  unfold lb shL
  rw [Int64.toBitVec_shiftLeft]
  show (x.toBitVec <<< (((nI n).toInt64 &&& 63).toBitVec.smod 64).toNat).getLsbD i = _
  rw [sl_c n hn, BitVec.getLsbD_shiftLeft]
  rcases Nat.lt_or_ge i n with h | h
  · simp [h, Nat.not_le.mpr h]
  · simp [hi, h, Nat.not_lt.mpr h]
theorem lb_ushl {n : Nat} (hn : n < 64) (x : Int64) (i : Nat) : lb (ushL x (nI n)) i = lb x (n + i) := by
  show (x.toUInt64 >>> ((nI n).toInt64.toUInt64 &&& Int64.toUInt64 63)).toBitVec.getLsbD i = x.toUInt64.toBitVec.getLsbD (n + i)
  rw [UInt64.toBitVec_shiftRight]
  show (x.toUInt64.toBitVec >>> (((nI n).toInt64.toUInt64 &&& Int64.toUInt64 63).toBitVec % 64).toNat).getLsbD i = _
  rw [sl_u n hn, BitVec.getLsbD_ushiftRight]
theorem lb_1 : ∀ i, i < 64 → lb 1 i = decide (i = 0) := by decide +kernel
theorem lb_one {n i : Nat} (hn : n < 64) (hi : i < 64) : lb (shL 1 (nI n)) i = decide (i = n) := by
  rw [lb_shl hn _ hi]
  by_cases h : n ≤ i
  · rw [lb_1 _ (by omega)]
    simp only [h, decide_true, Bool.true_and]
    congr 1
    apply propext
    omega
  · simp only [h, decide_false, Bool.false_and]
    symm
    rw [decide_eq_false_iff_not]
    omega
theorem lb_set {n i : Nat} (x : Int64) (hn : n < 64) (hi : i < 64) : lb (x ||| shL 1 (nI n)) i = (lb x i || decide (i = n)) := by rw [lb_or, lb_one hn hi]
theorem lb_zero {x : Int64} : x = 0 ↔ ∀ i, i < 64 → lb x i = false := by
  constructor
  · rintro rfl i _
    exact lb_0 i
  · intro h
    exact lb_ext (fun i hi => by rw [h i hi, lb_0])
theorem lb_nz {x : Int64} : ¬ x = 0 ↔ ∃ i, i < 64 ∧ lb x i = true := by
  rw [lb_zero]
  constructor
  · intro h
    apply Classical.byContradiction
    intro hc
    apply h
    intro i hi
    cases hb : lb x i with
    | false => rfl
    | true => exact absurd ⟨i, hi, hb⟩ hc
  · rintro ⟨i, hi, hb⟩ h
    rw [h i hi] at hb
    cases hb
/-- the long with given bits -/
def ofB (f : Nat → Bool) : Nat → Int64
  | 0 => 0
  | n + 1 => if f n then ofB f n ||| shL 1 (nI n) else ofB f n
theorem lb_ofBn (f : Nat → Bool) : ∀ n, n ≤ 64 → ∀ i, i < 64 → lb (ofB f n) i = (decide (i < n) && f i)
  | 0, _, i, _ => by
    show lb 0 i = _
    rw [lb_0]
    simp
  | n + 1, hn, i, hi => by
    have ih := lb_ofBn f n (by omega) i hi
    unfold ofB
    by_cases e : i = n
    · subst e
      cases hf : f i with
      | true =>
        rw [if_pos rfl, lb_set _ hi hi]
        simp
      | false =>
        rw [if_neg (by decide), ih]
        simp
    · have h1 : decide (i < n + 1) = decide (i < n) := by
        congr 1
        apply propext
        omega
      rw [h1]
      cases hf : f n with
      | true =>
        rw [if_pos rfl, lb_set _ (by omega) hi, ih]
        simp [e]
      | false => rw [if_neg (by decide), ih]
theorem lb_ofB (f : Nat → Bool) {i : Nat} (hi : i < 64) : lb (ofB f 64) i = f i := by
  rw [lb_ofBn f 64 (Nat.le_refl _) i hi]
  simp [hi]
theorem ofB_lb {x : Int64} {f : Nat → Bool} (h : ∀ i, i < 64 → lb x i = f i) : x = ofB f 64 := lb_ext (fun i hi => by rw [h i hi, lb_ofB f hi])
theorem nI_sub {a b : Nat} (h : b ≤ a) : nI a - nI b = nI (a - b) := pk_sub h
theorem rmI_nI {a d : Nat} (ha : a < 2 ^ 31) (h0 : 0 < d) (hd : d < 2 ^ 31) : rmI (nI a) (nI d) = nI (a % d) := pk_rem ha h0 hd
-- ===== how many bits =====
def bcn (f : Nat → Bool) : Nat → Nat
  | 0 => 0
  | n + 1 => bcn f n + (if f n then 1 else 0)
theorem bcn_le (f : Nat → Bool) : ∀ n, bcn f n ≤ n
  | 0 => Nat.le_refl _
  | n + 1 => by
    have := bcn_le f n
    unfold bcn
    split <;> omega
theorem bcn_cong {f g : Nat → Bool} : ∀ {n : Nat}, (∀ i, i < n → f i = g i) → bcn f n = bcn g n
  | 0, _ => rfl
  | n + 1, h => by
    unfold bcn
    rw [bcn_cong (fun i hi => h i (by omega)), h n (by omega)]
def pop (x : Int64) : Nat := bcn (lb x) 64
theorem pop_le (x : Int64) : pop x ≤ 64 := bcn_le _ _
