-- ===== partings: leaves of the model's tree, counted by sets =====
def ctN {α : Type} (f : Nat → List α) : Nat → List α
  | 0 => []
  | n + 1 => ctN f n ++ f n
theorem ctN_mem {α : Type} {f : Nat → List α} {e : α} : ∀ {n : Nat}, e ∈ ctN f n ↔ ∃ i, i < n ∧ e ∈ f i
  | 0 => by
    constructor
    · intro h
      cases h
    · rintro ⟨i, h, _⟩
      omega
  | n + 1 => by
    show e ∈ ctN f n ++ f n ↔ _
    rw [List.mem_append, ctN_mem]
    constructor
    · rintro (⟨i, h1, h2⟩ | h)
      · exact ⟨i, by omega, h2⟩
      · exact ⟨n, by omega, h⟩
    · rintro ⟨i, h1, h2⟩
      by_cases q : i = n
      · subst q
        exact Or.inr h2
      · exact Or.inl ⟨i, by omega, h2⟩
abbrev Lf : Type := (Nat → Nat) × Nat
def lvs (K : Nat → Nat → Bool) : Nat → Nat → (Nat → Nat) → Nat → List Lf
  | 0, _, u, j => [(u, j)]
  | d + 1, k, u, j => ctN (fun i => if okk K u k i then lvs K d (k + 1) (updN u k i) (if i = j then j + 1 else j) else []) (j + 1)
/-- how many leaves have t groups -/
def cnN (t : Nat) : List Lf → Nat
  | [] => 0
  | e :: L => (if e.2 = t then 1 else 0) + cnN t L
theorem cnN_app (t : Nat) : ∀ (A B : List Lf), cnN t (A ++ B) = cnN t A + cnN t B
  | [], B => (Nat.zero_add _).symm
  | e :: A, B => by
    show (if e.2 = t then 1 else 0) + cnN t (A ++ B) = (if e.2 = t then 1 else 0) + cnN t A + cnN t B
    rw [cnN_app t A B, Nat.add_assoc]
theorem cnN_ctN (t : Nat) (f : Nat → List Lf) : ∀ n, cnN t (ctN f n) = smN (fun i => cnN t (f i)) n
  | 0 => rfl
  | n + 1 => by
    show cnN t (ctN f n ++ f n) = smN (fun i => cnN t (f i)) n + cnN t (f n)
    rw [cnN_app, cnN_ctN t f n]
theorem cnN_pos {t : Nat} : ∀ {L : List Lf}, cnN t L ≠ 0 ↔ ∃ e, e ∈ L ∧ e.2 = t
  | [] => by
    constructor
    · intro h
      exact absurd rfl h
    · rintro ⟨e, h, _⟩
      cases h
  | e :: L => by
    show (if e.2 = t then 1 else 0) + cnN t L ≠ 0 ↔ _
    by_cases h : e.2 = t
    · rw [if_pos h]
      constructor
      · intro _
        exact ⟨e, List.mem_cons_self, h⟩
      · intro _
        omega
    · rw [if_neg h, Nat.zero_add, cnN_pos]
      constructor
      · rintro ⟨x, h1, h2⟩
        exact ⟨x, List.mem_cons_of_mem _ h1, h2⟩
      · rintro ⟨x, h1, h2⟩
        rcases List.mem_cons.mp h1 with q | q
        · rw [q] at h2
          exact absurd h2 h
        · exact ⟨x, q, h2⟩
theorem smN_ind {T : Nat} : ∀ {n : Nat}, T < n → smN (fun t => if T = t then 1 else 0) n = 1
  | 0, h => absurd h (Nat.not_lt_zero _)
  | n + 1, h => by
    show smN (fun t => if T = t then 1 else 0) n + (if T = n then 1 else 0) = 1
    by_cases e : T = n
    · subst e
      rw [if_pos rfl, smN_cong (g := fun _ => 0) (fun i hi => if_neg (by omega)), smN_zero]
    · rw [if_neg e, smN_ind (by omega)]
theorem cnN_len {n : Nat} : ∀ {L : List Lf}, (∀ e, e ∈ L → e.2 < n) → smN (fun t => cnN t L) n = L.length
  | [], _ => smN_zero n
  | e :: L, h => by
    show smN (fun t => (if e.2 = t then 1 else 0) + cnN t L) n = L.length + 1
    rw [smN_add, smN_ind (h e List.mem_cons_self), cnN_len (fun x hx => h x (List.mem_cons_of_mem _ hx))]
    omega
/-- numbers from k on -/
def rS (n k : Nat) : Nat := mkB (fun i => decide (k ≤ i)) n
theorem rS_bit {n k i : Nat} : (rS n k).testBit i = (decide (i < n) && decide (k ≤ i)) := mkB_bit _ _ _
theorem rS_lt {n k : Nat} (h : n ≤ 8) : rS n k < 256 := Nat.lt_of_lt_of_le (mkB_lt _ _) (Nat.pow_le_pow_right (by decide) h)
theorem rS_s {n k : Nat} : andn (rS n k) (2 ^ k) = rS n (k + 1) := by
  apply Nat.eq_of_testBit_eq
  intro i
  rw [andn_bit, rS_bit, rS_bit, Nat.testBit_two_pow]
  by_cases h : i < n
  · by_cases e : k = i
    · subst e
      simp
    · by_cases h2 : k ≤ i
      · have : k + 1 ≤ i := by omega
        simp [h, h2, e, this]
      · have : ¬ k + 1 ≤ i := by omega
        simp [h2, this]
  · simp [h]
theorem rS_0 {n k : Nat} (h : n ≤ k) : rS n k = 0 := by
  apply Nat.eq_of_testBit_eq
  intro i
  rw [rS_bit, Nat.zero_testBit]
  by_cases q : i < n
  · have : ¬ k ≤ i := by omega
    simp [this]
  · simp [q]
theorem rS_all {n : Nat} : rS n 0 = 2 ^ n - 1 := by
  apply Nat.eq_of_testBit_eq
  intro i
  rw [rS_bit, Nat.testBit_two_pow_sub_one]
  simp
theorem sB_first (c : Nat) : ∀ m, sB m (fun A => if A = 0 then c else 0) = c
  | 0 => rfl
  | m + 1 => by
    show sB m (fun A => if A = 0 then c else 0) + sB m (fun A => if A + 2 ^ m = 0 then c else 0) = c
    have h := Nat.two_pow_pos m
    rw [sB_first c m, sB_cong (g := fun _ => 0) (fun A _ => if_neg (by omega)), sB_0, Nat.add_zero]
theorem sbs_0 (A : Nat) : sbs A 0 = decide (A = 0) := by
  unfold sbs
  rw [Nat.and_zero]
  apply bool_ext
  rw [beq_iff_eq, decide_eq_true_eq]
  exact eq_comm
theorem clq_0 (K : Nat → Nat → Bool) : clq K 0 = true := clq_iff.mpr (fun a _ b _ h _ => by rw [Nat.zero_testBit] at h; cases h)
theorem allK_0 (K : Nat → Nat → Bool) (k : Nat) : allK K 0 k = true := allK_iff.mpr (fun a _ h => by rw [Nat.zero_testBit] at h; cases h)
theorem crs_0 (K : Nat → Nat → Bool) (u : Nat → Nat) (k j : Nat) : crs K u k j 0 = true := by
  unfold crs
  rw [allB_iff]
  intro o _
  rw [allK_0]
  simp
theorem andn_0 (A : Nat) : andn 0 A = 0 := by
  unfold andn
  rw [Nat.zero_and]
  rfl
theorem Qn_0 {K : Nat → Nat → Bool} {u : Nat → Nat} {k : Nat} : ∀ (j t : Nat), Qn K k u j 0 t = if j = t then 1 else 0
  | 0, t => by
    show way K 0 t = _
    rw [way_0]
    by_cases e : t = 0
    · rw [if_pos e, if_pos e.symm]
    · rw [if_neg e, if_neg (fun q => e q.symm)]
  | j + 1, t => by
    show sB 8 (fun A => if sbs A 0 && (clq K A && crs K u k j A) then upP (Qn K k u j (andn 0 A)) t else 0) = _
    rw [sB_cong (g := fun A => if A = 0 then upP (Qn K k u j 0) t else 0) (fun A _ => by
      rw [sbs_0, andn_0]
      by_cases e : A = 0
      · subst e
        rw [clq_0, crs_0]
        simp
      · simp [e]), sB_first]
    unfold upP
    by_cases e : t = 0
    · rw [if_pos e, if_neg (by omega)]
    · rw [if_neg e, Qn_0 j (t - 1)]
      by_cases q : j = t - 1
      · rw [if_pos q, if_pos (by omega)]
      · rw [if_neg q, if_neg (by omega)]
theorem okk_new {K : Nat → Nat → Bool} {u : Nat → Nat} {k j : Nat} (h : ∀ o, o < k → u o < j) : okk K u k j = true := by
  unfold okk
  rw [allB_iff]
  intro o ho
  have := h o ho
  have : ¬ u o = j := by omega
  simp [this]
theorem crs_new {K : Nat → Nat → Bool} {u : Nat → Nat} {k j A : Nat} (h : ∀ o, o < k → u o < j) : crs K u k j A = true := by
  unfold crs
  rw [allB_iff]
  intro o ho
  have := h o ho
  have : ¬ u o = j := by omega
  simp [this]
theorem upd_lt {u : Nat → Nat} {k i j : Nat} (h : ∀ o, o < k → u o < j) (hi : i < j) : ∀ o, o < k + 1 → updN u k i o < j := by
  intro o ho
  unfold updN
  by_cases e : o = k
  · rw [if_pos e]
    exact hi
  · rw [if_neg e]
    exact h o (by omega)
theorem lv_cnt {K : Nat → Nat → Bool} {n : Nat} (hK : ∀ a b, K a b = K b a) (hr : ∀ a, K a a = true) (hn : n ≤ 8) : ∀ (d k : Nat) (u : Nat → Nat) (j t : Nat), k + d = n → (∀ o, o < k → u o < j) → cnN t (lvs K d k u j) = Qn K k u j (rS n k) t
  | 0, k, u, j, t, hk, _ => by
    rw [rS_0 (by omega), Qn_0]
    show (if j = t then 1 else 0) + 0 = _
    rw [Nat.add_zero]
  | d + 1, k, u, j, t, hk, hu => by
    have hS : (rS n k).testBit k = true := by
      rw [rS_bit]
      have : k < n := by omega
      simp [this]
    have hl : ∀ i, i < k → (rS n k).testBit i = false := by
      intro i hi
      rw [rS_bit]
      have : ¬ k ≤ i := by omega
      simp [this]
    have e2 : sB 8 (fun B => if sbs B (andn (rS n k) (2 ^ k)) && (clq K B && allK K B k) then upP (Qn K k u j (andn (andn (rS n k) (2 ^ k)) B)) t else 0) = Qn K (k + 1) (updN u k j) (j + 1) (rS n (k + 1)) t := by
      show _ = sB 8 (fun A => if sbs A (rS n (k + 1)) && (clq K A && crs K (updN u k j) (k + 1) j A) then upP (Qn K (k + 1) (updN u k j) j (andn (rS n (k + 1)) A)) t else 0)
      apply sB_cong
      intro A _
      rw [rS_s, crs_up, crs_new hu, upP_cong (fun t => (Qn_up (K := K) (u := u) (k := k) (i := j) j (andn (rS n (k + 1)) A) t (Nat.le_refl j)).symm) t]
      simp
    rw [Qstep hK hr (by omega) j (rS n k) t (rS_lt hn) hS hl, e2, rS_s]
    show cnN t (ctN (fun i => if okk K u k i then lvs K d (k + 1) (updN u k i) (if i = j then j + 1 else j) else []) (j + 1)) = _
    rw [cnN_ctN]
    show smN (fun i => cnN t (if okk K u k i then lvs K d (k + 1) (updN u k i) (if i = j then j + 1 else j) else [])) j + cnN t (if okk K u k j then lvs K d (k + 1) (updN u k j) (if j = j then j + 1 else j) else []) = _
    rw [okk_new hu, if_pos rfl, if_pos rfl, lv_cnt hK hr hn d (k + 1) (updN u k j) (j + 1) t (by omega) (upd_lt (fun o ho => by have := hu o ho; omega) (by omega))]
    congr 1
    apply smN_cong
    intro i hi
    rw [if_neg (show ¬ i = j by omega)]
    cases ho : okk K u k i with
    | false => rfl
    | true =>
      rw [if_pos rfl, if_pos rfl]
      exact lv_cnt hK hr hn d (k + 1) (updN u k i) j t (by omega) (upd_lt hu hi)
theorem lv_le {K : Nat → Nat → Bool} : ∀ (d k : Nat) (u : Nat → Nat) (j : Nat) (e : Lf), e ∈ lvs K d k u j → e.2 ≤ j + d
  | 0, k, u, j, e, h => by
    rw [List.mem_singleton.mp h]
    exact Nat.le_refl _
  | d + 1, k, u, j, e, h => by
    obtain ⟨i, hi, h2⟩ := ctN_mem.mp h
    cases ho : okk K u k i with
    | false =>
      rw [ho] at h2
      cases h2
    | true =>
      rw [ho, if_pos rfl] at h2
      have := lv_le d (k + 1) _ _ e h2
      by_cases q : i = j
      · rw [if_pos q] at this
        omega
      · rw [if_neg q] at this
        omega
theorem lv_pre {K : Nat → Nat → Bool} : ∀ (d k : Nat) (u : Nat → Nat) (j : Nat) (e : Lf), e ∈ lvs K d k u j → ∀ o, o < k → e.1 o = u o
  | 0, k, u, j, e, h => by
    rw [List.mem_singleton.mp h]
    intro o _
    rfl
  | d + 1, k, u, j, e, h => by
    obtain ⟨i, hi, h2⟩ := ctN_mem.mp h
    cases ho : okk K u k i with
    | false =>
      rw [ho] at h2
      cases h2
    | true =>
      rw [ho, if_pos rfl] at h2
      intro o hok
      rw [lv_pre d (k + 1) _ _ e h2 o (by omega)]
      exact if_neg (by omega)
/-- who is in one group is kin -/
theorem lv_kin {K : Nat → Nat → Bool} (hK : ∀ a b, K a b = K b a) : ∀ (d k : Nat) (u : Nat → Nat) (j : Nat) (e : Lf), e ∈ lvs K d k u j → (∀ a b, a < k → b < k → a ≠ b → u a = u b → K a b = true) → ∀ a b, a < k + d → b < k + d → a ≠ b → e.1 a = e.1 b → K a b = true
  | 0, k, u, j, e, h, hu => by
    rw [List.mem_singleton.mp h]
    exact hu
  | d + 1, k, u, j, e, h, hu => by
    obtain ⟨i, hi, h2⟩ := ctN_mem.mp h
    cases ho : okk K u k i with
    | false =>
      rw [ho] at h2
      cases h2
    | true =>
      rw [ho, if_pos rfl] at h2
      have okq := allB_iff.mp ho
      intro a b ha hb
      refine lv_kin hK d (k + 1) _ _ e h2 ?_ a b (by omega) (by omega)
      intro a b ha hb hne he
      unfold updN at he
      by_cases ea : a = k
      · have eb : ¬ b = k := by omega
        rw [if_pos ea, if_neg eb] at he
        rw [ea]
        exact bool_imp.mp (okq b (by omega)) (decide_eq_true he.symm)
      · by_cases eb : b = k
        · rw [if_neg ea, if_pos eb] at he
          rw [eb, hK]
          exact bool_imp.mp (okq a (by omega)) (decide_eq_true he)
        · rw [if_neg ea, if_neg eb] at he
          exact hu a b (by omega) (by omega) hne he
theorem lv_ex {K : Nat → Nat → Bool} : ∀ (d k : Nat) (u : Nat → Nat) (j : Nat), (∀ o, o < k → u o < j) → ∃ e, e ∈ lvs K d k u j
  | 0, k, u, j, _ => ⟨(u, j), List.mem_singleton.mpr rfl⟩
  | d + 1, k, u, j, hu => by
    obtain ⟨e, he⟩ := lv_ex (K := K) d (k + 1) (updN u k j) (j + 1) (upd_lt (fun o ho => by have := hu o ho; omega) (by omega))
    refine ⟨e, ctN_mem.mpr ⟨j, by omega, ?_⟩⟩
    rw [okk_new hu, if_pos rfl, if_pos rfl]
    exact he
/-- two kin are together in some parting -/
theorem lv_two {K : Nat → Nat → Bool} {a b : Nat} (hab : a < b) (hKab : K b a = true) : ∀ (d k : Nat) (u : Nat → Nat) (j : Nat), k ≤ b → b < k + d → (∀ o, o < k → u o < j) → (∀ o o', o < k → o' < k → u o = u o' → o = o') → ∃ e, e ∈ lvs K d k u j ∧ e.1 a = e.1 b
  | 0, k, u, j, h1, h2, _, _ => absurd h2 (by omega)
  | d + 1, k, u, j, h1, h2, hu, hi => by
    by_cases e : k = b
    · subst e
      have hk : okk K u k (u a) = true := by
        unfold okk
        rw [allB_iff]
        intro o ho
        rw [bool_imp]
        intro q
        rw [hi o a ho hab (of_decide_eq_true q)]
        exact hKab
      have hlt := hu a hab
      obtain ⟨e, he⟩ := lv_ex (K := K) d (k + 1) (updN u k (u a)) j (upd_lt hu hlt)
      have pa := lv_pre d (k + 1) _ _ e he a (by omega)
      have pk := lv_pre d (k + 1) _ _ e he k (by omega)
      refine ⟨e, ctN_mem.mpr ⟨u a, by omega, ?_⟩, ?_⟩
      · rw [hk, if_pos rfl, if_neg (by omega)]
        exact he
      · rw [pa, pk]
        unfold updN
        rw [if_neg (by omega), if_pos rfl]
    · obtain ⟨q, he, h3⟩ := lv_two hab hKab d (k + 1) (updN u k j) (j + 1) (by omega) (by omega) (upd_lt (fun o ho => by have := hu o ho; omega) (by omega)) (by
        intro o o' ho ho' h
        unfold updN at h
        by_cases q1 : o = k
        · by_cases q2 : o' = k
          · omega
          · rw [if_pos q1, if_neg q2] at h
            have := hu o' (by omega)
            omega
        · by_cases q2 : o' = k
          · rw [if_neg q1, if_pos q2] at h
            have := hu o (by omega)
            omega
          · rw [if_neg q1, if_neg q2] at h
            exact hi o o' (by omega) (by omega) h)
      refine ⟨q, ctN_mem.mpr ⟨j, by omega, ?_⟩, h3⟩
      rw [okk_new hu, if_pos rfl, if_pos rfl]
      exact he
/-- who shares a group in v -/
def shB (n : Nat) (v : Nat → Nat) : Nat := mkB (fun a => anB (fun b => !decide (a = b) && decide (v a = v b)) n) n
/-- what a leaf does to number, fewest, alone -/
def lf1 (n : Nat) (s : Nat × Int32 × Nat) (e : Lf) : Nat × Int32 × Nat := (s.1 + 1, if s.2.1 = -1 then nI e.2 else if s.2.1 ≤ nI e.2 then s.2.1 else nI e.2, andn s.2.2 (shB n e.1))
def lfs (n : Nat) (s : Nat × Int32 × Nat) (L : List Lf) : Nat × Int32 × Nat := L.foldl (lf1 n) s
theorem lfs_1 {n : Nat} : ∀ (L : List Lf) (s : Nat × Int32 × Nat), (lfs n s L).1 = s.1 + L.length
  | [], s => rfl
  | e :: L, s => by
    show (lfs n (lf1 n s e) L).1 = _
    rw [lfs_1 L]
    show s.1 + 1 + L.length = s.1 + (L.length + 1)
    omega
theorem lfs_2 {n : Nat} : ∀ (L : List Lf) (s : Nat × Int32 × Nat) (f : Nat), s.2.1 = nI f → f < 1000 → (∀ e, e ∈ L → e.2 < 1000) → ∃ f', (lfs n s L).2.1 = nI f' ∧ f' ≤ f ∧ (f' = f ∨ ∃ e, e ∈ L ∧ e.2 = f') ∧ ∀ e, e ∈ L → f' ≤ e.2
  | [], s, f, h, _, _ => ⟨f, h, Nat.le_refl _, Or.inl rfl, fun e he => absurd he (List.not_mem_nil)⟩
  | e :: L, s, f, h, hf, hL => by
    have he := hL e List.mem_cons_self
    have hs : (lf1 n s e).2.1 = nI (min f e.2) := by
      show (if s.2.1 = -1 then nI e.2 else if s.2.1 ≤ nI e.2 then s.2.1 else nI e.2) = _
      rw [h, if_neg (m1_ne (by omega))]
      by_cases q : f ≤ e.2
      · rw [if_pos (nI_le q (by omega)), Nat.min_eq_left q]
      · rw [if_neg (nI_ge (by omega) (by omega)), Nat.min_eq_right (by omega)]
    obtain ⟨f', h1, h2, h3, h4⟩ := lfs_2 L (lf1 n s e) (min f e.2) hs (by omega) (fun x hx => hL x (List.mem_cons_of_mem _ hx))
    refine ⟨f', h1, by omega, ?_, fun x hx => ?_⟩
    · rcases h3 with q | ⟨x, q1, q2⟩
      · by_cases w : f ≤ e.2
        · exact Or.inl (by omega)
        · exact Or.inr ⟨e, List.mem_cons_self, by omega⟩
      · exact Or.inr ⟨x, List.mem_cons_of_mem _ q1, q2⟩
    · rcases List.mem_cons.mp hx with q | q
      · rw [q]
        omega
      · exact h4 x q
theorem lfs_2' {n : Nat} {L : List Lf} {s : Nat × Int32 × Nat} (h : s.2.1 = -1) (hL : ∀ e, e ∈ L → e.2 < 1000) (hne : ∃ e, e ∈ L) : ∃ f', (lfs n s L).2.1 = nI f' ∧ (∃ e, e ∈ L ∧ e.2 = f') ∧ ∀ e, e ∈ L → f' ≤ e.2 := by
  cases L with
  | nil =>
    obtain ⟨e, he⟩ := hne
    cases he
  | cons e L =>
    have hs : (lf1 n s e).2.1 = nI e.2 := if_pos h
    obtain ⟨f', h1, h2, h3, h4⟩ := lfs_2 L (lf1 n s e) e.2 hs (hL e List.mem_cons_self) (fun x hx => hL x (List.mem_cons_of_mem _ hx))
    refine ⟨f', h1, ?_, fun x hx => ?_⟩
    · rcases h3 with q | ⟨x, q1, q2⟩
      · exact ⟨e, List.mem_cons_self, q.symm⟩
      · exact ⟨x, List.mem_cons_of_mem _ q1, q2⟩
    · rcases List.mem_cons.mp hx with q | q
      · rw [q]
        exact h2
      · exact h4 x q
theorem lfs_3 {n : Nat} : ∀ (L : List Lf) (s : Nat × Int32 × Nat) (i : Nat), (lfs n s L).2.2.testBit i = true ↔ s.2.2.testBit i = true ∧ ∀ e, e ∈ L → (shB n e.1).testBit i = false
  | [], s, i => ⟨fun h => ⟨h, fun e he => absurd he List.not_mem_nil⟩, fun h => h.1⟩
  | e :: L, s, i => by
    show (lfs n (lf1 n s e) L).2.2.testBit i = true ↔ _
    rw [lfs_3 L]
    show (andn s.2.2 (shB n e.1)).testBit i = true ∧ _ ↔ _
    rw [andn_bit, Bool.and_eq_true]
    constructor
    · rintro ⟨⟨h1, h2⟩, h3⟩
      refine ⟨h1, fun x hx => ?_⟩
      rcases List.mem_cons.mp hx with q | q
      · rw [q]
        simpa using h2
      · exact h3 x q
    · rintro ⟨h1, h2⟩
      exact ⟨⟨h1, by rw [h2 e List.mem_cons_self]; rfl⟩, fun x hx => h2 x (List.mem_cons_of_mem _ hx)⟩
theorem lfs_app {n : Nat} {s : Nat × Int32 × Nat} {A B : List Lf} : lfs n s (A ++ B) = lfs n (lfs n s A) B := List.foldl_append
theorem shB_bit {n a : Nat} {v : Nat → Nat} : (shB n v).testBit a = true ↔ a < n ∧ ∃ b, b < n ∧ a ≠ b ∧ v a = v b := by
  unfold shB
  rw [mkB_bit, Bool.and_eq_true, decide_eq_true_eq, anB_iff]
  constructor
  · rintro ⟨h1, b, h2, h3⟩
    simp only [Bool.and_eq_true, Bool.not_eq_true', decide_eq_false_iff_not, decide_eq_true_eq] at h3
    exact ⟨h1, b, h2, h3.1, h3.2⟩
  · rintro ⟨h1, b, h2, h3, h4⟩
    exact ⟨h1, b, h2, by simp [h3, h4]⟩
-- ===== the class's sets =====
def tot (K : Nat → Nat → Bool) (S : Nat) : Nat := smN (way K S) 300
theorem sB_nz : ∀ {m : Nat} {f : Nat → Nat}, sB m f ≠ 0 ↔ ∃ A, A < 2 ^ m ∧ f A ≠ 0
  | 0, f => by
    constructor
    · intro h
      exact ⟨0, by decide, h⟩
    · rintro ⟨A, h1, h2⟩
      have : A = 0 := by
        have : A < 1 := h1
        omega
      rw [this] at h2
      exact h2
  | m + 1, f => by
    have e : 2 ^ (m + 1) = 2 ^ m + 2 ^ m := by rw [Nat.pow_succ]; omega
    show sB m f + sB m (fun A => f (A + 2 ^ m)) ≠ 0 ↔ _
    have h1 := sB_nz (m := m) (f := f)
    have h2 := sB_nz (m := m) (f := fun A => f (A + 2 ^ m))
    constructor
    · intro h
      by_cases q : sB m f = 0
      · have q2 : sB m (fun A => f (A + 2 ^ m)) ≠ 0 := by omega
        obtain ⟨A, a1, a2⟩ := h2.mp q2
        exact ⟨A + 2 ^ m, by omega, a2⟩
      · obtain ⟨A, a1, a2⟩ := h1.mp q
        exact ⟨A, by omega, a2⟩
    · rintro ⟨A, a1, a2⟩
      rcases Nat.lt_or_ge A (2 ^ m) with q | q
      · have := h1.mpr ⟨A, q, a2⟩
        omega
      · have := h2.mpr ⟨A - 2 ^ m, by omega, by rw [Nat.sub_add_cancel q]; exact a2⟩
        omega
def vld (K : Nat → Nat → Bool) (S A : Nat) : Bool := sbs A (andn S (2 ^ lowN S)) && (clq K A && allK K A (lowN S))
theorem way_hi {K : Nat → Nat → Bool} : ∀ (S t : Nat), S < 256 → S < t → way K S t = 0 := by
  intro S
  induction S using Nat.strongRecOn with
  | ind S ih =>
    intro t h8 ht
    by_cases h0 : S = 0
    · subst h0
      rw [way_0, if_neg (by omega)]
    · rw [way_s t h8 (by omega), sB_cong (g := fun _ => 0) (fun A _ => ?_), sB_0]
      have hl := (low_ok S h8 (by omega)).2.2.2.2.1
      have hq : andn (andn S (2 ^ lowN S)) A ≤ andn S (2 ^ lowN S) := andn_le
      unfold upP
      rw [if_neg (show ¬ t = 0 by omega), ih _ (by omega) (t - 1) (by omega) (by omega)]
      simp
theorem smN_up (p : Nat → Nat) : ∀ n, smN (upP p) (n + 1) = smN p n
  | 0 => rfl
  | n + 1 => by
    show smN (upP p) (n + 1) + upP p (n + 1) = smN p n + p n
    rw [smN_up p n]
    rfl
theorem tot_s {K : Nat → Nat → Bool} {S : Nat} (h8 : S < 256) (h0 : 0 < S) : tot K S = smN (fun A => if vld K S A then tot K (andn (andn S (2 ^ lowN S)) A) else 0) 256 := by
  have hl := (low_ok S h8 h0).2.2.2.2.1
  unfold tot
  rw [smN_cong (g := fun t => sB 8 (fun A => if vld K S A then upP (way K (andn (andn S (2 ^ lowN S)) A)) t else 0)) (fun t _ => way_s t h8 h0), ← sB_smN, ← smN_sB]
  apply smN_cong
  intro A _
  have hq : andn (andn S (2 ^ lowN S)) A ≤ andn S (2 ^ lowN S) := andn_le
  cases vld K S A with
  | false =>
    exact smN_zero 300
  | true =>
    show smN (upP (way K (andn (andn S (2 ^ lowN S)) A))) (299 + 1) = _
    rw [smN_up]
    show _ = smN (way K (andn (andn S (2 ^ lowN S)) A)) 299 + way K (andn (andn S (2 ^ lowN S)) A) 299
    rw [way_hi _ 299 (by omega) (by omega), Nat.add_zero]
/-- the fewest groups -/
def IsMn (K : Nat → Nat → Bool) (S f : Nat) : Prop := f ≤ popN S ∧ way K S f ≠ 0 ∧ ∀ t, way K S t ≠ 0 → f ≤ t
theorem IsMn.uniq {K : Nat → Nat → Bool} {S f g : Nat} (h1 : IsMn K S f) (h2 : IsMn K S g) : f = g := Nat.le_antisymm (h1.2.2 g h2.2.1) (h2.2.2 f h1.2.1)
theorem way_nz {K : Nat → Nat → Bool} {S t : Nat} (h8 : S < 256) (h0 : 0 < S) : way K S t ≠ 0 ↔ 0 < t ∧ ∃ A, A < 256 ∧ vld K S A = true ∧ way K (andn (andn S (2 ^ lowN S)) A) (t - 1) ≠ 0 := by
  rw [way_s t h8 h0, sB_nz]
  constructor
  · rintro ⟨A, h1, h2⟩
    cases hv : vld K S A with
    | false =>
      unfold vld at hv
      rw [hv] at h2
      exact absurd rfl h2
    | true =>
      have hv' := hv
      unfold vld at hv'
      rw [hv', if_pos rfl] at h2
      unfold upP at h2
      by_cases e : t = 0
      · rw [if_pos e] at h2
        exact absurd rfl h2
      · rw [if_neg e] at h2
        exact ⟨by omega, A, h1, hv, h2⟩
  · rintro ⟨h1, A, h2, h3, h4⟩
    refine ⟨A, h2, ?_⟩
    unfold vld at h3
    rw [h3, if_pos rfl]
    unfold upP
    rw [if_neg (by omega)]
    exact h4
theorem vld_0 (K : Nat → Nat → Bool) (S : Nat) : vld K S 0 = true := by
  unfold vld
  rw [clq_0, allK_0]
  have : sbs 0 (andn S (2 ^ lowN S)) = true := sbs_iff.mpr (fun i h => by rw [Nat.zero_testBit] at h; cases h)
  rw [this]
  rfl
theorem and_two (a b x y : Nat) (hx : x < 2) (hy : y < 2) : (2 * a + x) &&& (2 * b + y) = 2 * (a &&& b) + (x &&& y) := by
  have := and_digit (w := 1) (c := x) (m := y) (A := a) (B := b) hx hy
  rw [show x + 2 ^ 1 * a = 2 * a + x by omega, show y + 2 ^ 1 * b = 2 * b + y by omega] at this
  rw [this]
  omega
/-- the next lower subset -/
theorem sub_next : ∀ (w r A : Nat), w &&& r = w → A &&& r = A → A < w → A ≤ (w - 1) &&& r := by
  intro w
  induction w using Nat.strongRecOn with
  | ind w ih =>
    intro r A hw hA hlt
    have ew : w = 2 * (w / 2) + w % 2 := by omega
    have er : r = 2 * (r / 2) + r % 2 := by omega
    have eA : A = 2 * (A / 2) + A % 2 := by omega
    have a1 := and_two (w / 2) (r / 2) (w % 2) (r % 2) (by omega) (by omega)
    have a2 := and_two (A / 2) (r / 2) (A % 2) (r % 2) (by omega) (by omega)
    rw [← ew, ← er, hw] at a1
    rw [← eA, ← er, hA] at a2
    have b1 : w % 2 &&& r % 2 ≤ w % 2 := Nat.and_le_left
    have b2 : A % 2 &&& r % 2 ≤ A % 2 := Nat.and_le_left
    have b3 : A % 2 &&& r % 2 ≤ r % 2 := Nat.and_le_right
    have c1 : w / 2 &&& r / 2 = w / 2 := by omega
    have c2 : A / 2 &&& r / 2 = A / 2 := by omega
    rcases Nat.mod_two_eq_zero_or_one w with h | h
    · have hq := ih (w / 2) (by omega) (r / 2) (A / 2) c1 c2 (by omega)
      have a3 := and_two (w / 2 - 1) (r / 2) 1 (r % 2) (by omega) (by omega)
      rw [← er, show 2 * (w / 2 - 1) + 1 = w - 1 by omega] at a3
      have b4 : 1 &&& r % 2 = r % 2 := by
        rcases Nat.mod_two_eq_zero_or_one r with z | z <;> rw [z] <;> rfl
      rw [a3, b4]
      omega
    · have a3 := and_two (w / 2) (r / 2) 0 (r % 2) (by omega) (by omega)
      rw [← er, show 2 * (w / 2) + 0 = w - 1 by omega, c1, Nat.zero_and] at a3
      rw [a3]
      omega
theorem smN_pt {T : Nat → Nat} {w : Nat} : ∀ {n : Nat}, w < n → smN (fun A => if A = w then T A else 0) n = T w
  | 0, h => absurd h (Nat.not_lt_zero _)
  | n + 1, h => by
    show smN (fun A => if A = w then T A else 0) n + (if n = w then T n else 0) = T w
    by_cases e : n = w
    · subst e
      rw [if_pos rfl, smN_cong (g := fun _ => 0) (fun i hi => if_neg (by omega)), smN_zero, Nat.zero_add]
    · rw [if_neg e, smN_pt (by omega), Nat.add_zero]
