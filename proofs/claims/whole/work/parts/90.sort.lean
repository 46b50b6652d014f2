-- ===== acts in order: number, minutes, chance to fail =====
abbrev It : Type := Nat × Nat × Nat
abbrev iT (a : It) : Nat := a.2.1
abbrev iF (a : It) : Nat := a.2.2
def leI (a b : It) : Prop := iT a * iF b ≤ iT b * iF a
theorem leI_tot (a b : It) : leI a b ∨ leI b a := Nat.le_total _ _
theorem leI_tr {a b c : It} (hb : 0 < iT b) (h1 : leI a b) (h2 : leI b c) : leI a c := by
  unfold leI at *
  refine Nat.le_of_mul_le_mul_left (?_ : iT b * (iT a * iF c) ≤ iT b * (iT c * iF a)) hb
  calc iT b * (iT a * iF c) = iT a * (iT b * iF c) := Nat.mul_left_comm _ _ _
    _ ≤ iT a * (iT c * iF b) := Nat.mul_le_mul_left _ h2
    _ = iT c * (iT a * iF b) := Nat.mul_left_comm _ _ _
    _ ≤ iT c * (iT b * iF a) := Nat.mul_le_mul_left _ h1
    _ = iT b * (iT c * iF a) := Nat.mul_left_comm _ _ _
noncomputable def eqv (x a : It) : Bool := decide (iT x * iF a = iT a * iF x)
theorem eqv_iff {x a : It} : eqv x a = true ↔ leI x a ∧ leI a x := by
  unfold eqv leI
  rw [decide_eq_true_eq]
  omega
theorem eqv_self (x : It) : eqv x x = true := eqv_iff.mpr ⟨Nat.le_refl _, Nat.le_refl _⟩
def lst (T : Nat → It) : Nat → Nat → List It
  | _, 0 => []
  | p, m + 1 => T p :: lst T (p + 1) m
theorem lst_cong {T T' : Nat → It} : ∀ (m p : Nat), (∀ j, p ≤ j → j < p + m → T j = T' j) → lst T p m = lst T' p m
  | 0, _, _ => rfl
  | m + 1, p, h => by
    show T p :: lst T (p + 1) m = T' p :: lst T' (p + 1) m
    rw [h p (Nat.le_refl _) (by omega), lst_cong m (p + 1) (fun j h1 h2 => h j (by omega) (by omega))]
theorem lst_app (T : Nat → It) : ∀ (a p b : Nat), lst T p (a + b) = lst T p a ++ lst T (p + a) b
  | 0, p, b => by
    rw [Nat.zero_add]
    rfl
  | a + 1, p, b => by
    rw [show a + 1 + b = (a + b) + 1 by omega]
    show T p :: lst T (p + 1) (a + b) = T p :: (lst T (p + 1) a ++ lst T (p + (a + 1)) b)
    rw [lst_app T a (p + 1) b, show p + 1 + a = p + (a + 1) by omega]
theorem lst_snoc (T : Nat → It) (p m : Nat) : lst T p (m + 1) = lst T p m ++ [T (p + m)] := lst_app T m p 1
theorem lst_mem {T : Nat → It} {a : It} : ∀ (m p : Nat), a ∈ lst T p m → ∃ j, p ≤ j ∧ j < p + m ∧ T j = a
  | 0, _, h => by cases h
  | m + 1, p, h => by
    rcases List.mem_cons.mp h with q | q
    · exact ⟨p, Nat.le_refl _, by omega, q.symm⟩
    · obtain ⟨j, h1, h2, h3⟩ := lst_mem m (p + 1) q
      exact ⟨j, by omega, by omega, h3⟩
def Srt (T : Nat → It) (p n : Nat) : Prop := ∀ i, p ≤ i → i + 1 < n → leI (T i) (T (i + 1))
def PosI (T : Nat → It) (p n : Nat) : Prop := ∀ j, p ≤ j → j < n → 0 < iT (T j) ∧ iT (T j) ≤ 64 ∧ iF (T j) ≤ 15
theorem srt_head {T : Nat → It} {p n : Nat} (hs : Srt T p n) (hp : PosI T p n) : ∀ d, p + d < n → leI (T p) (T (p + d))
  | 0, _ => Nat.le_refl _
  | d + 1, h => leI_tr (hp (p + d) (by omega) (by omega)).1 (srt_head hs hp d (by omega)) (hs (p + d) (by omega) (by omega))
theorem srt_uniq : ∀ (m p : Nat) (T T' : Nat → It), PosI T p (p + m) → PosI T' p (p + m) → Srt T p (p + m) → Srt T' p (p + m) → (∀ x : It, 0 < iT x → (lst T p m).filter (eqv x) = (lst T' p m).filter (eqv x)) → ∀ j, p ≤ j → j < p + m → T j = T' j
  | 0, p, T, T', _, _, _, _, _, j, h1, h2 => by omega
  | m + 1, p, T, T', p1, p2, s1, s2, hf, j, h1, h2 => by
    have key : ∀ (T T' : Nat → It), PosI T p (p + (m + 1)) → PosI T' p (p + (m + 1)) → Srt T' p (p + (m + 1)) → (∀ x : It, 0 < iT x → (lst T p (m + 1)).filter (eqv x) = (lst T' p (m + 1)).filter (eqv x)) → leI (T' p) (T p) := by
      intro T T' p1 p2 s2 hf
      have e := hf (T p) (p1 p (Nat.le_refl _) (by omega)).1
      have hm : T p ∈ (lst T p (m + 1)).filter (eqv (T p)) := List.mem_filter.mpr ⟨List.mem_cons_self, eqv_self _⟩
      rw [e] at hm
      obtain ⟨i, i1, i2, i3⟩ := lst_mem _ _ (List.mem_filter.mp hm).1
      rw [← i3]
      have := srt_head s2 p2 (i - p) (by omega)
      rw [show p + (i - p) = i by omega] at this
      exact this
    have l1 := key T T' p1 p2 s2 hf
    have l2 := key T' T p2 p1 s1 (fun x hx => (hf x hx).symm)
    have heq : T p = T' p := by
      have e := hf (T p) (p1 p (Nat.le_refl _) (by omega)).1
      have e1 : (lst T p (m + 1)).filter (eqv (T p)) = T p :: (lst T (p + 1) m).filter (eqv (T p)) := List.filter_cons_of_pos (eqv_self _)
      have e2 : (lst T' p (m + 1)).filter (eqv (T p)) = T' p :: (lst T' (p + 1) m).filter (eqv (T p)) := List.filter_cons_of_pos (eqv_iff.mpr ⟨l2, l1⟩)
      rw [e1, e2] at e
      exact (List.cons.inj e).1
    by_cases ej : j = p
    · rw [ej]
      exact heq
    · refine srt_uniq m (p + 1) T T' (fun j h1 h2 => p1 j (by omega) (by omega)) (fun j h1 h2 => p2 j (by omega) (by omega)) (fun i h1 h2 => s1 i (by omega) (by omega)) (fun i h1 h2 => s2 i (by omega) (by omega)) (fun x hx => ?_) j (by omega) (by omega)
      have e := hf x hx
      have e1 : lst T p (m + 1) = T p :: lst T (p + 1) m := rfl
      have e2 : lst T' p (m + 1) = T' p :: lst T' (p + 1) m := rfl
      rw [e1, e2, ← heq] at e
      cases hq : eqv x (T p) with
      | true =>
        rw [List.filter_cons_of_pos hq, List.filter_cons_of_pos hq] at e
        exact (List.cons.inj e).2
      | false =>
        rw [List.filter_cons_of_neg (by rw [hq]; decide), List.filter_cons_of_neg (by rw [hq]; decide)] at e
        exact e
/-- two neighbours change places -/
def swp (T : Nat → It) (i : Nat) : Nat → It := fun j => if j = i then T (i + 1) else if j = i + 1 then T i else T j
theorem swp_i (T : Nat → It) (i : Nat) : swp T i i = T (i + 1) := if_pos rfl
theorem swp_s (T : Nat → It) (i : Nat) : swp T i (i + 1) = T i := by
  unfold swp
  rw [if_neg (by omega), if_pos rfl]
theorem swp_o {T : Nat → It} {i j : Nat} (h1 : j ≠ i) (h2 : j ≠ i + 1) : swp T i j = T j := by
  unfold swp
  rw [if_neg h1, if_neg h2]
theorem swp_flt {T : Nat → It} {i p m : Nat} (h1 : p ≤ i) (h2 : i + 1 < p + m) (hl : ¬ leI (T i) (T (i + 1))) {x : It} (hx : 0 < iT x) : (lst (swp T i) p m).filter (eqv x) = (lst T p m).filter (eqv x) := by
  obtain ⟨a, rfl⟩ : ∃ a, i = p + a := ⟨i - p, by omega⟩
  obtain ⟨b, rfl⟩ : ∃ b, m = a + (2 + b) := ⟨m - a - 2, by omega⟩
  rw [lst_app, lst_app, lst_app, lst_app, List.filter_append, List.filter_append, List.filter_append, List.filter_append]
  have e1 : lst (swp T (p + a)) p a = lst T p a := lst_cong a p (fun j h1 h2 => swp_o (by omega) (by omega))
  have e3 : lst (swp T (p + a)) (p + a + 2) b = lst T (p + a + 2) b := lst_cong b _ (fun j h1 h2 => swp_o (by omega) (by omega))
  rw [e1, e3]
  congr 2
  have f1 : lst (swp T (p + a)) (p + a) 2 = [T (p + a + 1), T (p + a)] := by
    show [swp T (p + a) (p + a), swp T (p + a) (p + a + 1)] = _
    rw [swp_i, swp_s]
  have f2 : lst T (p + a) 2 = [T (p + a), T (p + a + 1)] := rfl
  rw [f1, f2]
  cases q1 : eqv x (T (p + a)) with
  | false =>
    cases q2 : eqv x (T (p + a + 1)) with
    | false => simp [q1, q2]
    | true => simp [q1, q2]
  | true =>
    cases q2 : eqv x (T (p + a + 1)) with
    | false => simp [q1, q2]
    | true => exact absurd (leI_tr hx (eqv_iff.mp q1).2 (eqv_iff.mp q2).1) hl
/-- sorted, and as L but for the order of what isn't alike -/
def SS (T : Nat → It) (p : Nat) (L : List It) : Prop := PosI T p (p + L.length) ∧ Srt T p (p + L.length) ∧ ∀ x : It, 0 < iT x → (lst T p L.length).filter (eqv x) = L.filter (eqv x)
theorem SS.uniq {T T' : Nat → It} {p : Nat} {L : List It} (h1 : SS T p L) (h2 : SS T' p L) : ∀ j, p ≤ j → j < p + L.length → T j = T' j := srt_uniq _ _ T T' h1.1 h2.1 h1.2.1 h2.2.1 (fun x hx => (h1.2.2 x hx).trans (h2.2.2 x hx).symm)
theorem SS.cong {T T' : Nat → It} {p : Nat} {L : List It} (h : SS T p L) (e : ∀ j, p ≤ j → j < p + L.length → T' j = T j) : SS T' p L := by
  refine ⟨fun j h1 h2 => by rw [e j h1 h2]; exact h.1 j h1 h2, fun i h1 h2 => by rw [e i h1 (by omega), e (i + 1) (by omega) h2]; exact h.2.1 i h1 h2, fun x hx => ?_⟩
  rw [lst_cong _ _ e]
  exact h.2.2 x hx
theorem SS.nil (T : Nat → It) (p : Nat) : SS T p [] := ⟨fun j h1 h2 => absurd h2 (by show ¬ j < p + 0; omega), fun i h1 h2 => absurd h2 (by show ¬ i + 1 < p + 0; omega), fun _ _ => rfl⟩
-- ===== insertion =====
def insV (T : Nat → It) (w : It) (k : Nat) : Nat → It := fun j => if j < k then T j else if j = k then w else T (j - 1)
theorem insV_lt {T : Nat → It} {w : It} {k j : Nat} (h : j < k) : insV T w k j = T j := if_pos h
theorem insV_eq (T : Nat → It) (w : It) (k : Nat) : insV T w k k = w := by
  unfold insV
  rw [if_neg (by omega), if_pos rfl]
theorem insV_gt {T : Nat → It} {w : It} {k j : Nat} (h : k < j) : insV T w k j = T (j - 1) := by
  unfold insV
  rw [if_neg (by omega), if_neg (by omega)]
theorem insV_swp (T : Nat → It) (w : It) (k : Nat) : insV T w k = swp (insV T w (k + 1)) k := by
  funext j
  by_cases h1 : j < k
  · rw [insV_lt h1, swp_o (by omega) (by omega), insV_lt (by omega)]
  · by_cases h2 : j = k
    · rw [h2, insV_eq, swp_i, insV_eq]
    · by_cases h3 : j = k + 1
      · rw [h3, insV_gt (by omega), swp_s, insV_lt (by omega), Nat.add_sub_cancel]
      · rw [insV_gt (by omega), swp_o h2 h3, insV_gt (by omega)]
/-- on the way of an insertion -/
def InI (T : Nat → It) (w : It) (p : Nat) (L : List It) (k : Nat) : Prop := p ≤ k ∧ k ≤ p + L.length ∧ (k < p + L.length → leI w (T k)) ∧ ∀ x : It, 0 < iT x → (lst (insV T w k) p (L.length + 1)).filter (eqv x) = (L ++ [w]).filter (eqv x)
theorem InI.start {T : Nat → It} {w : It} {p : Nat} {L : List It} (h : SS T p L) : InI T w p L (p + L.length) := by
  refine ⟨by omega, Nat.le_refl _, fun q => by omega, fun x hx => ?_⟩
  rw [lst_snoc, List.filter_append, List.filter_append, insV_eq]
  congr 1
  rw [lst_cong (T' := T) _ _ (fun j h1 h2 => insV_lt h2)]
  exact h.2.2 x hx
theorem InI.step {T : Nat → It} {w : It} {p k : Nat} {L : List It} (h : InI T w p L (k + 1)) (hk : p ≤ k) (hl : ¬ leI (T k) w) : InI T w p L k := by
  obtain ⟨h1, h2, h3, h4⟩ := h
  refine ⟨hk, by omega, fun _ => (leI_tot (T k) w).resolve_left hl, fun x hx => ?_⟩
  rw [insV_swp, swp_flt hk (by omega) (by rw [insV_lt (by omega), insV_eq]; exact hl) hx]
  exact h4 x hx
theorem InI.fin {T : Nat → It} {w : It} {p k : Nat} {L : List It} (hS : SS T p L) (hw : 0 < iT w ∧ iT w ≤ 64 ∧ iF w ≤ 15) (h : InI T w p L k) (hl : k = p ∨ leI (T (k - 1)) w) : SS (insV T w k) p (L ++ [w]) := by
  obtain ⟨h1, h2, h3, h4⟩ := h
  have hlen : (L ++ [w]).length = L.length + 1 := List.length_append
  refine ⟨fun j j1 j2 => ?_, fun i i1 i2 => ?_, fun x hx => by rw [hlen]; exact h4 x hx⟩
  · rw [hlen] at j2
    by_cases q : j < k
    · rw [insV_lt q]
      exact hS.1 j j1 (by omega)
    · by_cases q2 : j = k
      · rw [q2, insV_eq]
        exact hw
      · rw [insV_gt (by omega)]
        exact hS.1 (j - 1) (by omega) (by omega)
  · rw [hlen] at i2
    by_cases q : i + 1 < k
    · rw [insV_lt (by omega), insV_lt q]
      exact hS.2.1 i i1 (by omega)
    · by_cases q2 : i + 1 = k
      · rw [q2, insV_eq, insV_lt (by omega)]
        rcases hl with z | z
        · omega
        · rw [← q2, Nat.add_sub_cancel] at z
          exact z
      · by_cases q3 : i = k
        · subst q3
          rw [insV_eq, insV_gt (by omega), Nat.add_sub_cancel]
          exact h3 (by omega)
        · rw [insV_gt (show k < i by omega), insV_gt (show k < i + 1 by omega), Nat.add_sub_cancel]
          have := hS.2.1 (i - 1) (by omega) (by omega)
          rw [show i - 1 + 1 = i by omega] at this
          exact this
-- ===== passes =====
/-- what lies from n less k on is in place -/
def Qk (T : Nat → It) (p n k : Nat) : Prop := ∀ i j, p ≤ i → i < j → j < n → n ≤ j + k → leI (T i) (T j)
/-- within a pass, at i -/
def Pk (T : Nat → It) (p n k i : Nat) : Prop := Qk T p n k ∧ (∀ j, p ≤ j → j < i → leI (T j) (T i)) ∧ (n ≤ i + k + 1 → Qk T p n (k + 1))
theorem Pk.start {T : Nat → It} {p n k : Nat} (h : Qk T p n k) : Pk T p n k p := by
  refine ⟨h, fun j h1 h2 => by omega, fun hn i j h1 h2 h3 h4 => ?_⟩
  by_cases q : n ≤ j + k
  · exact h i j h1 h2 h3 q
  · omega
theorem Pk.stay {T : Nat → It} {p n k i : Nat} (hp : PosI T p n) (h : Pk T p n k i) (hi : p ≤ i) (hn : i + 1 < n) (hl : leI (T i) (T (i + 1))) : Pk T p n k (i + 1) := by
  obtain ⟨h1, h2, h3⟩ := h
  have m : ∀ j, p ≤ j → j < i + 1 → leI (T j) (T (i + 1)) := by
    intro j j1 j2
    by_cases q : j = i
    · rw [q]
      exact hl
    · exact leI_tr (hp i hi (by omega)).1 (h2 j j1 (by omega)) hl
  refine ⟨h1, m, fun hk a b a1 a2 a3 a4 => ?_⟩
  by_cases q : n ≤ b + k
  · exact h1 a b a1 a2 a3 q
  · have e : b + k + 1 = n := by omega
    by_cases q2 : n ≤ i + k + 1
    · exact h3 q2 a b a1 a2 a3 a4
    · have : b = i + 1 := by omega
      rw [this]
      exact m a a1 (by omega)
theorem Pk.swap {T : Nat → It} {p n k i : Nat} (hp : PosI T p n) (h : Pk T p n k i) (hi : p ≤ i) (hn : i + 1 < n) (hl : ¬ leI (T i) (T (i + 1))) : Pk (swp T i) p n k (i + 1) := by
  obtain ⟨h1, h2, h3⟩ := h
  have nk : i + 1 + k < n := by
    apply Classical.byContradiction
    intro q
    exact hl (h1 i (i + 1) hi (by omega) hn (by omega))
  have m : ∀ j, p ≤ j → j < i + 1 → leI (swp T i j) (swp T i (i + 1)) := by
    intro j j1 j2
    rw [swp_s]
    by_cases q : j = i
    · rw [q, swp_i]
      exact (leI_tot _ _).resolve_left hl
    · rw [swp_o q (by omega)]
      exact h2 j j1 (by omega)
  have q1 : Qk (swp T i) p n k := by
    intro a b a1 a2 a3 a4
    rw [swp_o (show b ≠ i by omega) (show b ≠ i + 1 by omega)]
    by_cases e1 : a = i
    · rw [e1, swp_i]
      exact h1 (i + 1) b (by omega) (by omega) a3 a4
    · by_cases e2 : a = i + 1
      · rw [e2, swp_s]
        exact h1 i b hi (by omega) a3 a4
      · rw [swp_o e1 e2]
        exact h1 a b a1 a2 a3 a4
  refine ⟨q1, m, fun hk a b a1 a2 a3 a4 => ?_⟩
  by_cases q : n ≤ b + k
  · exact q1 a b a1 a2 a3 q
  · have : b = i + 1 := by omega
    rw [this]
    exact m a a1 (by omega)
theorem PosI.swp {T : Nat → It} {p n i : Nat} (hp : PosI T p n) (hi : p ≤ i) (hn : i + 1 < n) : PosI (swp T i) p n := by
  intro j h1 h2
  by_cases e1 : j = i
  · rw [e1, swp_i]
    exact hp _ (by omega) hn
  · by_cases e2 : j = i + 1
    · rw [e2, swp_s]
      exact hp _ hi (by omega)
    · rw [swp_o e1 e2]
      exact hp j h1 h2
