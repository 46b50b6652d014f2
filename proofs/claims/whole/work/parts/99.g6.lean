-- ===== what is given at the start =====
def flStart : List Cond := flatC (Jvm.Cond.and given_1 narrow_1)
theorem fl_i {w : Cond} {args : Array Value} {s : State} (h : (Jvm.Cond.and given_1 narrow_1).before args s = true) (i : Nat) (hi : flStart[i]? = some w) : w.before args s = true := flat_of_before _ h w (List.mem_of_getElem? hi)
def tmS (i : Nat) : Term := .string (strT.getD i ("", 0, "")).1 (strT.getD i ("", 0, "")).2.1
def vaS (i : Nat) : Term := .field (tmS i) "java/lang/String" "value" "[B"
def tmP : Term := .static RX6 "POWERS" "[I"
def XI : List Nat := [89, 100, 112, 125, 136, 149, 162, 177, 60, 195, 222, 250, 277, 303]
def CI : List Nat := [90, 101, 113, 126, 137, 150, 163, 178]
def AI : List Nat := [91, 102, 114, 127, 138, 151, 164, 179]
def LI : List Nat := [92, 103, 115, 128, 139, 152, 165, 180]
def EI : List (List Nat) := [[93, 94, 95, 96, 97, 98], [104, 105, 106, 107, 108, 109], [116, 117, 118, 119, 120, 121], [129, 130, 131], [140, 141, 142, 143], [153, 154, 155], [166, 167, 168, 169], [181, 182, 183, 184, 185, 186]]
def NI : List (List Nat) := [[0, 111, 123, 133, 145, 157, 171, 188], [111, 0, 124, 134, 146, 158, 172, 189], [123, 124, 0, 135, 147, 159, 173, 190], [133, 134, 135, 0, 148, 160, 174, 191], [145, 146, 147, 148, 0, 161, 175, 192], [157, 158, 159, 160, 161, 0, 176, 193], [171, 172, 173, 174, 175, 176, 0, 194], [188, 189, 190, 191, 192, 193, 194, 0]]
def SI : List Nat := [732, 785, 786, 787, 788, 789, 790, 791, 683, 904, 951, 1204, 1301, 1317]
theorem fl_ex : ∀ i, i < 14 → flStart[XI.getD i 0]? = some (Cond.exactly (tmS i) "java/lang/String") := by decide +kernel
theorem fl_co : ∀ i, i < 8 → flStart[CI.getD i 0]? = some (Cond.eq (.field (tmS i) "java/lang/String" "coder" "B") (.int 0)) := by decide +kernel
theorem fl_ar : ∀ i, i < 8 → flStart[AI.getD i 0]? = some (Cond.arrayOf (vaS i) .byte) := by decide +kernel
theorem fl_le : ∀ i, i < 8 → flStart[LI.getD i 0]? = some (Cond.eq (.length (vaS i)) (.int (Int32.ofNat (strN.getD i 0)))) := by decide +kernel
theorem fl_el : ∀ i, i < 8 → ∀ j, j < strN.getD i 0 → flStart[(EI.getD i []).getD j 0]? = some (Cond.eq (.elem (vaS i) (.int (Int32.ofNat j))) (.int ((strB.getD i []).getD j 0))) := by decide +kernel
theorem fl_ne : ∀ i, i < 8 → ∀ j, j < 8 → i ≠ j → flStart[(NI.getD i []).getD j 0]? = some (Cond.not (Cond.eq (tmS i) (tmS j))) ∨ flStart[(NI.getD i []).getD j 0]? = some (Cond.not (Cond.eq (tmS j) (tmS i))) := by decide +kernel
theorem fl_po : ∀ j, j < 10 → flStart[14 + j]? = some (Cond.eq (.elem tmP (.int (Int32.ofNat j))) (.int (powF j))) := by decide +kernel
theorem tb_sr : ∀ i, i < 14 → lw_tbl[SI.getD i 0]? = some (Cond.stringRef (strT.getD i ("", 0, "")).1 (strT.getD i ("", 0, "")).2.1 (strT.getD i ("", 0, "")).2.2) := by decide +kernel
theorem strN_lt : ∀ i, i < 8 → strN.getD i 0 < 2 ^ 31 := by decide +kernel
theorem vk_S.cg {N : Nat} {len : List Nat} {byt : List (List Int32)} {k v k' v' : Nat → Nat} {A : Nat → Prop} {U : State} {H : Heap} (h : vk_S N len byt k v A U H) (h1 : ∀ i, i < N → k' i = k i) (h2 : ∀ i, i < N → v' i = v i) : vk_S N len byt k' v' A U H :=
  ⟨fun i hi => by rw [h1 i hi, h2 i hi]; exact h.1 i hi, fun i j hi hj e => h.2 i j hi hj (by rw [← h1 i hi, ← h1 j hj]; exact e)⟩
theorem kn_c {s : State} {args : Array Value} (hts : ∀ w ∈ tblG, w.before args s = true) {ci N : Nat} {Cn : String} {T : u_T} {ty : Nat → FieldType} (K : Cls ci Cn T N ty) (hi : Cond.instantiable Cn N ∈ tblG) : ∃ q : ClassId × (Nat → Nat), ∀ r, vwCl[ci]? = some r → u_Kn s r.1 r.2.1 r.2.2 q.1 q.2 := by
  obtain ⟨cC, iS, h⟩ := u_known hts K.2.1 (hts _ hi)
  refine ⟨(cC, iS), fun r hr => ?_⟩
  cases K.1.symm.trans hr
  exact h
theorem arr_p {s : State} {args : Array Value} {ty : FieldType} (h : (Cond.arrayClass ty).before args s = true) : ∃ cA : ClassId, ArrOfT s cA ty ∧ s.vm.findClass ("[" ++ ty.toString) = some cA := by
  obtain ⟨c, k, comp, h1, h2, h3⟩ := Cond.arrayClass_spec h
  exact ⟨c, fun n z => ⟨fun k h => (by cases h), k, h2, comp, h3⟩, h1⟩
theorem arr_o {s : State} {C : String} (h : va_AO C s) : ∃ cA : ClassId, ArrOfT s cA (.object C) ∧ va_RA s cA (.object C) := by
  obtain ⟨comp, c, k, h1, h2, h3, h4, h5⟩ := Cond.arrayOver_spec h
  exact ⟨c, fun n z => ⟨fun k h => (by cases h), k, h3, comp, h4⟩, k, comp, h3, h4, h1, h5⟩
theorem arr_a {s : State} {ty : FieldType} (h : va_AOA ty s) : ∃ cA : ClassId, ArrOfT s cA (.array ty) ∧ va_RA s cA (.array ty) := by
  obtain ⟨comp, c, k, h1, h2, h3, h4, h5⟩ := arrayOverA_spec h
  exact ⟨c, fun n z => ⟨fun k h => (by cases h), k, h3, comp, h4⟩, h5⟩
theorem tg_117 : Cond.instantiable RX9 11 ∈ tblG := inG_i 117 (by decide +kernel) (by decide +kernel)
theorem tg_1420 : Cond.instantiable RX10 50 ∈ tblG := inG_i 1420 (by decide +kernel) (by decide +kernel)
theorem tw_192 : Cond.arrayClass .int ∈ lw_tbl := List.mem_of_getElem? (i := 192) (by decide +kernel)
theorem tw_193 : Cond.arrayClass .long ∈ lw_tbl := List.mem_of_getElem? (i := 193) (by decide +kernel)
theorem tw_361 : Cond.arrayClass .boolean ∈ lw_tbl := List.mem_of_getElem? (i := 361) (by decide +kernel)
theorem tw_400 : Cond.arrayOver (.object RX0) ∈ lw_tbl := List.mem_of_getElem? (i := 400) (by decide +kernel)
theorem tw_1426 : Cond.arrayOver (.array .int) ∈ lw_tbl := List.mem_of_getElem? (i := 1426) (by decide +kernel)
theorem tw_1428 : Cond.arrayOver (.array .long) ∈ lw_tbl := List.mem_of_getElem? (i := 1428) (by decide +kernel)
theorem tw_1430 : Cond.arrayOver (.array .boolean) ∈ lw_tbl := List.mem_of_getElem? (i := 1430) (by decide +kernel)
theorem tw_1220 : Cond.laysStatic "HollowPunches$Setting" "POWERS" "[I" ∈ lw_tbl := List.mem_of_getElem? (i := 1220) (by decide +kernel)
theorem tw_96 : Cond.initialized "HollowPunches$Setting" ∈ lw_tbl := List.mem_of_getElem? (i := 96) (by decide +kernel)
theorem tw_669 : Cond.laysStatic "java/lang/Throwable" "UNASSIGNED_STACK" "[Ljava/lang/StackTraceElement;" ∈ lw_tbl := List.mem_of_getElem? (i := 669) (by decide +kernel)
theorem tw_104 : Cond.initialized "java/lang/Throwable" ∈ lw_tbl := List.mem_of_getElem? (i := 104) (by decide +kernel)
theorem tw_671 : Cond.laysStatic "java/lang/Throwable" "SUPPRESSED_SENTINEL" "Ljava/util/List;" ∈ lw_tbl := List.mem_of_getElem? (i := 671) (by decide +kernel)
theorem tw_746 : Cond.laysStatic "java/lang/String" "COMPACT_STRINGS" "Z" ∈ lw_tbl := List.mem_of_getElem? (i := 746) (by decide +kernel)
theorem tw_108 : Cond.initialized "java/lang/String" ∈ lw_tbl := List.mem_of_getElem? (i := 108) (by decide +kernel)
theorem tw_762 : Cond.laysStatic "jdk/internal/util/Preconditions" "SIOOBE_FORMATTER" "Ljava/util/function/BiFunction;" ∈ lw_tbl := List.mem_of_getElem? (i := 762) (by decide +kernel)
theorem tw_110 : Cond.initialized "jdk/internal/util/Preconditions" ∈ lw_tbl := List.mem_of_getElem? (i := 110) (by decide +kernel)
theorem kn_all {s : State} {args : Array Value} (hts : ∀ w ∈ tblG, w.before args s = true) : ∃ D : va_G, ∀ (c : Nat) (q : vw_C), vwCl[c]? = some q → u_Kn s q.1 q.2.1 q.2.2 (D.1 c) (D.2 c) := by
  have h : ∀ c : Nat, ∃ q : ClassId × (Nat → Nat), ∀ r, vwCl[c]? = some r → u_Kn s r.1 r.2.1 r.2.2 q.1 q.2 := by
    intro c
    match c with
    | 0 => exact kn_c hts k_X0 tg_363
    | 1 => exact kn_c hts k_X1 tg_241
    | 2 => exact kn_c hts k_X2 tg_266
    | 3 => exact kn_c hts k_X3 tg_222
    | 4 => exact kn_c hts k_X5 tg_337
    | 5 => exact kn_c hts k_X6 tg_291
    | 6 => exact kn_c hts k_X7 tg_131
    | 7 => exact kn_c hts k_X8 tg_125
    | 8 => exact kn_c hts k_X9 tg_117
    | 9 => exact kn_c hts k_X10 tg_1420
    | c + 10 => exact ⟨(0, fun _ => 0), fun r hr => by rw [List.getElem?_eq_none (show vwCl.length ≤ c + 10 from Nat.le_add_left 10 c)] at hr; cases hr⟩
  obtain ⟨f, hf⟩ := Classical.axiomOfChoice h
  exact ⟨(fun c => (f c).1, fun c => (f c).2), hf⟩
def cAs (c0 c1 c2 c3 c4 c5 c6 : ClassId) : Nat → ClassId
  | 0 => c0
  | 1 => c1
  | 2 => c2
  | 3 => c3
  | 4 => c4
  | 5 => c5
  | _ => c6
theorem arr_all {s : State} {args : Array Value} (hts : ∀ w ∈ lw_tbl, w.before args s = true) : ∃ cA : Nat → ClassId, ∀ (k : Nat) (q : ClassId × FieldType), (tysOf cA)[k]? = some q → ArrOfT s q.1 q.2 ∧ va_RA s q.1 q.2 := by
  obtain ⟨c0, a0, b0⟩ := arr_p (hts _ tw_192)
  obtain ⟨c1, a1, b1⟩ := arr_p (hts _ tw_193)
  obtain ⟨c2, a2, b2⟩ := arr_p (hts _ tw_361)
  obtain ⟨c3, a3, b3⟩ := arr_o (va_AO.of (hts _ tw_400))
  obtain ⟨c4, a4, b4⟩ := arr_a (va_AOA.of (hts _ tw_1426))
  obtain ⟨c5, a5, b5⟩ := arr_a (va_AOA.of (hts _ tw_1428))
  obtain ⟨c6, a6, b6⟩ := arr_a (va_AOA.of (hts _ tw_1430))
  refine ⟨cAs c0 c1 c2 c3 c4 c5 c6, fun k q hq => ?_⟩
  match k, hq with
  | 0, hq => cases hq; exact ⟨a0, b0⟩
  | 1, hq => cases hq; exact ⟨a1, b1⟩
  | 2, hq => cases hq; exact ⟨a2, b2⟩
  | 3, hq => cases hq; exact ⟨a3, b3⟩
  | 4, hq => cases hq; exact ⟨a4, b4⟩
  | 5, hq => cases hq; exact ⟨a5, b5⟩
  | 6, hq => cases hq; exact ⟨a6, b6⟩
  | k + 7, hq => cases hq
def xAd (pw : Nat) (k o v : Nat → Nat) : Nat → Nat := fun n => if n = 0 then pw else if n < 9 then k (n - 1) else if n < 15 then o (n - 1) else v (n - 15)
theorem xAd_k {pw : Nat} {k o v : Nat → Nat} {i : Nat} (h : i < 8) : xAd pw k o v (1 + i) = k i := by
  unfold xAd
  rw [if_neg (by omega), if_pos (by omega), Nat.add_sub_cancel_left]
theorem xAd_o {pw : Nat} {k o v : Nat → Nat} {i : Nat} (h : ¬ i < 8) (h2 : i < 14) : xAd pw k o v (1 + i) = o i := by
  unfold xAd
  rw [if_neg (by omega), if_neg (by omega), if_pos (by omega), Nat.add_sub_cancel_left]
theorem xAd_v {pw : Nat} {k o v : Nat → Nat} {i : Nat} : xAd pw k o v (15 + i) = v i := by
  unfold xAd
  rw [if_neg (by omega), if_neg (by omega), if_neg (by omega), Nat.add_sub_cancel_left]
theorem stt_start {s : State} {args : Array Value} (hts : ∀ w ∈ lw_tbl, w.before args s = true) (hg : (Jvm.Cond.and given_1 narrow_1).before args s = true) : ∃ X : Nat → Nat, ∀ (D : va_G) (cA : Nat → ClassId) (ad : Nat → Nat), Stt (D, cA, s.heap.size, [], ad, X) s s.heap := by
  have hA : ∀ a : Nat, a < s.heap.size → ¬ (fun q => s.heap.size ≤ q) a := fun a h1 h2 => Nat.not_le_of_lt h1 h2
  obtain ⟨pw, hpw, hT⟩ := va_Tof (tm := tmP) (ty := .int) (N := 10) (f := fun j => .int (powF j)) (A := fun q => s.heap.size ≤ q) (by decide) (fl_i hg 12 (by decide +kernel)) (va_eqt (fl_i hg 13 (by decide +kernel))) (fun j hj => va_eqt (fl_i hg (14 + j) (fl_po j hj))) hA
  obtain ⟨k, v, hS, hk⟩ := vk_Sof (args := args) (s := s) (N := 8) (tm := tmS) (len := strN) (byt := strB) (A := fun q => s.heap.size ≤ q) strN_lt (fun i hi => fl_i hg _ (fl_ex i (by omega))) (fun i hi => fl_i hg _ (fl_co i hi)) (fun i hi => fl_i hg _ (fl_ar i hi)) (fun i hi => fl_i hg _ (fl_le i hi)) (fun i hi j hj => fl_i hg _ (fl_el i hi j hj)) (fun i j hi hj hn => (fl_ne i hi j hj hn).elim (fun h => Or.inl (fl_i hg _ h)) (fun h => Or.inr (fl_i hg _ h))) hA
  have ho : ∀ i : Nat, ∃ a : Nat, i < 14 → (tmS i).eval args s none [] s = some (.ref a) := by
    intro i
    by_cases hi : i < 14
    · obtain ⟨a, c, cA, kA, q1, -⟩ := Cond.exactly_spec (args := args) (first := s) (o := none) (s := s) (idx := []) (t := tmS i) (cls := "java/lang/String") (fl_i hg _ (fl_ex i hi))
      exact ⟨a, fun _ => q1⟩
    · exact ⟨0, fun h => absurd h hi⟩
  obtain ⟨o, ho⟩ := Classical.axiomOfChoice ho
  refine ⟨xAd pw k o v, fun D cA ad => ⟨va_Zref (hts _ tw_1220) (hts _ tw_96) hpw hA, hT, hS.cg (fun i hi => xAd_k hi) (fun i _ => xAd_v), fun i q hq => ?_, vx_Zqof (hts _ tw_669) (hts _ tw_104) (fl_i hg 4 (by decide +kernel)) hA, vx_Zqof (hts _ tw_671) (hts _ tw_104) (fl_i hg 5 (by decide +kernel)) hA, va_Zof (hts _ tw_746) (hts _ tw_108) (va_eqi (fl_i hg 6 (by decide +kernel))) hA, va_Zqof (hts _ tw_762) (hts _ tw_110) (fl_i hg 7 (by decide +kernel)) hA, va_Nc.of (fl_i hg 46 (by decide +kernel)), va_Nc.of (fl_i hg 58 (by decide +kernel)), va_AO.of (hts _ tw_400), va_AOA.of (hts _ tw_1426), va_AOA.of (hts _ tw_1428), va_AOA.of (hts _ tw_1430)⟩⟩
  have hi : i < 14 := (List.getElem?_eq_some_iff.mp hq).1
  have hq' : strT.getD i ("", 0, "") = q := by rw [List.getD_eq_getElem?_getD, hq]; rfl
  have h1 := hts _ (List.mem_of_getElem? (tb_sr i hi))
  have h2 : (tmS i).eval args s none [] s = some (.ref (xAd pw k o v (1 + i))) := by
    by_cases h8 : i < 8
    · rw [xAd_k h8]; exact hk i h8
    · rw [xAd_o h8 hi]; exact ho i hi
  unfold tmS at h2
  rw [hq'] at h1 h2
  exact vk_R.of h1 h2
theorem nw_start {s : State} {args : Array Value} (hts : ∀ w ∈ lw_tbl, w.before args s = true) : NW s := by
  intro w hw hn
  have h := hts w hw
  cases w <;> first | exact va_Nw.of rfl h | (simp [nestW] at hn; done)
