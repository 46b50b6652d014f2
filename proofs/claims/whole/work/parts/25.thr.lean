section
variable {p : Program} {l : Launch} {e : Env} {s : State} {m : MethodId} {args : Array Value} {below : List Frame} {meth : Method} {c : Code} {E : Ev}
def t_X9_needRange (x0 : Int32) (x1 : Int32) (x2 : Int32) : Option Nat := if x0 < x1 then (some 2) else (if x0 ≤ x2 then (none) else (some 2))
set_option maxHeartbeats 4000000 in
set_option maxRecDepth 100000 in
theorem tt_X9_needRange {l : Launch} {E : Ev} {x0 : Int32} {x1 : Int32} {x2 : Int32} {M : Mm} {k : Nat} (hl : l.stackTraces = false) (h : t_X9_needRange x0 x1 x2 = some k) : MetT l yX9_needRange cX9_needRange 3 none 6 E [.int x0, .int x1, .int x2] M k := by
  refine MetT.of (by decide +kernel) (Nat.le_of_ble_eq_true rfl) ?_
  intro p e s m below meth c C hT
  refine G.sub [0, 1, 2] (L' := [(0, .int x0), (1, .int x1), (2, .int x2)]) rfl ?_
  unfold t_X9_needRange at h
  refine G.iload_n C 0 dX9_needRange_0 rfl rfl ?_
  refine G.iload_n C 1 dX9_needRange_1 rfl rfl ?_
  refine G.icmp_lt (tgt := 10) C dX9_needRange_2 (by decide) (fun hc => ?_) (fun hc => ?_)
  · have h := it_t h hc
    cases h
    exact G.throwS (k := 2) C hT hl 8 ex_278_282 rfl dX9_needRange_10 dX9_needRange_13 dX9_needRange_14 dX9_needRange_17 dX9_needRange_20 ⟨Nat.le_of_ble_eq_true rfl, Nat.le_of_ble_eq_true rfl, Nat.le_refl 1, Nat.le_refl 6⟩ (Nat.le_of_ble_eq_true rfl)
  · have h := it_f h hc
    refine G.iload_n C 0 dX9_needRange_5 rfl rfl ?_
    refine G.iload_n C 2 dX9_needRange_6 rfl rfl ?_
    refine G.icmp_le (tgt := 21) C dX9_needRange_7 (by decide) (fun hc => ?_) (fun hc => ?_)
    · have h := it_t h hc
      cases h
    · have h := it_f h hc
      cases h
      exact G.throwS (k := 2) C hT hl 8 ex_278_282 rfl dX9_needRange_10 dX9_needRange_13 dX9_needRange_14 dX9_needRange_17 dX9_needRange_20 ⟨Nat.le_of_ble_eq_true rfl, Nat.le_of_ble_eq_true rfl, Nat.le_refl 1, Nat.le_refl 6⟩ (Nat.le_of_ble_eq_true rfl)
def t_X9_sheet_0 (x1 : Int32) (M : Mm) : Option Nat := orx (t_X9_needRange x1 (0 : Int32) (M.1 1 2)) (none)
set_option maxHeartbeats 4000000 in
set_option maxRecDepth 100000 in
theorem tt_X9_sheet_0 {l : Launch} {E : Ev} {x1 : Int32} {M : Mm} {k : Nat} (hl : l.stackTraces = false) (hE : Has shC (eH E)) (h : t_X9_sheet_0 x1 M = some k) : MetT l yX9_sheet cX9_sheet 3 (some .int) 9 E [.ref (eA E 0), .int x1] M k := by
  refine MetT.of (by decide +kernel) (Nat.le_of_ble_eq_true rfl) ?_
  intro p e s m below meth c C hT
  refine G.sub [0, 1] (L' := [(0, .ref (eA E 0)), (1, .int x1)]) rfl ?_
  unfold t_X9_sheet_0 at h
  refine G.iload_n C 1 dX9_sheet_0 rfl rfl ?_
  refine G.iconst (v := (0 : Int32)) C dX9_sheet_1 (by decide) ?_
  refine G.aload_n C 0 dX9_sheet_2 rfl rfl ?_
  refine G.getR (k := 0) C k_X9 (sc_0 hE) rfl (by decide) tg_479 dX9_sheet_3 ?_
  refine G.getIN (k := 2) C k_X8 (sc_1 hE) rfl (by decide) tw_198 dX9_sheet_6 ?_
  rcases orx_ex h with h | h
  · exact G.callST (rest := []) C hT (tt_X9_needRange hl  h) ⟨tg_641, tg_90, ok_X9_needRange, Nat.le_of_ble_eq_true rfl, Nat.le_of_ble_eq_true rfl⟩ tg_639 tg_640 rfl (Nat.le_of_ble_eq_true rfl) dX9_sheet_9 ⟨Nat.le_refl 1, Nat.le_refl 6⟩
  cases h
def t_X9_told_0 (x1 : Int32) (M : Mm) : Option Nat := orx (t_X9_needRange x1 (0 : Int32) (2 : Int32)) (none)
set_option maxHeartbeats 4000000 in
set_option maxRecDepth 100000 in
theorem tt_X9_told_0 {l : Launch} {E : Ev} {x1 : Int32} {M : Mm} {k : Nat} (hl : l.stackTraces = false) (hE : Has shC (eH E)) (h : t_X9_told_0 x1 M = some k) : MetT l yX9_told cX9_told 2 (some .int) 7 E [.ref (eA E 0), .int x1] M k := by
  refine MetT.of (by decide +kernel) (Nat.le_of_ble_eq_true rfl) ?_
  intro p e s m below meth c C hT
  refine G.sub [0, 1] (L' := [(0, .ref (eA E 0)), (1, .int x1)]) rfl ?_
  unfold t_X9_told_0 at h
  refine G.iload_n C 1 dX9_told_0 rfl rfl ?_
  refine G.iconst (v := (0 : Int32)) C dX9_told_1 (by decide) ?_
  refine G.iconst (v := (2 : Int32)) C dX9_told_2 (by decide) ?_
  rcases orx_ex h with h | h
  · exact G.callST (rest := []) C hT (tt_X9_needRange hl  h) ⟨tg_641, tg_90, ok_X9_needRange, Nat.le_of_ble_eq_true rfl, Nat.le_of_ble_eq_true rfl⟩ tg_639 tg_640 rfl (Nat.le_of_ble_eq_true rfl) dX9_told_3 ⟨Nat.le_refl 1, Nat.le_refl 6⟩
  cases h
def t_X9_needLetter_0 (x1 : Int32) (M : Mm) : Option Nat := if x1 < 0 then (some 1) else (if x1 < (M.1 11 7) then (none) else (some 1))
set_option maxHeartbeats 4000000 in
set_option maxRecDepth 100000 in
theorem tt_X9_needLetter_0 {l : Launch} {E : Ev} {x1 : Int32} {M : Mm} {k : Nat} (hl : l.stackTraces = false) (hE : Has shC (eH E)) (h : t_X9_needLetter_0 x1 M = some k) : MetT l yX9_needLetter cX9_needLetter 2 none 6 E [.ref (eA E 0), .int x1] M k := by
  refine MetT.of (by decide +kernel) (Nat.le_of_ble_eq_true rfl) ?_
  intro p e s m below meth c C hT
  refine G.sub [0, 1] (L' := [(0, .ref (eA E 0)), (1, .int x1)]) rfl ?_
  unfold t_X9_needLetter_0 at h
  refine G.iload_n C 1 dX9_needLetter_0 rfl rfl ?_
  refine G.if_lt (tgt := 15) C dX9_needLetter_1 (by decide) (fun hc => ?_) (fun hc => ?_)
  · have h := it_t h hc
    cases h
    exact G.throwN C hT hl 9 ex_343_347 rfl dX9_needLetter_15 dX9_needLetter_18 dX9_needLetter_19 dX9_needLetter_22 dX9_needLetter_25 ⟨Nat.le_of_ble_eq_true rfl, Nat.le_of_ble_eq_true rfl, Nat.le_refl 1, Nat.le_refl 6⟩ (Nat.le_of_ble_eq_true rfl)
  · have h := it_f h hc
    refine G.iload_n C 1 dX9_needLetter_4 rfl rfl ?_
    refine G.aload_n C 0 dX9_needLetter_5 rfl rfl ?_
    refine G.getR (k := 1) C k_X9 (sc_0 hE) rfl (by decide) tg_480 dX9_needLetter_6 ?_
    refine G.getIN (k := 7) C k_X7 (sc_11 hE) rfl (by decide) tw_159 dX9_needLetter_9 ?_
    refine G.icmp_lt (tgt := 26) C dX9_needLetter_12 (by decide) (fun hc => ?_) (fun hc => ?_)
    · have h := it_t h hc
      cases h
    · have h := it_f h hc
      cases h
      exact G.throwN C hT hl 9 ex_343_347 rfl dX9_needLetter_15 dX9_needLetter_18 dX9_needLetter_19 dX9_needLetter_22 dX9_needLetter_25 ⟨Nat.le_of_ble_eq_true rfl, Nat.le_of_ble_eq_true rfl, Nat.le_refl 1, Nat.le_refl 6⟩ (Nat.le_of_ble_eq_true rfl)
def t_X9_squares_0 (x1 : Int32) (x2 : Int32) (M : Mm) : Option Nat := orx (t_X9_needLetter_0 x1 M) (bd (f_X9_needLetter_0 x1 M) fun _ => orx (t_X9_needRange x2 (0 : Int32) (2 : Int32)) (none))
set_option maxHeartbeats 4000000 in
set_option maxRecDepth 100000 in
theorem tt_X9_squares_0 {l : Launch} {E : Ev} {x1 : Int32} {x2 : Int32} {M : Mm} {k : Nat} (hl : l.stackTraces = false) (hE : Has shC (eH E)) (h : t_X9_squares_0 x1 x2 M = some k) : MetT l yX9_squares cX9_squares 5 (some .long) 7 E [.ref (eA E 0), .int x1, .int x2] M k := by
  refine MetT.of (by decide +kernel) (Nat.le_of_ble_eq_true rfl) ?_
  intro p e s m below meth c C hT
  refine G.sub [0, 1, 2] (L' := [(0, .ref (eA E 0)), (1, .int x1), (2, .int x2)]) rfl ?_
  unfold t_X9_squares_0 at h
  refine G.aload_n C 0 dX9_squares_0 rfl rfl ?_
  refine G.iload_n C 1 dX9_squares_1 rfl rfl ?_
  rcases orx_ex h with h | h
  · exact G.callVT (rest := []) C hT (tt_X9_needLetter_0 hl hE h) ⟨tg_894, tg_90, ok_X9_needLetter, Nat.le_of_ble_eq_true rfl, Nat.le_of_ble_eq_true rfl⟩ tg_891 tg_893 tg_22 (sc_0 hE) rfl rfl (Nat.le_of_ble_eq_true rfl) dX9_squares_2 ⟨Nat.le_refl 1, Nat.le_refl 6⟩
  obtain ⟨u_2, hv_1, h⟩ := bd_ex h
  refine G.callV (rest := []) C (s_X9_needLetter_0 hE  hv_1) ⟨tg_894, tg_90, ok_X9_needLetter, Nat.le_of_ble_eq_true rfl, Nat.le_of_ble_eq_true rfl⟩ tg_891 tg_893 tg_22 (sc_0 hE) rfl rfl (Nat.le_of_ble_eq_true rfl) dX9_squares_2 ⟨Nat.le_of_ble_eq_true rfl, Nat.le_of_ble_eq_true rfl⟩ ?_
  refine G.iload_n C 2 dX9_squares_5 rfl rfl ?_
  refine G.iconst (v := (0 : Int32)) C dX9_squares_6 (by decide) ?_
  refine G.iconst (v := (2 : Int32)) C dX9_squares_7 (by decide) ?_
  rcases orx_ex h with h | h
  · exact G.callST (rest := []) C hT (tt_X9_needRange hl  h) ⟨tg_641, tg_90, ok_X9_needRange, Nat.le_of_ble_eq_true rfl, Nat.le_of_ble_eq_true rfl⟩ tg_639 tg_640 rfl (Nat.le_of_ble_eq_true rfl) dX9_squares_8 ⟨Nat.le_refl 1, Nat.le_refl 6⟩
  cases h
def t_X9_letter_0 (x1 : Int32) (x2 : Int32) (M : Mm) : Option Nat := orx (t_X9_needLetter_0 x1 M) (bd (f_X9_needLetter_0 x1 M) fun _ => orx (t_X9_needRange x2 (0 : Int32) (4 : Int32)) (none))
set_option maxHeartbeats 4000000 in
set_option maxRecDepth 100000 in
theorem tt_X9_letter_0 {l : Launch} {E : Ev} {x1 : Int32} {x2 : Int32} {M : Mm} {k : Nat} (hl : l.stackTraces = false) (hE : Has shC (eH E)) (h : t_X9_letter_0 x1 x2 M = some k) : MetT l yX9_letter cX9_letter 5 (some .int) 7 E [.ref (eA E 0), .int x1, .int x2] M k := by
  refine MetT.of (by decide +kernel) (Nat.le_of_ble_eq_true rfl) ?_
  intro p e s m below meth c C hT
  refine G.sub [0, 1, 2] (L' := [(0, .ref (eA E 0)), (1, .int x1), (2, .int x2)]) rfl ?_
  unfold t_X9_letter_0 at h
  refine G.aload_n C 0 dX9_letter_0 rfl rfl ?_
  refine G.iload_n C 1 dX9_letter_1 rfl rfl ?_
  rcases orx_ex h with h | h
  · exact G.callVT (rest := []) C hT (tt_X9_needLetter_0 hl hE h) ⟨tg_894, tg_90, ok_X9_needLetter, Nat.le_of_ble_eq_true rfl, Nat.le_of_ble_eq_true rfl⟩ tg_891 tg_893 tg_22 (sc_0 hE) rfl rfl (Nat.le_of_ble_eq_true rfl) dX9_letter_2 ⟨Nat.le_refl 1, Nat.le_refl 6⟩
  obtain ⟨u_2, hv_1, h⟩ := bd_ex h
  refine G.callV (rest := []) C (s_X9_needLetter_0 hE  hv_1) ⟨tg_894, tg_90, ok_X9_needLetter, Nat.le_of_ble_eq_true rfl, Nat.le_of_ble_eq_true rfl⟩ tg_891 tg_893 tg_22 (sc_0 hE) rfl rfl (Nat.le_of_ble_eq_true rfl) dX9_letter_2 ⟨Nat.le_of_ble_eq_true rfl, Nat.le_of_ble_eq_true rfl⟩ ?_
  refine G.iload_n C 2 dX9_letter_5 rfl rfl ?_
  refine G.iconst (v := (0 : Int32)) C dX9_letter_6 (by decide) ?_
  refine G.iconst (v := (4 : Int32)) C dX9_letter_7 (by decide) ?_
  rcases orx_ex h with h | h
  · exact G.callST (rest := []) C hT (tt_X9_needRange hl  h) ⟨tg_641, tg_90, ok_X9_needRange, Nat.le_of_ble_eq_true rfl, Nat.le_of_ble_eq_true rfl⟩ tg_639 tg_640 rfl (Nat.le_of_ble_eq_true rfl) dX9_letter_8 ⟨Nat.le_refl 1, Nat.le_refl 6⟩
  cases h
def t_X9_needHollow_0 (x1 : Int32) (M : Mm) : Option Nat := if x1 < 0 then (some 3) else (if x1 < (M.1 11 9) then (none) else (some 3))
set_option maxHeartbeats 4000000 in
set_option maxRecDepth 100000 in
theorem tt_X9_needHollow_0 {l : Launch} {E : Ev} {x1 : Int32} {M : Mm} {k : Nat} (hl : l.stackTraces = false) (hE : Has shC (eH E)) (h : t_X9_needHollow_0 x1 M = some k) : MetT l yX9_needHollow cX9_needHollow 2 none 6 E [.ref (eA E 0), .int x1] M k := by
  refine MetT.of (by decide +kernel) (Nat.le_of_ble_eq_true rfl) ?_
  intro p e s m below meth c C hT
  refine G.sub [0, 1] (L' := [(0, .ref (eA E 0)), (1, .int x1)]) rfl ?_
  unfold t_X9_needHollow_0 at h
  refine G.iload_n C 1 dX9_needHollow_0 rfl rfl ?_
  refine G.if_lt (tgt := 15) C dX9_needHollow_1 (by decide) (fun hc => ?_) (fun hc => ?_)
  · have h := it_t h hc
    cases h
    exact G.throwS (k := 3) C hT hl 10 ex_256_260 rfl dX9_needHollow_15 dX9_needHollow_18 dX9_needHollow_19 dX9_needHollow_22 dX9_needHollow_25 ⟨Nat.le_of_ble_eq_true rfl, Nat.le_of_ble_eq_true rfl, Nat.le_refl 1, Nat.le_refl 6⟩ (Nat.le_of_ble_eq_true rfl)
  · have h := it_f h hc
    refine G.iload_n C 1 dX9_needHollow_4 rfl rfl ?_
    refine G.aload_n C 0 dX9_needHollow_5 rfl rfl ?_
    refine G.getR (k := 1) C k_X9 (sc_0 hE) rfl (by decide) tg_480 dX9_needHollow_6 ?_
    refine G.getIN (k := 9) C k_X7 (sc_11 hE) rfl (by decide) tw_169 dX9_needHollow_9 ?_
    refine G.icmp_lt (tgt := 26) C dX9_needHollow_12 (by decide) (fun hc => ?_) (fun hc => ?_)
    · have h := it_t h hc
      cases h
    · have h := it_f h hc
      cases h
      exact G.throwS (k := 3) C hT hl 10 ex_256_260 rfl dX9_needHollow_15 dX9_needHollow_18 dX9_needHollow_19 dX9_needHollow_22 dX9_needHollow_25 ⟨Nat.le_of_ble_eq_true rfl, Nat.le_of_ble_eq_true rfl, Nat.le_refl 1, Nat.le_refl 6⟩ (Nat.le_of_ble_eq_true rfl)
def t_X9_hollow_0 (x1 : Int32) (M : Mm) : Option Nat := orx (t_X9_needHollow_0 x1 M) (none)
set_option maxHeartbeats 4000000 in
set_option maxRecDepth 100000 in
theorem tt_X9_hollow_0 {l : Launch} {E : Ev} {x1 : Int32} {M : Mm} {k : Nat} (hl : l.stackTraces = false) (hE : Has shC (eH E)) (h : t_X9_hollow_0 x1 M = some k) : MetT l yX9_hollow cX9_hollow 2 (some .long) 7 E [.ref (eA E 0), .int x1] M k := by
  refine MetT.of (by decide +kernel) (Nat.le_of_ble_eq_true rfl) ?_
  intro p e s m below meth c C hT
  refine G.sub [0, 1] (L' := [(0, .ref (eA E 0)), (1, .int x1)]) rfl ?_
  unfold t_X9_hollow_0 at h
  refine G.aload_n C 0 dX9_hollow_0 rfl rfl ?_
  refine G.iload_n C 1 dX9_hollow_1 rfl rfl ?_
  rcases orx_ex h with h | h
  · exact G.callVT (rest := []) C hT (tt_X9_needHollow_0 hl hE h) ⟨tg_941, tg_90, ok_X9_needHollow, Nat.le_of_ble_eq_true rfl, Nat.le_of_ble_eq_true rfl⟩ tg_938 tg_940 tg_23 (sc_0 hE) rfl rfl (Nat.le_of_ble_eq_true rfl) dX9_hollow_2 ⟨Nat.le_refl 1, Nat.le_refl 6⟩
  cases h
def t_X9_apart_0 (x1 : Int32) (x2 : Int32) (x3 : Int32) (M : Mm) : Option Nat := orx (t_X9_needHollow_0 x1 M) (bd (f_X9_needHollow_0 x1 M) fun _ => orx (t_X9_needHollow_0 x2 M) (none))
set_option maxHeartbeats 4000000 in
set_option maxRecDepth 100000 in
theorem tt_X9_apart_0 {l : Launch} {E : Ev} {x1 : Int32} {x2 : Int32} {x3 : Int32} {M : Mm} {k : Nat} (hl : l.stackTraces = false) (hE : Has shC (eH E)) (h : t_X9_apart_0 x1 x2 x3 M = some k) : MetT l yX9_apart cX9_apart 4 (some .int) 7 E [.ref (eA E 0), .int x1, .int x2, .int x3] M k := by
  refine MetT.of (by decide +kernel) (Nat.le_of_ble_eq_true rfl) ?_
  intro p e s m below meth c C hT
  refine G.sub [0, 1, 2, 3] (L' := [(0, .ref (eA E 0)), (1, .int x1), (2, .int x2), (3, .int x3)]) rfl ?_
  unfold t_X9_apart_0 at h
  refine G.aload_n C 0 dX9_apart_0 rfl rfl ?_
  refine G.iload_n C 1 dX9_apart_1 rfl rfl ?_
  rcases orx_ex h with h | h
  · exact G.callVT (rest := []) C hT (tt_X9_needHollow_0 hl hE h) ⟨tg_941, tg_90, ok_X9_needHollow, Nat.le_of_ble_eq_true rfl, Nat.le_of_ble_eq_true rfl⟩ tg_938 tg_940 tg_23 (sc_0 hE) rfl rfl (Nat.le_of_ble_eq_true rfl) dX9_apart_2 ⟨Nat.le_refl 1, Nat.le_refl 6⟩
  obtain ⟨u_2, hv_1, h⟩ := bd_ex h
  refine G.callV (rest := []) C (s_X9_needHollow_0 hE  hv_1) ⟨tg_941, tg_90, ok_X9_needHollow, Nat.le_of_ble_eq_true rfl, Nat.le_of_ble_eq_true rfl⟩ tg_938 tg_940 tg_23 (sc_0 hE) rfl rfl (Nat.le_of_ble_eq_true rfl) dX9_apart_2 ⟨Nat.le_of_ble_eq_true rfl, Nat.le_of_ble_eq_true rfl⟩ ?_
  refine G.aload_n C 0 dX9_apart_5 rfl rfl ?_
  refine G.iload_n C 2 dX9_apart_6 rfl rfl ?_
  rcases orx_ex h with h | h
  · exact G.callVT (rest := []) C hT (tt_X9_needHollow_0 hl hE h) ⟨tg_941, tg_90, ok_X9_needHollow, Nat.le_of_ble_eq_true rfl, Nat.le_of_ble_eq_true rfl⟩ tg_938 tg_940 tg_23 (sc_0 hE) rfl rfl (Nat.le_of_ble_eq_true rfl) dX9_apart_7 ⟨Nat.le_refl 1, Nat.le_refl 6⟩
  cases h
def t_X9_punches_0 (x1 : Int32) (x2 : Int32) (x3 : Int32) (M : Mm) : Option Nat := orx (t_X9_needRange x1 (0 : Int32) (64 : Int32)) (bd (f_X9_needRange x1 (0 : Int32) (64 : Int32)) fun _ => orx (t_X9_needRange x3 (0 : Int32) (1 : Int32)) (none))
set_option maxHeartbeats 4000000 in
set_option maxRecDepth 100000 in
theorem tt_X9_punches_0 {l : Launch} {E : Ev} {x1 : Int32} {x2 : Int32} {x3 : Int32} {M : Mm} {k : Nat} (hl : l.stackTraces = false) (hE : Has shC (eH E)) (h : t_X9_punches_0 x1 x2 x3 M = some k) : MetT l yX9_punches cX9_punches 5 (some .int) 23 E [.ref (eA E 0), .int x1, .int x2, .int x3] M k := by
  refine MetT.of (by decide +kernel) (Nat.le_of_ble_eq_true rfl) ?_
  intro p e s m below meth c C hT
  refine G.sub [0, 1, 2, 3] (L' := [(0, .ref (eA E 0)), (1, .int x1), (2, .int x2), (3, .int x3)]) rfl ?_
  unfold t_X9_punches_0 at h
  refine G.iload_n C 1 dX9_punches_0 rfl rfl ?_
  refine G.iconst (v := (0 : Int32)) C dX9_punches_1 (by decide) ?_
  refine G.bipush (v := (64 : Int32)) C dX9_punches_2 (by decide) ?_
  rcases orx_ex h with h | h
  · exact G.callST (rest := []) C hT (tt_X9_needRange hl  h) ⟨tg_641, tg_90, ok_X9_needRange, Nat.le_of_ble_eq_true rfl, Nat.le_of_ble_eq_true rfl⟩ tg_639 tg_640 rfl (Nat.le_of_ble_eq_true rfl) dX9_punches_4 ⟨Nat.le_refl 1, Nat.le_refl 6⟩
  obtain ⟨u_2, hv_1, h⟩ := bd_ex h
  refine G.callS (rest := []) C (s_X9_needRange  hv_1) ⟨tg_641, tg_90, ok_X9_needRange, Nat.le_of_ble_eq_true rfl, Nat.le_of_ble_eq_true rfl⟩ tg_639 tg_640 rfl (Nat.le_of_ble_eq_true rfl) dX9_punches_4 ⟨Nat.le_of_ble_eq_true rfl, Nat.le_of_ble_eq_true rfl⟩ ?_
  refine G.iload_n C 3 dX9_punches_7 rfl rfl ?_
  refine G.iconst (v := (0 : Int32)) C dX9_punches_8 (by decide) ?_
  refine G.iconst (v := (1 : Int32)) C dX9_punches_9 (by decide) ?_
  rcases orx_ex h with h | h
  · exact G.callST (rest := []) C hT (tt_X9_needRange hl  h) ⟨tg_641, tg_90, ok_X9_needRange, Nat.le_of_ble_eq_true rfl, Nat.le_of_ble_eq_true rfl⟩ tg_639 tg_640 rfl (Nat.le_of_ble_eq_true rfl) dX9_punches_10 ⟨Nat.le_refl 1, Nat.le_refl 6⟩
  cases h
def t_X9_served_0 (x1 : Int32) (x2 : Int32) (x3 : Int32) (M : Mm) : Option Nat := orx (t_X9_needHollow_0 x1 M) (bd (f_X9_needHollow_0 x1 M) fun _ => orx (t_X9_needRange x2 (0 : Int32) (64 : Int32)) (none))
set_option maxHeartbeats 4000000 in
set_option maxRecDepth 100000 in
theorem tt_X9_served_0 {l : Launch} {E : Ev} {x1 : Int32} {x2 : Int32} {x3 : Int32} {M : Mm} {k : Nat} (hl : l.stackTraces = false) (hE : Has shC (eH E)) (h : t_X9_served_0 x1 x2 x3 M = some k) : MetT l yX9_served cX9_served 4 (some .int) 24 E [.ref (eA E 0), .int x1, .int x2, .int x3] M k := by
  refine MetT.of (by decide +kernel) (Nat.le_of_ble_eq_true rfl) ?_
  intro p e s m below meth c C hT
  refine G.sub [0, 1, 2, 3] (L' := [(0, .ref (eA E 0)), (1, .int x1), (2, .int x2), (3, .int x3)]) rfl ?_
  unfold t_X9_served_0 at h
  refine G.aload_n C 0 dX9_served_0 rfl rfl ?_
  refine G.iload_n C 1 dX9_served_1 rfl rfl ?_
  rcases orx_ex h with h | h
  · exact G.callVT (rest := []) C hT (tt_X9_needHollow_0 hl hE h) ⟨tg_941, tg_90, ok_X9_needHollow, Nat.le_of_ble_eq_true rfl, Nat.le_of_ble_eq_true rfl⟩ tg_938 tg_940 tg_23 (sc_0 hE) rfl rfl (Nat.le_of_ble_eq_true rfl) dX9_served_2 ⟨Nat.le_refl 1, Nat.le_refl 6⟩
  obtain ⟨u_2, hv_1, h⟩ := bd_ex h
  refine G.callV (rest := []) C (s_X9_needHollow_0 hE  hv_1) ⟨tg_941, tg_90, ok_X9_needHollow, Nat.le_of_ble_eq_true rfl, Nat.le_of_ble_eq_true rfl⟩ tg_938 tg_940 tg_23 (sc_0 hE) rfl rfl (Nat.le_of_ble_eq_true rfl) dX9_served_2 ⟨Nat.le_of_ble_eq_true rfl, Nat.le_of_ble_eq_true rfl⟩ ?_
  refine G.iload_n C 2 dX9_served_5 rfl rfl ?_
  refine G.iconst (v := (0 : Int32)) C dX9_served_6 (by decide) ?_
  refine G.bipush (v := (64 : Int32)) C dX9_served_7 (by decide) ?_
  rcases orx_ex h with h | h
  · exact G.callST (rest := []) C hT (tt_X9_needRange hl  h) ⟨tg_641, tg_90, ok_X9_needRange, Nat.le_of_ble_eq_true rfl, Nat.le_of_ble_eq_true rfl⟩ tg_639 tg_640 rfl (Nat.le_of_ble_eq_true rfl) dX9_served_9 ⟨Nat.le_refl 1, Nat.le_refl 6⟩
  cases h
def t_X9_bites_0 (x1 : Int32) (x2 : Int32) (M : Mm) : Option Nat := orx (t_X9_needLetter_0 x1 M) (bd (f_X9_needLetter_0 x1 M) fun _ => orx (t_X9_needRange x2 (0 : Int32) (1 : Int32)) (none))
set_option maxHeartbeats 4000000 in
set_option maxRecDepth 100000 in
theorem tt_X9_bites_0 {l : Launch} {E : Ev} {x1 : Int32} {x2 : Int32} {M : Mm} {k : Nat} (hl : l.stackTraces = false) (hE : Has shC (eH E)) (h : t_X9_bites_0 x1 x2 M = some k) : MetT l yX9_bites cX9_bites 3 (some .int) 26 E [.ref (eA E 0), .int x1, .int x2] M k := by
  refine MetT.of (by decide +kernel) (Nat.le_of_ble_eq_true rfl) ?_
  intro p e s m below meth c C hT
  refine G.sub [0, 1, 2] (L' := [(0, .ref (eA E 0)), (1, .int x1), (2, .int x2)]) rfl ?_
  unfold t_X9_bites_0 at h
  refine G.aload_n C 0 dX9_bites_0 rfl rfl ?_
  refine G.iload_n C 1 dX9_bites_1 rfl rfl ?_
  rcases orx_ex h with h | h
  · exact G.callVT (rest := []) C hT (tt_X9_needLetter_0 hl hE h) ⟨tg_894, tg_90, ok_X9_needLetter, Nat.le_of_ble_eq_true rfl, Nat.le_of_ble_eq_true rfl⟩ tg_891 tg_893 tg_22 (sc_0 hE) rfl rfl (Nat.le_of_ble_eq_true rfl) dX9_bites_2 ⟨Nat.le_refl 1, Nat.le_refl 6⟩
  obtain ⟨u_2, hv_1, h⟩ := bd_ex h
  refine G.callV (rest := []) C (s_X9_needLetter_0 hE  hv_1) ⟨tg_894, tg_90, ok_X9_needLetter, Nat.le_of_ble_eq_true rfl, Nat.le_of_ble_eq_true rfl⟩ tg_891 tg_893 tg_22 (sc_0 hE) rfl rfl (Nat.le_of_ble_eq_true rfl) dX9_bites_2 ⟨Nat.le_of_ble_eq_true rfl, Nat.le_of_ble_eq_true rfl⟩ ?_
  refine G.iload_n C 2 dX9_bites_5 rfl rfl ?_
  refine G.iconst (v := (0 : Int32)) C dX9_bites_6 (by decide) ?_
  refine G.iconst (v := (1 : Int32)) C dX9_bites_7 (by decide) ?_
  rcases orx_ex h with h | h
  · exact G.callST (rest := []) C hT (tt_X9_needRange hl  h) ⟨tg_641, tg_90, ok_X9_needRange, Nat.le_of_ble_eq_true rfl, Nat.le_of_ble_eq_true rfl⟩ tg_639 tg_640 rfl (Nat.le_of_ble_eq_true rfl) dX9_bites_8 ⟨Nat.le_refl 1, Nat.le_refl 6⟩
  cases h
def t_X9_lines_0 (x1 : Int32) (M : Mm) : Option Nat := orx (t_X9_needLetter_0 x1 M) (none)
set_option maxHeartbeats 4000000 in
set_option maxRecDepth 100000 in
theorem tt_X9_lines_0 {l : Launch} {E : Ev} {x1 : Int32} {M : Mm} {k : Nat} (hl : l.stackTraces = false) (hE : Has shC (eH E)) (h : t_X9_lines_0 x1 M = some k) : MetT l yX9_lines cX9_lines 2 (some .long) 26 E [.ref (eA E 0), .int x1] M k := by
  refine MetT.of (by decide +kernel) (Nat.le_of_ble_eq_true rfl) ?_
  intro p e s m below meth c C hT
  refine G.sub [0, 1] (L' := [(0, .ref (eA E 0)), (1, .int x1)]) rfl ?_
  unfold t_X9_lines_0 at h
  refine G.aload_n C 0 dX9_lines_0 rfl rfl ?_
  refine G.iload_n C 1 dX9_lines_1 rfl rfl ?_
  rcases orx_ex h with h | h
  · exact G.callVT (rest := []) C hT (tt_X9_needLetter_0 hl hE h) ⟨tg_894, tg_90, ok_X9_needLetter, Nat.le_of_ble_eq_true rfl, Nat.le_of_ble_eq_true rfl⟩ tg_891 tg_893 tg_22 (sc_0 hE) rfl rfl (Nat.le_of_ble_eq_true rfl) dX9_lines_2 ⟨Nat.le_refl 1, Nat.le_refl 6⟩
  cases h
def t_X9_begin_0 (x1 : Int32) (M : Mm) : Option Nat := orx (t_X9_needLetter_0 x1 M) (none)
set_option maxHeartbeats 4000000 in
set_option maxRecDepth 100000 in
theorem tt_X9_begin_0 {l : Launch} {E : Ev} {x1 : Int32} {M : Mm} {k : Nat} (hl : l.stackTraces = false) (hE : Has shC (eH E)) (h : t_X9_begin_0 x1 M = some k) : MetT l yX9_begin cX9_begin 2 none 7 E [.ref (eA E 0), .int x1] M k := by
  refine MetT.of (by decide +kernel) (Nat.le_of_ble_eq_true rfl) ?_
  intro p e s m below meth c C hT
  refine G.sub [0, 1] (L' := [(0, .ref (eA E 0)), (1, .int x1)]) rfl ?_
  unfold t_X9_begin_0 at h
  refine G.aload_n C 0 dX9_begin_0 rfl rfl ?_
  refine G.iload_n C 1 dX9_begin_1 rfl rfl ?_
  rcases orx_ex h with h | h
  · exact G.callVT (rest := []) C hT (tt_X9_needLetter_0 hl hE h) ⟨tg_894, tg_90, ok_X9_needLetter, Nat.le_of_ble_eq_true rfl, Nat.le_of_ble_eq_true rfl⟩ tg_891 tg_893 tg_22 (sc_0 hE) rfl rfl (Nat.le_of_ble_eq_true rfl) dX9_begin_2 ⟨Nat.le_refl 1, Nat.le_refl 6⟩
  cases h
def t_X9_blow_0 (x1 : Int32) (M : Mm) : Option Nat := orx (t_X9_needHollow_0 x1 M) (none)
set_option maxHeartbeats 4000000 in
set_option maxRecDepth 100000 in
theorem tt_X9_blow_0 {l : Launch} {E : Ev} {x1 : Int32} {M : Mm} {k : Nat} (hl : l.stackTraces = false) (hE : Has shC (eH E)) (h : t_X9_blow_0 x1 M = some k) : MetT l yX9_blow cX9_blow 2 (some .int) 7 E [.ref (eA E 0), .int x1] M k := by
  refine MetT.of (by decide +kernel) (Nat.le_of_ble_eq_true rfl) ?_
  intro p e s m below meth c C hT
  refine G.sub [0, 1] (L' := [(0, .ref (eA E 0)), (1, .int x1)]) rfl ?_
  unfold t_X9_blow_0 at h
  refine G.aload_n C 0 dX9_blow_0 rfl rfl ?_
  refine G.iload_n C 1 dX9_blow_1 rfl rfl ?_
  rcases orx_ex h with h | h
  · exact G.callVT (rest := []) C hT (tt_X9_needHollow_0 hl hE h) ⟨tg_941, tg_90, ok_X9_needHollow, Nat.le_of_ble_eq_true rfl, Nat.le_of_ble_eq_true rfl⟩ tg_938 tg_940 tg_23 (sc_0 hE) rfl rfl (Nat.le_of_ble_eq_true rfl) dX9_blow_2 ⟨Nat.le_refl 1, Nat.le_refl 6⟩
  cases h
def t_X9_needFile (x0 : Int32) (x1 : Int32) (x2 : Int32) : Option Nat := orx (t_X9_needRange x0 (0 : Int32) (3 : Int32)) (bd (f_X9_needRange x0 (0 : Int32) (3 : Int32)) fun _ => orx (t_X9_needRange x1 (0 : Int32) (7 : Int32)) (bd (f_X9_needRange x1 (0 : Int32) (7 : Int32)) fun _ => orx (t_X9_needRange x2 (1 : Int32) (8 : Int32)) (none)))
set_option maxHeartbeats 4000000 in
set_option maxRecDepth 100000 in
theorem tt_X9_needFile {l : Launch} {E : Ev} {x0 : Int32} {x1 : Int32} {x2 : Int32} {M : Mm} {k : Nat} (hl : l.stackTraces = false) (h : t_X9_needFile x0 x1 x2 = some k) : MetT l yX9_needFile cX9_needFile 3 none 7 E [.int x0, .int x1, .int x2] M k := by
  refine MetT.of (by decide +kernel) (Nat.le_of_ble_eq_true rfl) ?_
  intro p e s m below meth c C hT
  refine G.sub [0, 1, 2] (L' := [(0, .int x0), (1, .int x1), (2, .int x2)]) rfl ?_
  unfold t_X9_needFile at h
  refine G.iload_n C 0 dX9_needFile_0 rfl rfl ?_
  refine G.iconst (v := (0 : Int32)) C dX9_needFile_1 (by decide) ?_
  refine G.iconst (v := (3 : Int32)) C dX9_needFile_2 (by decide) ?_
  rcases orx_ex h with h | h
  · exact G.callST (rest := []) C hT (tt_X9_needRange hl  h) ⟨tg_641, tg_90, ok_X9_needRange, Nat.le_of_ble_eq_true rfl, Nat.le_of_ble_eq_true rfl⟩ tg_639 tg_640 rfl (Nat.le_of_ble_eq_true rfl) dX9_needFile_3 ⟨Nat.le_refl 1, Nat.le_refl 6⟩
  obtain ⟨u_2, hv_1, h⟩ := bd_ex h
  refine G.callS (rest := []) C (s_X9_needRange  hv_1) ⟨tg_641, tg_90, ok_X9_needRange, Nat.le_of_ble_eq_true rfl, Nat.le_of_ble_eq_true rfl⟩ tg_639 tg_640 rfl (Nat.le_of_ble_eq_true rfl) dX9_needFile_3 ⟨Nat.le_of_ble_eq_true rfl, Nat.le_of_ble_eq_true rfl⟩ ?_
  refine G.iload_n C 1 dX9_needFile_6 rfl rfl ?_
  refine G.iconst (v := (0 : Int32)) C dX9_needFile_7 (by decide) ?_
  refine G.bipush (v := (7 : Int32)) C dX9_needFile_8 (by decide) ?_
  rcases orx_ex h with h | h
  · exact G.callST (rest := []) C hT (tt_X9_needRange hl  h) ⟨tg_641, tg_90, ok_X9_needRange, Nat.le_of_ble_eq_true rfl, Nat.le_of_ble_eq_true rfl⟩ tg_639 tg_640 rfl (Nat.le_of_ble_eq_true rfl) dX9_needFile_10 ⟨Nat.le_refl 1, Nat.le_refl 6⟩
  obtain ⟨u_4, hv_3, h⟩ := bd_ex h
  refine G.callS (rest := []) C (s_X9_needRange  hv_3) ⟨tg_641, tg_90, ok_X9_needRange, Nat.le_of_ble_eq_true rfl, Nat.le_of_ble_eq_true rfl⟩ tg_639 tg_640 rfl (Nat.le_of_ble_eq_true rfl) dX9_needFile_10 ⟨Nat.le_of_ble_eq_true rfl, Nat.le_of_ble_eq_true rfl⟩ ?_
  refine G.iload_n C 2 dX9_needFile_13 rfl rfl ?_
  refine G.iconst (v := (1 : Int32)) C dX9_needFile_14 (by decide) ?_
  refine G.bipush (v := (8 : Int32)) C dX9_needFile_15 (by decide) ?_
  rcases orx_ex h with h | h
  · exact G.callST (rest := []) C hT (tt_X9_needRange hl  h) ⟨tg_641, tg_90, ok_X9_needRange, Nat.le_of_ble_eq_true rfl, Nat.le_of_ble_eq_true rfl⟩ tg_639 tg_640 rfl (Nat.le_of_ble_eq_true rfl) dX9_needFile_17 ⟨Nat.le_refl 1, Nat.le_refl 6⟩
  cases h
def t_X9_file_0 (x1 : Int32) (x2 : Int32) (x3 : Int32) (M : Mm) : Option Nat := orx (t_X9_needFile x1 x2 x3) (none)
set_option maxHeartbeats 4000000 in
set_option maxRecDepth 100000 in
theorem tt_X9_file_0 {l : Launch} {E : Ev} {x1 : Int32} {x2 : Int32} {x3 : Int32} {M : Mm} {k : Nat} (hl : l.stackTraces = false) (hE : Has shC (eH E)) (h : t_X9_file_0 x1 x2 x3 M = some k) : MetT l yX9_file cX9_file 4 (some .int) 8 E [.ref (eA E 0), .int x1, .int x2, .int x3] M k := by
  refine MetT.of (by decide +kernel) (Nat.le_of_ble_eq_true rfl) ?_
  intro p e s m below meth c C hT
  refine G.sub [0, 1, 2, 3] (L' := [(0, .ref (eA E 0)), (1, .int x1), (2, .int x2), (3, .int x3)]) rfl ?_
  unfold t_X9_file_0 at h
  refine G.iload_n C 1 dX9_file_0 rfl rfl ?_
  refine G.iload_n C 2 dX9_file_1 rfl rfl ?_
  refine G.iload_n C 3 dX9_file_2 rfl rfl ?_
  rcases orx_ex h with h | h
  · exact G.callST (rest := []) C hT (tt_X9_needFile hl  h) ⟨tg_1076, tg_90, ok_X9_needFile, Nat.le_of_ble_eq_true rfl, Nat.le_of_ble_eq_true rfl⟩ tg_1074 tg_1075 rfl (Nat.le_of_ble_eq_true rfl) dX9_file_3 ⟨Nat.le_refl 1, Nat.le_refl 6⟩
  cases h
def t_X9_punch_0 (x1 : Int32) (M : Mm) : Option Nat := orx (t_X9_needRange x1 (0 : Int32) (2 : Int32)) (none)
set_option maxHeartbeats 4000000 in
set_option maxRecDepth 100000 in
theorem tt_X9_punch_0 {l : Launch} {E : Ev} {x1 : Int32} {M : Mm} {k : Nat} (hl : l.stackTraces = false) (hE : Has shC (eH E)) (h : t_X9_punch_0 x1 M = some k) : MetT l yX9_punch cX9_punch 4 (some .int) 7 E [.ref (eA E 0), .int x1] M k := by
  refine MetT.of (by decide +kernel) (Nat.le_of_ble_eq_true rfl) ?_
  intro p e s m below meth c C hT
  refine G.sub [0, 1] (L' := [(0, .ref (eA E 0)), (1, .int x1)]) rfl ?_
  unfold t_X9_punch_0 at h
  refine G.iload_n C 1 dX9_punch_0 rfl rfl ?_
  refine G.iconst (v := (0 : Int32)) C dX9_punch_1 (by decide) ?_
  refine G.iconst (v := (2 : Int32)) C dX9_punch_2 (by decide) ?_
  rcases orx_ex h with h | h
  · exact G.callST (rest := []) C hT (tt_X9_needRange hl  h) ⟨tg_641, tg_90, ok_X9_needRange, Nat.le_of_ble_eq_true rfl, Nat.le_of_ble_eq_true rfl⟩ tg_639 tg_640 rfl (Nat.le_of_ble_eq_true rfl) dX9_punch_3 ⟨Nat.le_refl 1, Nat.le_refl 6⟩
  cases h
def t_X9_addBlow_0 (x1 : Int32) (M : Mm) : Option Nat := orx (t_X9_needHollow_0 x1 M) (none)
set_option maxHeartbeats 4000000 in
set_option maxRecDepth 100000 in
theorem tt_X9_addBlow_0 {l : Launch} {E : Ev} {x1 : Int32} {M : Mm} {k : Nat} (hl : l.stackTraces = false) (hE : Has shC (eH E)) (h : t_X9_addBlow_0 x1 M = some k) : MetT l yX9_addBlow cX9_addBlow 2 (some .int) 7 E [.ref (eA E 0), .int x1] M k := by
  refine MetT.of (by decide +kernel) (Nat.le_of_ble_eq_true rfl) ?_
  intro p e s m below meth c C hT
  refine G.sub [0, 1] (L' := [(0, .ref (eA E 0)), (1, .int x1)]) rfl ?_
  unfold t_X9_addBlow_0 at h
  refine G.aload_n C 0 dX9_addBlow_0 rfl rfl ?_
  refine G.iload_n C 1 dX9_addBlow_1 rfl rfl ?_
  rcases orx_ex h with h | h
  · exact G.callVT (rest := []) C hT (tt_X9_needHollow_0 hl hE h) ⟨tg_941, tg_90, ok_X9_needHollow, Nat.le_of_ble_eq_true rfl, Nat.le_of_ble_eq_true rfl⟩ tg_938 tg_940 tg_23 (sc_0 hE) rfl rfl (Nat.le_of_ble_eq_true rfl) dX9_addBlow_2 ⟨Nat.le_refl 1, Nat.le_refl 6⟩
  cases h
def t_X9_addFile_0 (x1 : Int32) (x2 : Int32) (x3 : Int32) (M : Mm) : Option Nat := orx (t_X9_needFile x1 x2 x3) (none)
set_option maxHeartbeats 4000000 in
set_option maxRecDepth 100000 in
theorem tt_X9_addFile_0 {l : Launch} {E : Ev} {x1 : Int32} {x2 : Int32} {x3 : Int32} {M : Mm} {k : Nat} (hl : l.stackTraces = false) (hE : Has shC (eH E)) (h : t_X9_addFile_0 x1 x2 x3 M = some k) : MetT l yX9_addFile cX9_addFile 4 (some .int) 8 E [.ref (eA E 0), .int x1, .int x2, .int x3] M k := by
  refine MetT.of (by decide +kernel) (Nat.le_of_ble_eq_true rfl) ?_
  intro p e s m below meth c C hT
  refine G.sub [0, 1, 2, 3] (L' := [(0, .ref (eA E 0)), (1, .int x1), (2, .int x2), (3, .int x3)]) rfl ?_
  unfold t_X9_addFile_0 at h
  refine G.iload_n C 1 dX9_addFile_0 rfl rfl ?_
  refine G.iload_n C 2 dX9_addFile_1 rfl rfl ?_
  refine G.iload_n C 3 dX9_addFile_2 rfl rfl ?_
  rcases orx_ex h with h | h
  · exact G.callST (rest := []) C hT (tt_X9_needFile hl  h) ⟨tg_1076, tg_90, ok_X9_needFile, Nat.le_of_ble_eq_true rfl, Nat.le_of_ble_eq_true rfl⟩ tg_1074 tg_1075 rfl (Nat.le_of_ble_eq_true rfl) dX9_addFile_3 ⟨Nat.le_refl 1, Nat.le_refl 6⟩
  cases h
def t_X9_judge_0 (x1 : Int32) (x2 : Int32) (M : Mm) : Option Nat := orx (t_X9_needLetter_0 x1 M) (bd (f_X9_needLetter_0 x1 M) fun _ => orx (t_X9_needRange x2 (0 : Int32) (1 : Int32)) (none))
set_option maxHeartbeats 4000000 in
set_option maxRecDepth 100000 in
theorem tt_X9_judge_0 {l : Launch} {E : Ev} {x1 : Int32} {x2 : Int32} {M : Mm} {k : Nat} (hl : l.stackTraces = false) (hE : Has shC (eH E)) (h : t_X9_judge_0 x1 x2 M = some k) : MetT l yX9_judge cX9_judge 3 (some .int) 7 E [.ref (eA E 0), .int x1, .int x2] M k := by
  refine MetT.of (by decide +kernel) (Nat.le_of_ble_eq_true rfl) ?_
  intro p e s m below meth c C hT
  refine G.sub [0, 1, 2] (L' := [(0, .ref (eA E 0)), (1, .int x1), (2, .int x2)]) rfl ?_
  unfold t_X9_judge_0 at h
  refine G.aload_n C 0 dX9_judge_0 rfl rfl ?_
  refine G.iload_n C 1 dX9_judge_1 rfl rfl ?_
  rcases orx_ex h with h | h
  · exact G.callVT (rest := []) C hT (tt_X9_needLetter_0 hl hE h) ⟨tg_894, tg_90, ok_X9_needLetter, Nat.le_of_ble_eq_true rfl, Nat.le_of_ble_eq_true rfl⟩ tg_891 tg_893 tg_22 (sc_0 hE) rfl rfl (Nat.le_of_ble_eq_true rfl) dX9_judge_2 ⟨Nat.le_refl 1, Nat.le_refl 6⟩
  obtain ⟨u_2, hv_1, h⟩ := bd_ex h
  refine G.callV (rest := []) C (s_X9_needLetter_0 hE  hv_1) ⟨tg_894, tg_90, ok_X9_needLetter, Nat.le_of_ble_eq_true rfl, Nat.le_of_ble_eq_true rfl⟩ tg_891 tg_893 tg_22 (sc_0 hE) rfl rfl (Nat.le_of_ble_eq_true rfl) dX9_judge_2 ⟨Nat.le_of_ble_eq_true rfl, Nat.le_of_ble_eq_true rfl⟩ ?_
  refine G.iload_n C 2 dX9_judge_5 rfl rfl ?_
  refine G.iconst (v := (0 : Int32)) C dX9_judge_6 (by decide) ?_
  refine G.iconst (v := (1 : Int32)) C dX9_judge_7 (by decide) ?_
  rcases orx_ex h with h | h
  · exact G.callST (rest := []) C hT (tt_X9_needRange hl  h) ⟨tg_641, tg_90, ok_X9_needRange, Nat.le_of_ble_eq_true rfl, Nat.le_of_ble_eq_true rfl⟩ tg_639 tg_640 rfl (Nat.le_of_ble_eq_true rfl) dX9_judge_8 ⟨Nat.le_refl 1, Nat.le_refl 6⟩
  cases h
def t_X9_layCutting_0 (x1 : Int32) (x2 : Int32) (x3 : Int32) (M : Mm) : Option Nat := orx (t_X9_needLetter_0 x1 M) (bd (f_X9_needLetter_0 x1 M) fun _ => orx (t_X9_needRange x2 (0 : Int32) (15 : Int32)) (bd (f_X9_needRange x2 (0 : Int32) (15 : Int32)) fun _ => orx (t_X9_needRange x3 (0 : Int32) (15 : Int32)) (none)))
set_option maxHeartbeats 4000000 in
set_option maxRecDepth 100000 in
theorem tt_X9_layCutting_0 {l : Launch} {E : Ev} {x1 : Int32} {x2 : Int32} {x3 : Int32} {M : Mm} {k : Nat} (hl : l.stackTraces = false) (hE : Has shC (eH E)) (h : t_X9_layCutting_0 x1 x2 x3 M = some k) : MetT l yX9_layCutting cX9_layCutting 6 none 26 E [.ref (eA E 0), .int x1, .int x2, .int x3] M k := by
  refine MetT.of (by decide +kernel) (Nat.le_of_ble_eq_true rfl) ?_
  intro p e s m below meth c C hT
  refine G.sub [0, 1, 2, 3] (L' := [(0, .ref (eA E 0)), (1, .int x1), (2, .int x2), (3, .int x3)]) rfl ?_
  unfold t_X9_layCutting_0 at h
  refine G.aload_n C 0 dX9_layCutting_0 rfl rfl ?_
  refine G.iload_n C 1 dX9_layCutting_1 rfl rfl ?_
  rcases orx_ex h with h | h
  · exact G.callVT (rest := []) C hT (tt_X9_needLetter_0 hl hE h) ⟨tg_894, tg_90, ok_X9_needLetter, Nat.le_of_ble_eq_true rfl, Nat.le_of_ble_eq_true rfl⟩ tg_891 tg_893 tg_22 (sc_0 hE) rfl rfl (Nat.le_of_ble_eq_true rfl) dX9_layCutting_2 ⟨Nat.le_refl 1, Nat.le_refl 6⟩
  obtain ⟨u_2, hv_1, h⟩ := bd_ex h
  refine G.callV (rest := []) C (s_X9_needLetter_0 hE  hv_1) ⟨tg_894, tg_90, ok_X9_needLetter, Nat.le_of_ble_eq_true rfl, Nat.le_of_ble_eq_true rfl⟩ tg_891 tg_893 tg_22 (sc_0 hE) rfl rfl (Nat.le_of_ble_eq_true rfl) dX9_layCutting_2 ⟨Nat.le_of_ble_eq_true rfl, Nat.le_of_ble_eq_true rfl⟩ ?_
  refine G.iload_n C 2 dX9_layCutting_5 rfl rfl ?_
  refine G.iconst (v := (0 : Int32)) C dX9_layCutting_6 (by decide) ?_
  refine G.bipush (v := (15 : Int32)) C dX9_layCutting_7 (by decide) ?_
  rcases orx_ex h with h | h
  · exact G.callST (rest := []) C hT (tt_X9_needRange hl  h) ⟨tg_641, tg_90, ok_X9_needRange, Nat.le_of_ble_eq_true rfl, Nat.le_of_ble_eq_true rfl⟩ tg_639 tg_640 rfl (Nat.le_of_ble_eq_true rfl) dX9_layCutting_9 ⟨Nat.le_refl 1, Nat.le_refl 6⟩
  obtain ⟨u_4, hv_3, h⟩ := bd_ex h
  refine G.callS (rest := []) C (s_X9_needRange  hv_3) ⟨tg_641, tg_90, ok_X9_needRange, Nat.le_of_ble_eq_true rfl, Nat.le_of_ble_eq_true rfl⟩ tg_639 tg_640 rfl (Nat.le_of_ble_eq_true rfl) dX9_layCutting_9 ⟨Nat.le_of_ble_eq_true rfl, Nat.le_of_ble_eq_true rfl⟩ ?_
  refine G.iload_n C 3 dX9_layCutting_12 rfl rfl ?_
  refine G.iconst (v := (0 : Int32)) C dX9_layCutting_13 (by decide) ?_
  refine G.bipush (v := (15 : Int32)) C dX9_layCutting_14 (by decide) ?_
  rcases orx_ex h with h | h
  · exact G.callST (rest := []) C hT (tt_X9_needRange hl  h) ⟨tg_641, tg_90, ok_X9_needRange, Nat.le_of_ble_eq_true rfl, Nat.le_of_ble_eq_true rfl⟩ tg_639 tg_640 rfl (Nat.le_of_ble_eq_true rfl) dX9_layCutting_16 ⟨Nat.le_refl 1, Nat.le_refl 6⟩
  cases h
def t_X9_hours_0 (x1 : Int32) (x2 : Int32) (x3 : Int32) (M : Mm) : Option Nat := orx (t_X9_layCutting_0 x1 x2 x3 M) (none)
set_option maxHeartbeats 4000000 in
set_option maxRecDepth 100000 in
theorem tt_X9_hours_0 {l : Launch} {E : Ev} {x1 : Int32} {x2 : Int32} {x3 : Int32} {M : Mm} {k : Nat} (hl : l.stackTraces = false) (hE : Has shC (eH E)) (h : t_X9_hours_0 x1 x2 x3 M = some k) : MetT l yX9_hours cX9_hours 4 (some .long) 27 E [.ref (eA E 0), .int x1, .int x2, .int x3] M k := by
  refine MetT.of (by decide +kernel) (Nat.le_of_ble_eq_true rfl) ?_
  intro p e s m below meth c C hT
  refine G.sub [0, 1, 2, 3] (L' := [(0, .ref (eA E 0)), (1, .int x1), (2, .int x2), (3, .int x3)]) rfl ?_
  unfold t_X9_hours_0 at h
  refine G.aload_n C 0 dX9_hours_0 rfl rfl ?_
  refine G.iload_n C 1 dX9_hours_1 rfl rfl ?_
  refine G.iload_n C 2 dX9_hours_2 rfl rfl ?_
  refine G.iload_n C 3 dX9_hours_3 rfl rfl ?_
  rcases orx_ex h with h | h
  · exact G.callVT (rest := []) C hT (tt_X9_layCutting_0 hl hE h) ⟨tg_1138, tg_90, ok_X9_layCutting, Nat.le_of_ble_eq_true rfl, Nat.le_of_ble_eq_true rfl⟩ tg_1135 tg_1137 tg_28 (sc_0 hE) rfl rfl (Nat.le_of_ble_eq_true rfl) dX9_hours_4 ⟨Nat.le_refl 1, Nat.le_refl 6⟩
  cases h
def t_X9_order_0 (x1 : Int32) (x2 : Int32) (x3 : Int32) (x4 : Int32) (M : Mm) : Option Nat := orx (t_X9_layCutting_0 x1 x2 x3 M) (none)
set_option maxHeartbeats 4000000 in
set_option maxRecDepth 100000 in
theorem tt_X9_order_0 {l : Launch} {E : Ev} {x1 : Int32} {x2 : Int32} {x3 : Int32} {x4 : Int32} {M : Mm} {k : Nat} (hl : l.stackTraces = false) (hE : Has shC (eH E)) (h : t_X9_order_0 x1 x2 x3 x4 M = some k) : MetT l yX9_order cX9_order 5 (some .int) 27 E [.ref (eA E 0), .int x1, .int x2, .int x3, .int x4] M k := by
  refine MetT.of (by decide +kernel) (Nat.le_of_ble_eq_true rfl) ?_
  intro p e s m below meth c C hT
  refine G.sub [0, 1, 2, 3, 4] (L' := [(0, .ref (eA E 0)), (1, .int x1), (2, .int x2), (3, .int x3), (4, .int x4)]) rfl ?_
  unfold t_X9_order_0 at h
  refine G.aload_n C 0 dX9_order_0 rfl rfl ?_
  refine G.iload_n C 1 dX9_order_1 rfl rfl ?_
  refine G.iload_n C 2 dX9_order_2 rfl rfl ?_
  refine G.iload_n C 3 dX9_order_3 rfl rfl ?_
  rcases orx_ex h with h | h
  · exact G.callVT (rest := []) C hT (tt_X9_layCutting_0 hl hE h) ⟨tg_1138, tg_90, ok_X9_layCutting, Nat.le_of_ble_eq_true rfl, Nat.le_of_ble_eq_true rfl⟩ tg_1135 tg_1137 tg_28 (sc_0 hE) rfl rfl (Nat.le_of_ble_eq_true rfl) dX9_order_4 ⟨Nat.le_refl 1, Nat.le_refl 6⟩
  cases h
def t_X9_black_0 (x1 : Int32) (x2 : Int32) (M : Mm) : Option Nat := orx (t_X9_needLetter_0 x1 M) (bd (f_X9_needLetter_0 x1 M) fun _ => orx (t_X9_needRange x2 (1 : Int32) (9 : Int32)) (none))
set_option maxHeartbeats 4000000 in
set_option maxRecDepth 100000 in
theorem tt_X9_black_0 {l : Launch} {E : Ev} {x1 : Int32} {x2 : Int32} {M : Mm} {k : Nat} (hl : l.stackTraces = false) (hE : Has shC (eH E)) (h : t_X9_black_0 x1 x2 M = some k) : MetT l yX9_black cX9_black 3 (some .int) 7 E [.ref (eA E 0), .int x1, .int x2] M k := by
  refine MetT.of (by decide +kernel) (Nat.le_of_ble_eq_true rfl) ?_
  intro p e s m below meth c C hT
  refine G.sub [0, 1, 2] (L' := [(0, .ref (eA E 0)), (1, .int x1), (2, .int x2)]) rfl ?_
  unfold t_X9_black_0 at h
  refine G.aload_n C 0 dX9_black_0 rfl rfl ?_
  refine G.iload_n C 1 dX9_black_1 rfl rfl ?_
  rcases orx_ex h with h | h
  · exact G.callVT (rest := []) C hT (tt_X9_needLetter_0 hl hE h) ⟨tg_894, tg_90, ok_X9_needLetter, Nat.le_of_ble_eq_true rfl, Nat.le_of_ble_eq_true rfl⟩ tg_891 tg_893 tg_22 (sc_0 hE) rfl rfl (Nat.le_of_ble_eq_true rfl) dX9_black_2 ⟨Nat.le_refl 1, Nat.le_refl 6⟩
  obtain ⟨u_2, hv_1, h⟩ := bd_ex h
  refine G.callV (rest := []) C (s_X9_needLetter_0 hE  hv_1) ⟨tg_894, tg_90, ok_X9_needLetter, Nat.le_of_ble_eq_true rfl, Nat.le_of_ble_eq_true rfl⟩ tg_891 tg_893 tg_22 (sc_0 hE) rfl rfl (Nat.le_of_ble_eq_true rfl) dX9_black_2 ⟨Nat.le_of_ble_eq_true rfl, Nat.le_of_ble_eq_true rfl⟩ ?_
  refine G.iload_n C 2 dX9_black_5 rfl rfl ?_
  refine G.iconst (v := (1 : Int32)) C dX9_black_6 (by decide) ?_
  refine G.bipush (v := (9 : Int32)) C dX9_black_7 (by decide) ?_
  rcases orx_ex h with h | h
  · exact G.callST (rest := []) C hT (tt_X9_needRange hl  h) ⟨tg_641, tg_90, ok_X9_needRange, Nat.le_of_ble_eq_true rfl, Nat.le_of_ble_eq_true rfl⟩ tg_639 tg_640 rfl (Nat.le_of_ble_eq_true rfl) dX9_black_9 ⟨Nat.le_refl 1, Nat.le_refl 6⟩
  cases h
def t_X9_colour_0 (x1 : Int32) (x2 : Int32) (x3 : Int32) (M : Mm) : Option Nat := if x1 < 0 then (some 3) else (if x1 < (M.1 11 8) then (orx (t_X9_needRange x2 (1 : Int32) (9 : Int32)) (bd (f_X9_needRange x2 (1 : Int32) (9 : Int32)) fun _ => orx (t_X9_needRange x3 (0 : Int32) (9765624 : Int32)) (none))) else (some 3))
set_option maxHeartbeats 4000000 in
set_option maxRecDepth 100000 in
theorem tt_X9_colour_0 {l : Launch} {E : Ev} {x1 : Int32} {x2 : Int32} {x3 : Int32} {M : Mm} {k : Nat} (hl : l.stackTraces = false) (hE : Has shC (eH E)) (h : t_X9_colour_0 x1 x2 x3 M = some k) : MetT l yX9_colour cX9_colour 4 (some .int) 7 E [.ref (eA E 0), .int x1, .int x2, .int x3] M k := by
  refine MetT.of (by decide +kernel) (Nat.le_of_ble_eq_true rfl) ?_
  intro p e s m below meth c C hT
  refine G.sub [0, 1, 2, 3] (L' := [(0, .ref (eA E 0)), (1, .int x1), (2, .int x2), (3, .int x3)]) rfl ?_
  unfold t_X9_colour_0 at h
  refine G.iload_n C 1 dX9_colour_0 rfl rfl ?_
  refine G.if_lt (tgt := 15) C dX9_colour_1 (by decide) (fun hc => ?_) (fun hc => ?_)
  · have h := it_t h hc
    cases h
    exact G.throwS (k := 3) C hT hl 11 ex_256_260 rfl dX9_colour_15 dX9_colour_18 dX9_colour_19 dX9_colour_22 dX9_colour_25 ⟨Nat.le_of_ble_eq_true rfl, Nat.le_of_ble_eq_true rfl, Nat.le_refl 1, Nat.le_refl 6⟩ (Nat.le_of_ble_eq_true rfl)
  · have h := it_f h hc
    refine G.iload_n C 1 dX9_colour_4 rfl rfl ?_
    refine G.aload_n C 0 dX9_colour_5 rfl rfl ?_
    refine G.getR (k := 1) C k_X9 (sc_0 hE) rfl (by decide) tg_480 dX9_colour_6 ?_
    refine G.getIN (k := 8) C k_X7 (sc_11 hE) rfl (by decide) tw_164 dX9_colour_9 ?_
    refine G.icmp_lt (tgt := 26) C dX9_colour_12 (by decide) (fun hc => ?_) (fun hc => ?_)
    · have h := it_t h hc
      refine G.iload_n C 2 dX9_colour_26 rfl rfl ?_
      refine G.iconst (v := (1 : Int32)) C dX9_colour_27 (by decide) ?_
      refine G.bipush (v := (9 : Int32)) C dX9_colour_28 (by decide) ?_
      rcases orx_ex h with h | h
      · exact G.callST (rest := []) C hT (tt_X9_needRange hl  h) ⟨tg_641, tg_90, ok_X9_needRange, Nat.le_of_ble_eq_true rfl, Nat.le_of_ble_eq_true rfl⟩ tg_639 tg_640 rfl (Nat.le_of_ble_eq_true rfl) dX9_colour_30 ⟨Nat.le_refl 1, Nat.le_refl 6⟩
      obtain ⟨u_2, hv_1, h⟩ := bd_ex h
      refine G.callS (rest := []) C (s_X9_needRange  hv_1) ⟨tg_641, tg_90, ok_X9_needRange, Nat.le_of_ble_eq_true rfl, Nat.le_of_ble_eq_true rfl⟩ tg_639 tg_640 rfl (Nat.le_of_ble_eq_true rfl) dX9_colour_30 ⟨Nat.le_of_ble_eq_true rfl, Nat.le_of_ble_eq_true rfl⟩ ?_
      refine G.iload_n C 3 dX9_colour_33 rfl rfl ?_
      refine G.iconst (v := (0 : Int32)) C dX9_colour_34 (by decide) ?_
      refine G.ldcw C tg_1205 dX9_colour_35 ?_
      rcases orx_ex h with h | h
      · exact G.callST (rest := []) C hT (tt_X9_needRange hl  h) ⟨tg_641, tg_90, ok_X9_needRange, Nat.le_of_ble_eq_true rfl, Nat.le_of_ble_eq_true rfl⟩ tg_639 tg_640 rfl (Nat.le_of_ble_eq_true rfl) dX9_colour_38 ⟨Nat.le_refl 1, Nat.le_refl 6⟩
      cases h
    · have h := it_f h hc
      cases h
      exact G.throwS (k := 3) C hT hl 11 ex_256_260 rfl dX9_colour_15 dX9_colour_18 dX9_colour_19 dX9_colour_22 dX9_colour_25 ⟨Nat.le_of_ble_eq_true rfl, Nat.le_of_ble_eq_true rfl, Nat.le_refl 1, Nat.le_refl 6⟩ (Nat.le_of_ble_eq_true rfl)
def t_X9_uneven_0 (x1 : Int32) (x2 : Int32) (M : Mm) : Option Nat := orx (t_X9_needRange x1 (1 : Int32) (9 : Int32)) (bd (f_X9_needRange x1 (1 : Int32) (9 : Int32)) fun _ => orx (t_X9_needRange x2 (0 : Int32) (9765624 : Int32)) (none))
set_option maxHeartbeats 4000000 in
set_option maxRecDepth 100000 in
theorem tt_X9_uneven_0 {l : Launch} {E : Ev} {x1 : Int32} {x2 : Int32} {M : Mm} {k : Nat} (hl : l.stackTraces = false) (hE : Has shC (eH E)) (h : t_X9_uneven_0 x1 x2 M = some k) : MetT l yX9_uneven cX9_uneven 3 (some .int) 7 E [.ref (eA E 0), .int x1, .int x2] M k := by
  refine MetT.of (by decide +kernel) (Nat.le_of_ble_eq_true rfl) ?_
  intro p e s m below meth c C hT
  refine G.sub [0, 1, 2] (L' := [(0, .ref (eA E 0)), (1, .int x1), (2, .int x2)]) rfl ?_
  unfold t_X9_uneven_0 at h
  refine G.iload_n C 1 dX9_uneven_0 rfl rfl ?_
  refine G.iconst (v := (1 : Int32)) C dX9_uneven_1 (by decide) ?_
  refine G.bipush (v := (9 : Int32)) C dX9_uneven_2 (by decide) ?_
  rcases orx_ex h with h | h
  · exact G.callST (rest := []) C hT (tt_X9_needRange hl  h) ⟨tg_641, tg_90, ok_X9_needRange, Nat.le_of_ble_eq_true rfl, Nat.le_of_ble_eq_true rfl⟩ tg_639 tg_640 rfl (Nat.le_of_ble_eq_true rfl) dX9_uneven_4 ⟨Nat.le_refl 1, Nat.le_refl 6⟩
  obtain ⟨u_2, hv_1, h⟩ := bd_ex h
  refine G.callS (rest := []) C (s_X9_needRange  hv_1) ⟨tg_641, tg_90, ok_X9_needRange, Nat.le_of_ble_eq_true rfl, Nat.le_of_ble_eq_true rfl⟩ tg_639 tg_640 rfl (Nat.le_of_ble_eq_true rfl) dX9_uneven_4 ⟨Nat.le_of_ble_eq_true rfl, Nat.le_of_ble_eq_true rfl⟩ ?_
  refine G.iload_n C 2 dX9_uneven_7 rfl rfl ?_
  refine G.iconst (v := (0 : Int32)) C dX9_uneven_8 (by decide) ?_
  refine G.ldcw C tg_1205 dX9_uneven_9 ?_
  rcases orx_ex h with h | h
  · exact G.callST (rest := []) C hT (tt_X9_needRange hl  h) ⟨tg_641, tg_90, ok_X9_needRange, Nat.le_of_ble_eq_true rfl, Nat.le_of_ble_eq_true rfl⟩ tg_639 tg_640 rfl (Nat.le_of_ble_eq_true rfl) dX9_uneven_12 ⟨Nat.le_refl 1, Nat.le_refl 6⟩
  cases h
def t_X9_even_0 (x1 : Int32) (M : Mm) : Option Nat := orx (t_X9_needRange x1 (1 : Int32) (9 : Int32)) (none)
set_option maxHeartbeats 4000000 in
set_option maxRecDepth 100000 in
theorem tt_X9_even_0 {l : Launch} {E : Ev} {x1 : Int32} {M : Mm} {k : Nat} (hl : l.stackTraces = false) (hE : Has shC (eH E)) (h : t_X9_even_0 x1 M = some k) : MetT l yX9_even cX9_even 2 (some .int) 15 E [.ref (eA E 0), .int x1] M k := by
  refine MetT.of (by decide +kernel) (Nat.le_of_ble_eq_true rfl) ?_
  intro p e s m below meth c C hT
  refine G.sub [0, 1] (L' := [(0, .ref (eA E 0)), (1, .int x1)]) rfl ?_
  unfold t_X9_even_0 at h
  refine G.iload_n C 1 dX9_even_0 rfl rfl ?_
  refine G.iconst (v := (1 : Int32)) C dX9_even_1 (by decide) ?_
  refine G.bipush (v := (9 : Int32)) C dX9_even_2 (by decide) ?_
  rcases orx_ex h with h | h
  · exact G.callST (rest := []) C hT (tt_X9_needRange hl  h) ⟨tg_641, tg_90, ok_X9_needRange, Nat.le_of_ble_eq_true rfl, Nat.le_of_ble_eq_true rfl⟩ tg_639 tg_640 rfl (Nat.le_of_ble_eq_true rfl) dX9_even_4 ⟨Nat.le_refl 1, Nat.le_refl 6⟩
  cases h
def t_X9_press_0 (x1 : Int32) (M : Mm) : Option Nat := orx (t_X9_needRange x1 (0 : Int32) (99999 : Int32)) (none)
set_option maxHeartbeats 4000000 in
set_option maxRecDepth 100000 in
theorem tt_X9_press_0 {l : Launch} {E : Ev} {x1 : Int32} {M : Mm} {k : Nat} (hl : l.stackTraces = false) (hE : Has shC (eH E)) (h : t_X9_press_0 x1 M = some k) : MetT l yX9_press cX9_press 2 (some .int) 7 E [.ref (eA E 0), .int x1] M k := by
  refine MetT.of (by decide +kernel) (Nat.le_of_ble_eq_true rfl) ?_
  intro p e s m below meth c C hT
  refine G.sub [0, 1] (L' := [(0, .ref (eA E 0)), (1, .int x1)]) rfl ?_
  unfold t_X9_press_0 at h
  refine G.iload_n C 1 dX9_press_0 rfl rfl ?_
  refine G.iconst (v := (0 : Int32)) C dX9_press_1 (by decide) ?_
  refine G.ldcw C tg_1285 dX9_press_2 ?_
  rcases orx_ex h with h | h
  · exact G.callST (rest := []) C hT (tt_X9_needRange hl  h) ⟨tg_641, tg_90, ok_X9_needRange, Nat.le_of_ble_eq_true rfl, Nat.le_of_ble_eq_true rfl⟩ tg_639 tg_640 rfl (Nat.le_of_ble_eq_true rfl) dX9_press_5 ⟨Nat.le_refl 1, Nat.le_refl 6⟩
  cases h
def t_X9_print_0 (x1 : Int64) (M : Mm) : Option Nat := if x1 = (0 : Int64) then (some 2) else (none)
set_option maxHeartbeats 4000000 in
set_option maxRecDepth 100000 in
theorem tt_X9_print_0 {l : Launch} {E : Ev} {x1 : Int64} {M : Mm} {k : Nat} (hl : l.stackTraces = false) (hE : Has shC (eH E)) (h : t_X9_print_0 x1 M = some k) : MetT l yX9_print cX9_print 3 (some .int) 6 E [.ref (eA E 0), .long x1] M k := by
  refine MetT.of (by decide +kernel) (Nat.le_of_ble_eq_true rfl) ?_
  intro p e s m below meth c C hT
  refine G.sub [0, 1] (L' := [(0, .ref (eA E 0)), (1, .long x1)]) rfl ?_
  unfold t_X9_print_0 at h
  refine G.lload_n C 1 dX9_print_0 rfl rfl ?_
  refine G.lconst (v := (0 : Int64)) C dX9_print_1 (by decide) ?_
  refine G.lcmp C dX9_print_2 (G.if_ne (tgt := 17) C dX9_print_3 (by decide) (fun hc => ?_) (fun hc => ?_))
  · have h := it_f h (lgc_ne.mp hc)
    cases h
  · have h := it_t h (lgc_eq.mp hc)
    cases h
    exact G.throwS (k := 2) C hT hl 12 ex_278_282 rfl dX9_print_6 dX9_print_9 dX9_print_10 dX9_print_13 dX9_print_16 ⟨Nat.le_of_ble_eq_true rfl, Nat.le_of_ble_eq_true rfl, Nat.le_refl 1, Nat.le_refl 6⟩ (Nat.le_of_ble_eq_true rfl)
def t_X9_needPrint_0 (x1 : Int32) (M : Mm) : Option Nat := if x1 < 0 then (some 3) else (if x1 < (M.1 50 7) then (none) else (some 3))
set_option maxHeartbeats 4000000 in
set_option maxRecDepth 100000 in
theorem tt_X9_needPrint_0 {l : Launch} {E : Ev} {x1 : Int32} {M : Mm} {k : Nat} (hl : l.stackTraces = false) (hE : Has shC (eH E)) (h : t_X9_needPrint_0 x1 M = some k) : MetT l yX9_needPrint cX9_needPrint 2 none 6 E [.ref (eA E 0), .int x1] M k := by
  refine MetT.of (by decide +kernel) (Nat.le_of_ble_eq_true rfl) ?_
  intro p e s m below meth c C hT
  refine G.sub [0, 1] (L' := [(0, .ref (eA E 0)), (1, .int x1)]) rfl ?_
  unfold t_X9_needPrint_0 at h
  refine G.iload_n C 1 dX9_needPrint_0 rfl rfl ?_
  refine G.if_lt (tgt := 15) C dX9_needPrint_1 (by decide) (fun hc => ?_) (fun hc => ?_)
  · have h := it_t h hc
    cases h
    exact G.throwS (k := 3) C hT hl 13 ex_256_260 rfl dX9_needPrint_15 dX9_needPrint_18 dX9_needPrint_19 dX9_needPrint_22 dX9_needPrint_25 ⟨Nat.le_of_ble_eq_true rfl, Nat.le_of_ble_eq_true rfl, Nat.le_refl 1, Nat.le_refl 6⟩ (Nat.le_of_ble_eq_true rfl)
  · have h := it_f h hc
    refine G.iload_n C 1 dX9_needPrint_4 rfl rfl ?_
    refine G.aload_n C 0 dX9_needPrint_5 rfl rfl ?_
    refine G.getR (k := 8) C k_X9 (sc_0 hE) rfl (by decide) tg_487 dX9_needPrint_6 ?_
    refine G.getIN (k := 7) C k_X0 (sc_50 hE) rfl (by decide) tw_382 dX9_needPrint_9 ?_
    refine G.icmp_lt (tgt := 26) C dX9_needPrint_12 (by decide) (fun hc => ?_) (fun hc => ?_)
    · have h := it_t h hc
      cases h
    · have h := it_f h hc
      cases h
      exact G.throwS (k := 3) C hT hl 13 ex_256_260 rfl dX9_needPrint_15 dX9_needPrint_18 dX9_needPrint_19 dX9_needPrint_22 dX9_needPrint_25 ⟨Nat.le_of_ble_eq_true rfl, Nat.le_of_ble_eq_true rfl, Nat.le_refl 1, Nat.le_refl 6⟩ (Nat.le_of_ble_eq_true rfl)
def t_X9_kin_0 (x1 : Int32) (x2 : Int32) (x3 : Int32) (x4 : Int32) (M : Mm) : Option Nat := orx (t_X9_needPrint_0 x1 M) (bd (f_X9_needPrint_0 x1 M) fun _ => orx (t_X9_needPrint_0 x2 M) (bd (f_X9_needPrint_0 x2 M) fun _ => orx (t_X9_needRange x3 (0 : Int32) (64 : Int32)) (none)))
set_option maxHeartbeats 4000000 in
set_option maxRecDepth 100000 in
theorem tt_X9_kin_0 {l : Launch} {E : Ev} {x1 : Int32} {x2 : Int32} {x3 : Int32} {x4 : Int32} {M : Mm} {k : Nat} (hl : l.stackTraces = false) (hE : Has shC (eH E)) (h : t_X9_kin_0 x1 x2 x3 x4 M = some k) : MetT l yX9_kin cX9_kin 5 (some .boolean) 7 E [.ref (eA E 0), .int x1, .int x2, .int x3, .int x4] M k := by
  refine MetT.of (by decide +kernel) (Nat.le_of_ble_eq_true rfl) ?_
  intro p e s m below meth c C hT
  refine G.sub [0, 1, 2, 3, 4] (L' := [(0, .ref (eA E 0)), (1, .int x1), (2, .int x2), (3, .int x3), (4, .int x4)]) rfl ?_
  unfold t_X9_kin_0 at h
  refine G.aload_n C 0 dX9_kin_0 rfl rfl ?_
  refine G.iload_n C 1 dX9_kin_1 rfl rfl ?_
  rcases orx_ex h with h | h
  · exact G.callVT (rest := []) C hT (tt_X9_needPrint_0 hl hE h) ⟨tg_1316, tg_90, ok_X9_needPrint, Nat.le_of_ble_eq_true rfl, Nat.le_of_ble_eq_true rfl⟩ tg_1313 tg_1315 tg_40 (sc_0 hE) rfl rfl (Nat.le_of_ble_eq_true rfl) dX9_kin_2 ⟨Nat.le_refl 1, Nat.le_refl 6⟩
  obtain ⟨u_2, hv_1, h⟩ := bd_ex h
  refine G.callV (rest := []) C (s_X9_needPrint_0 hE  hv_1) ⟨tg_1316, tg_90, ok_X9_needPrint, Nat.le_of_ble_eq_true rfl, Nat.le_of_ble_eq_true rfl⟩ tg_1313 tg_1315 tg_40 (sc_0 hE) rfl rfl (Nat.le_of_ble_eq_true rfl) dX9_kin_2 ⟨Nat.le_of_ble_eq_true rfl, Nat.le_of_ble_eq_true rfl⟩ ?_
  refine G.aload_n C 0 dX9_kin_5 rfl rfl ?_
  refine G.iload_n C 2 dX9_kin_6 rfl rfl ?_
  rcases orx_ex h with h | h
  · exact G.callVT (rest := []) C hT (tt_X9_needPrint_0 hl hE h) ⟨tg_1316, tg_90, ok_X9_needPrint, Nat.le_of_ble_eq_true rfl, Nat.le_of_ble_eq_true rfl⟩ tg_1313 tg_1315 tg_40 (sc_0 hE) rfl rfl (Nat.le_of_ble_eq_true rfl) dX9_kin_7 ⟨Nat.le_refl 1, Nat.le_refl 6⟩
  obtain ⟨u_4, hv_3, h⟩ := bd_ex h
  refine G.callV (rest := []) C (s_X9_needPrint_0 hE  hv_3) ⟨tg_1316, tg_90, ok_X9_needPrint, Nat.le_of_ble_eq_true rfl, Nat.le_of_ble_eq_true rfl⟩ tg_1313 tg_1315 tg_40 (sc_0 hE) rfl rfl (Nat.le_of_ble_eq_true rfl) dX9_kin_7 ⟨Nat.le_of_ble_eq_true rfl, Nat.le_of_ble_eq_true rfl⟩ ?_
  refine G.iload_n C 3 dX9_kin_10 rfl rfl ?_
  refine G.iconst (v := (0 : Int32)) C dX9_kin_11 (by decide) ?_
  refine G.bipush (v := (64 : Int32)) C dX9_kin_12 (by decide) ?_
  rcases orx_ex h with h | h
  · exact G.callST (rest := []) C hT (tt_X9_needRange hl  h) ⟨tg_641, tg_90, ok_X9_needRange, Nat.le_of_ble_eq_true rfl, Nat.le_of_ble_eq_true rfl⟩ tg_639 tg_640 rfl (Nat.le_of_ble_eq_true rfl) dX9_kin_14 ⟨Nat.le_refl 1, Nat.le_refl 6⟩
  cases h
def t_X9_partings_0 (x1 : Int32) (x2 : Int32) (x3 : Int32) (M : Mm) : Option Nat := orx (t_X9_needRange x1 (0 : Int32) (64 : Int32)) (bd (f_X9_needRange x1 (0 : Int32) (64 : Int32)) fun _ => orx (t_X9_needRange x3 (0 : Int32) (2 : Int32)) (none))
set_option maxHeartbeats 4000000 in
set_option maxRecDepth 100000 in
theorem tt_X9_partings_0 {l : Launch} {E : Ev} {x1 : Int32} {x2 : Int32} {x3 : Int32} {M : Mm} {k : Nat} (hl : l.stackTraces = false) (hE : Has shC (eH E)) (h : t_X9_partings_0 x1 x2 x3 M = some k) : MetT l yX9_partings cX9_partings 4 (some .int) 7 E [.ref (eA E 0), .int x1, .int x2, .int x3] M k := by
  refine MetT.of (by decide +kernel) (Nat.le_of_ble_eq_true rfl) ?_
  intro p e s m below meth c C hT
  refine G.sub [0, 1, 2, 3] (L' := [(0, .ref (eA E 0)), (1, .int x1), (2, .int x2), (3, .int x3)]) rfl ?_
  unfold t_X9_partings_0 at h
  refine G.iload_n C 1 dX9_partings_0 rfl rfl ?_
  refine G.iconst (v := (0 : Int32)) C dX9_partings_1 (by decide) ?_
  refine G.bipush (v := (64 : Int32)) C dX9_partings_2 (by decide) ?_
  rcases orx_ex h with h | h
  · exact G.callST (rest := []) C hT (tt_X9_needRange hl  h) ⟨tg_641, tg_90, ok_X9_needRange, Nat.le_of_ble_eq_true rfl, Nat.le_of_ble_eq_true rfl⟩ tg_639 tg_640 rfl (Nat.le_of_ble_eq_true rfl) dX9_partings_4 ⟨Nat.le_refl 1, Nat.le_refl 6⟩
  obtain ⟨u_2, hv_1, h⟩ := bd_ex h
  refine G.callS (rest := []) C (s_X9_needRange  hv_1) ⟨tg_641, tg_90, ok_X9_needRange, Nat.le_of_ble_eq_true rfl, Nat.le_of_ble_eq_true rfl⟩ tg_639 tg_640 rfl (Nat.le_of_ble_eq_true rfl) dX9_partings_4 ⟨Nat.le_of_ble_eq_true rfl, Nat.le_of_ble_eq_true rfl⟩ ?_
  refine G.iload_n C 3 dX9_partings_7 rfl rfl ?_
  refine G.iconst (v := (0 : Int32)) C dX9_partings_8 (by decide) ?_
  refine G.iconst (v := (2 : Int32)) C dX9_partings_9 (by decide) ?_
  rcases orx_ex h with h | h
  · exact G.callST (rest := []) C hT (tt_X9_needRange hl  h) ⟨tg_641, tg_90, ok_X9_needRange, Nat.le_of_ble_eq_true rfl, Nat.le_of_ble_eq_true rfl⟩ tg_639 tg_640 rfl (Nat.le_of_ble_eq_true rfl) dX9_partings_10 ⟨Nat.le_refl 1, Nat.le_refl 6⟩
  cases h
def t_X9_bars_0 (x1 : Int32) (x2 : Int32) (x3 : Int32) (M : Mm) : Option Nat := orx (t_X9_layCutting_0 x1 x2 x3 M) (none)
set_option maxHeartbeats 4000000 in
set_option maxRecDepth 100000 in
theorem tt_X9_bars_0 {l : Launch} {E : Ev} {x1 : Int32} {x2 : Int32} {x3 : Int32} {M : Mm} {k : Nat} (hl : l.stackTraces = false) (hE : Has shC (eH E)) (h : t_X9_bars_0 x1 x2 x3 M = some k) : MetT l yX9_bars cX9_bars 4 (some .long) 27 E [.ref (eA E 0), .int x1, .int x2, .int x3] M k := by
  refine MetT.of (by decide +kernel) (Nat.le_of_ble_eq_true rfl) ?_
  intro p e s m below meth c C hT
  refine G.sub [0, 1, 2, 3] (L' := [(0, .ref (eA E 0)), (1, .int x1), (2, .int x2), (3, .int x3)]) rfl ?_
  unfold t_X9_bars_0 at h
  refine G.aload_n C 0 dX9_bars_0 rfl rfl ?_
  refine G.iload_n C 1 dX9_bars_1 rfl rfl ?_
  refine G.iload_n C 2 dX9_bars_2 rfl rfl ?_
  refine G.iload_n C 3 dX9_bars_3 rfl rfl ?_
  rcases orx_ex h with h | h
  · exact G.callVT (rest := []) C hT (tt_X9_layCutting_0 hl hE h) ⟨tg_1138, tg_90, ok_X9_layCutting, Nat.le_of_ble_eq_true rfl, Nat.le_of_ble_eq_true rfl⟩ tg_1135 tg_1137 tg_28 (sc_0 hE) rfl rfl (Nat.le_of_ble_eq_true rfl) dX9_bars_4 ⟨Nat.le_refl 1, Nat.le_refl 6⟩
  cases h
def t_X9_nearest_0 (x1 : Int64) (x3 : Int32) (x4 : Int32) (M : Mm) : Option Nat := if x1 = (0 : Int64) then (some 2) else (orx (t_X9_needRange x4 (0 : Int32) (1 : Int32)) (none))
set_option maxHeartbeats 4000000 in
set_option maxRecDepth 100000 in
theorem tt_X9_nearest_0 {l : Launch} {E : Ev} {x1 : Int64} {x3 : Int32} {x4 : Int32} {M : Mm} {k : Nat} (hl : l.stackTraces = false) (hE : Has shC (eH E)) (h : t_X9_nearest_0 x1 x3 x4 M = some k) : MetT l yX9_nearest cX9_nearest 6 (some .int) 7 E [.ref (eA E 0), .long x1, .int x3, .int x4] M k := by
  refine MetT.of (by decide +kernel) (Nat.le_of_ble_eq_true rfl) ?_
  intro p e s m below meth c C hT
  refine G.sub [0, 1, 2, 3] (L' := [(0, .ref (eA E 0)), (1, .long x1), (3, .int x3), (4, .int x4)]) rfl ?_
  unfold t_X9_nearest_0 at h
  refine G.lload_n C 1 dX9_nearest_0 rfl rfl ?_
  refine G.lconst (v := (0 : Int64)) C dX9_nearest_1 (by decide) ?_
  refine G.lcmp C dX9_nearest_2 (G.if_ne (tgt := 17) C dX9_nearest_3 (by decide) (fun hc => ?_) (fun hc => ?_))
  · have h := it_f h (lgc_ne.mp hc)
    refine G.iload C 3 dX9_nearest_17 rfl ?_
    refine G.iconst (v := (0 : Int32)) C dX9_nearest_19 (by decide) ?_
    refine G.iconst (v := (1 : Int32)) C dX9_nearest_20 (by decide) ?_
    rcases orx_ex h with h | h
    · exact G.callST (rest := []) C hT (tt_X9_needRange hl  h) ⟨tg_641, tg_90, ok_X9_needRange, Nat.le_of_ble_eq_true rfl, Nat.le_of_ble_eq_true rfl⟩ tg_639 tg_640 rfl (Nat.le_of_ble_eq_true rfl) dX9_nearest_21 ⟨Nat.le_refl 1, Nat.le_refl 6⟩
    cases h
  · have h := it_t h (lgc_eq.mp hc)
    cases h
    exact G.throwS (k := 2) C hT hl 12 ex_278_282 rfl dX9_nearest_6 dX9_nearest_9 dX9_nearest_10 dX9_nearest_13 dX9_nearest_16 ⟨Nat.le_of_ble_eq_true rfl, Nat.le_of_ble_eq_true rfl, Nat.le_refl 1, Nat.le_refl 6⟩ (Nat.le_of_ble_eq_true rfl)
def t_X9_originals_0 (x1 : Int32) (x2 : Int32) (M : Mm) : Option Nat := orx (t_X9_needRange x2 (0 : Int32) (1 : Int32)) (none)
set_option maxHeartbeats 4000000 in
set_option maxRecDepth 100000 in
theorem tt_X9_originals_0 {l : Launch} {E : Ev} {x1 : Int32} {x2 : Int32} {M : Mm} {k : Nat} (hl : l.stackTraces = false) (hE : Has shC (eH E)) (h : t_X9_originals_0 x1 x2 M = some k) : MetT l yX9_originals cX9_originals 4 (some .int) 7 E [.ref (eA E 0), .int x1, .int x2] M k := by
  refine MetT.of (by decide +kernel) (Nat.le_of_ble_eq_true rfl) ?_
  intro p e s m below meth c C hT
  refine G.sub [0, 1, 2] (L' := [(0, .ref (eA E 0)), (1, .int x1), (2, .int x2)]) rfl ?_
  unfold t_X9_originals_0 at h
  refine G.iload_n C 2 dX9_originals_0 rfl rfl ?_
  refine G.iconst (v := (0 : Int32)) C dX9_originals_1 (by decide) ?_
  refine G.iconst (v := (1 : Int32)) C dX9_originals_2 (by decide) ?_
  rcases orx_ex h with h | h
  · exact G.callST (rest := []) C hT (tt_X9_needRange hl  h) ⟨tg_641, tg_90, ok_X9_needRange, Nat.le_of_ble_eq_true rfl, Nat.le_of_ble_eq_true rfl⟩ tg_639 tg_640 rfl (Nat.le_of_ble_eq_true rfl) dX9_originals_3 ⟨Nat.le_refl 1, Nat.le_refl 6⟩
  cases h
def t_X9_fount_0 (x1 : Int32) (x2 : Int32) (x3 : Int32) (M : Mm) : Option Nat := orx (t_X9_needRange x1 (1 : Int32) (511 : Int32)) (bd (f_X9_needRange x1 (1 : Int32) (511 : Int32)) fun _ => orx (t_X9_needRange x2 (0 : Int32) (99 : Int32)) (none))
set_option maxHeartbeats 4000000 in
set_option maxRecDepth 100000 in
theorem tt_X9_fount_0 {l : Launch} {E : Ev} {x1 : Int32} {x2 : Int32} {x3 : Int32} {M : Mm} {k : Nat} (hl : l.stackTraces = false) (hE : Has shC (eH E)) (h : t_X9_fount_0 x1 x2 x3 M = some k) : MetT l yX9_fount cX9_fount 4 (some .int) 23 E [.ref (eA E 0), .int x1, .int x2, .int x3] M k := by
  refine MetT.of (by decide +kernel) (Nat.le_of_ble_eq_true rfl) ?_
  intro p e s m below meth c C hT
  refine G.sub [0, 1, 2, 3] (L' := [(0, .ref (eA E 0)), (1, .int x1), (2, .int x2), (3, .int x3)]) rfl ?_
  unfold t_X9_fount_0 at h
  refine G.iload_n C 1 dX9_fount_0 rfl rfl ?_
  refine G.iconst (v := (1 : Int32)) C dX9_fount_1 (by decide) ?_
  refine G.sipush (v := (511 : Int32)) C dX9_fount_2 (by decide) ?_
  rcases orx_ex h with h | h
  · exact G.callST (rest := []) C hT (tt_X9_needRange hl  h) ⟨tg_641, tg_90, ok_X9_needRange, Nat.le_of_ble_eq_true rfl, Nat.le_of_ble_eq_true rfl⟩ tg_639 tg_640 rfl (Nat.le_of_ble_eq_true rfl) dX9_fount_5 ⟨Nat.le_refl 1, Nat.le_refl 6⟩
  obtain ⟨u_2, hv_1, h⟩ := bd_ex h
  refine G.callS (rest := []) C (s_X9_needRange  hv_1) ⟨tg_641, tg_90, ok_X9_needRange, Nat.le_of_ble_eq_true rfl, Nat.le_of_ble_eq_true rfl⟩ tg_639 tg_640 rfl (Nat.le_of_ble_eq_true rfl) dX9_fount_5 ⟨Nat.le_of_ble_eq_true rfl, Nat.le_of_ble_eq_true rfl⟩ ?_
  refine G.iload_n C 2 dX9_fount_8 rfl rfl ?_
  refine G.iconst (v := (0 : Int32)) C dX9_fount_9 (by decide) ?_
  refine G.bipush (v := (99 : Int32)) C dX9_fount_10 (by decide) ?_
  rcases orx_ex h with h | h
  · exact G.callST (rest := []) C hT (tt_X9_needRange hl  h) ⟨tg_641, tg_90, ok_X9_needRange, Nat.le_of_ble_eq_true rfl, Nat.le_of_ble_eq_true rfl⟩ tg_639 tg_640 rfl (Nat.le_of_ble_eq_true rfl) dX9_fount_12 ⟨Nat.le_refl 1, Nat.le_refl 6⟩
  cases h
end
