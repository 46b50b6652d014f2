section
variable {p : Program} {l : Launch} {e : Env} {s : State} {m : MethodId} {args : Array Value} {below : List Frame} {meth : Method} {c : Code} {E : Ev}
def bb_L_sheet_0_120_0 (x1 : Int32) (M : Mm) : Option (Int32 × Mm) := bd2 (f_X9_sheet_0 x1 M) fun v_3 M_2 => ltv (wJ M_2 120 0 (v_3.toInt64)) fun M_4 => some ((0 : Int32), M_4)
set_option maxHeartbeats 4000000 in
set_option maxRecDepth 100000 in
theorem gb_L_sheet_0_120_0  {x1 : Int32} {M : Mm} {v : Int32} {M' : Mm} (hE : Has shA (eH E)) (C : Cx RL cL_sheet 4 p (rmX 10) s m args meth c E) (hr : meth.sig.returnType = (some .int)) (h : bb_L_sheet_0_120_0 x1 M = some (v, M')) : G p l e (rmX 10) s m args below meth c E 4 1 6 (QR below args s E 1 6 (some (.int v)) M') 0 [(0, .ref (eA E 0)), (1, .int x1), (2, .ref (eA E 120))] [] M := by
  unfold bb_L_sheet_0_120_0 at h
  refine G.aload_n C 2 dL_sheet_0 rfl rfl ?_
  refine G.iconst (v := (0 : Int32)) C dL_sheet_1 (by decide) ?_
  refine G.aload_n C 0 dL_sheet_2 rfl rfl ?_
  refine G.iload_n C 1 dL_sheet_3 rfl rfl ?_
  obtain ⟨v_3, M_2, hv_1, h⟩ := bd2_ex h
  refine G.callV (rest := [.int (0 : Int32), .ref (eA E 120)]) C (s_X9_sheet_0 (hasC hE)  hv_1) ⟨tg_638, tg_90, ok_X9_sheet, Nat.le_of_ble_eq_true rfl, Nat.le_of_ble_eq_true rfl⟩ tg_635 tg_636 tg_637 (sc_0 (hasC hE)) rfl rfl (Nat.le_of_ble_eq_true rfl) dL_sheet_4 ⟨Nat.le_refl 1, Nat.le_refl 6⟩ ?_
  refine G.i2l (v := v_3.toInt64) C dL_sheet_7 rfl ?_
  obtain ⟨M_4, eM_4, h⟩ := ltv_ex h
  refine G.sJ (j := 0) C (sa_120 hE) (by decide) (by decide) dL_sheet_8 eM_4 ?_
  refine G.goto (tgt := 15) C dL_sheet_9 (by decide) ?_
  refine G.iconst (v := (0 : Int32)) C dL_sheet_15 (by decide) ?_
  cases h
  exact G.iret C hr dL_sheet_16
def f_L_sheet_0_120 (x1 : Int32) (M : Mm) : Option (Int32 × Mm) := bb_L_sheet_0_120_0 x1 M
theorem s_L_sheet_0_120 {l : Launch} {E : Ev} {x1 : Int32} {M : Mm} {v : Int32} {M' : Mm} (hE : Has shA (eH E)) (h : f_L_sheet_0_120 x1 M = some (v, M')) : MetB l yL_sheet cL_sheet 4 (some .int) [(0, 9, 12, 13)] 10 E [.ref (eA E 0), .int x1, .ref (eA E 120)] M (some (.int v)) M' := by
  refine MetB.of (by decide +kernel) (Nat.le_of_ble_eq_true rfl) ?_
  intro p e s m below meth c C hr hT
  exact G.widen (Nat.zero_le 1) (Nat.zero_le 6) (G.sub [0, 1, 2] rfl (gb_L_sheet_0_120_0 hE C hr h))
set_option maxHeartbeats 4000000 in
set_option maxRecDepth 100000 in
theorem w2_L_sheet_0_120 {l : Launch} {E : Ev} {x1 : Int32} {M : Mm} (hl : l.stackTraces = false) (hE : Has shA (eH E)) (h : t_X9_sheet_0 x1 M = some 2) : MetB l yL_sheet cL_sheet 4 (some .int) [(0, 9, 12, 13)] 10 E [.ref (eA E 0), .int x1, .ref (eA E 120)] M (some (.int 1)) M := by
  refine MetB.of (by decide +kernel) (Nat.le_of_ble_eq_true rfl) ?_
  intro p e s m below meth c C hr hT
  refine G.sub [0, 1, 2] (L' := [(0, .ref (eA E 0)), (1, .int x1), (2, .ref (eA E 120))]) rfl ?_
  refine G.aload_n C 2 dL_sheet_0 rfl rfl ?_
  refine G.iconst (v := (0 : Int32)) C dL_sheet_1 (by decide) ?_
  refine G.aload_n C 0 dL_sheet_2 rfl rfl ?_
  refine G.iload_n C 1 dL_sheet_3 rfl rfl ?_
  refine G.callVC (k := 2) (hpc := 12) (rest := [.int (0 : Int32), .ref (eA E 120)]) C hT ⟨[], ⟨0, 9, 12, 13⟩, [], rfl, fun z hz => (List.not_mem_nil hz).elim, rfl, by decide, tg_634, tw_644, rfl⟩ (tt_X9_sheet_0 hl (hasC hE) h) ⟨tg_638, tg_90, ok_X9_sheet, Nat.le_of_ble_eq_true rfl, Nat.le_of_ble_eq_true rfl⟩ tg_635 tg_636 tg_637 (sc_0 (hasC hE)) rfl rfl (Nat.le_of_ble_eq_true rfl) dL_sheet_4 ⟨Nat.le_refl 1, Nat.le_refl 6⟩ (fun x => ?_)
  refine G.astore_n (L' := [(3, .ref x), (0, .ref (eA E 0)), (1, .int x1), (2, .ref (eA E 120))]) C dL_sheet_12 rfl rfl (by decide) rfl ?_
  refine G.iconst (v := (1 : Int32)) C dL_sheet_13 (by decide) ?_
  exact G.iret C hr dL_sheet_14
def bb_L_told_0_120_0 (x1 : Int32) (M : Mm) : Option (Int32 × Mm) := bd (f_X9_told_0 x1 M) fun v_2 => ltv (wJ M 120 0 (v_2.toInt64)) fun M_3 => some ((0 : Int32), M_3)
set_option maxHeartbeats 4000000 in
set_option maxRecDepth 100000 in
theorem gb_L_told_0_120_0  {x1 : Int32} {M : Mm} {v : Int32} {M' : Mm} (hE : Has shA (eH E)) (C : Cx RL cL_told 4 p (rmX 8) s m args meth c E) (hr : meth.sig.returnType = (some .int)) (h : bb_L_told_0_120_0 x1 M = some (v, M')) : G p l e (rmX 8) s m args below meth c E 4 1 6 (QR below args s E 1 6 (some (.int v)) M') 0 [(0, .ref (eA E 0)), (1, .int x1), (2, .ref (eA E 120))] [] M := by
  unfold bb_L_told_0_120_0 at h
  refine G.aload_n C 2 dL_told_0 rfl rfl ?_
  refine G.iconst (v := (0 : Int32)) C dL_told_1 (by decide) ?_
  refine G.aload_n C 0 dL_told_2 rfl rfl ?_
  refine G.iload_n C 1 dL_told_3 rfl rfl ?_
  obtain ⟨v_2, hv_1, h⟩ := bd_ex h
  refine G.callV (rest := [.int (0 : Int32), .ref (eA E 120)]) C (s_X9_told_0 (hasC hE)  hv_1) ⟨tg_882, tg_90, ok_X9_told, Nat.le_of_ble_eq_true rfl, Nat.le_of_ble_eq_true rfl⟩ tg_879 tg_880 tg_881 (sc_0 (hasC hE)) rfl rfl (Nat.le_of_ble_eq_true rfl) dL_told_4 ⟨Nat.le_refl 1, Nat.le_refl 6⟩ ?_
  refine G.i2l (v := v_2.toInt64) C dL_told_7 rfl ?_
  obtain ⟨M_3, eM_3, h⟩ := ltv_ex h
  refine G.sJ (j := 0) C (sa_120 hE) (by decide) (by decide) dL_told_8 eM_3 ?_
  refine G.goto (tgt := 15) C dL_told_9 (by decide) ?_
  refine G.iconst (v := (0 : Int32)) C dL_told_15 (by decide) ?_
  cases h
  exact G.iret C hr dL_told_16
def f_L_told_0_120 (x1 : Int32) (M : Mm) : Option (Int32 × Mm) := bb_L_told_0_120_0 x1 M
theorem s_L_told_0_120 {l : Launch} {E : Ev} {x1 : Int32} {M : Mm} {v : Int32} {M' : Mm} (hE : Has shA (eH E)) (h : f_L_told_0_120 x1 M = some (v, M')) : MetB l yL_told cL_told 4 (some .int) [(0, 9, 12, 13)] 8 E [.ref (eA E 0), .int x1, .ref (eA E 120)] M (some (.int v)) M' := by
  refine MetB.of (by decide +kernel) (Nat.le_of_ble_eq_true rfl) ?_
  intro p e s m below meth c C hr hT
  exact G.widen (Nat.zero_le 1) (Nat.zero_le 6) (G.sub [0, 1, 2] rfl (gb_L_told_0_120_0 hE C hr h))
set_option maxHeartbeats 4000000 in
set_option maxRecDepth 100000 in
theorem w2_L_told_0_120 {l : Launch} {E : Ev} {x1 : Int32} {M : Mm} (hl : l.stackTraces = false) (hE : Has shA (eH E)) (h : t_X9_told_0 x1 M = some 2) : MetB l yL_told cL_told 4 (some .int) [(0, 9, 12, 13)] 8 E [.ref (eA E 0), .int x1, .ref (eA E 120)] M (some (.int 1)) M := by
  refine MetB.of (by decide +kernel) (Nat.le_of_ble_eq_true rfl) ?_
  intro p e s m below meth c C hr hT
  refine G.sub [0, 1, 2] (L' := [(0, .ref (eA E 0)), (1, .int x1), (2, .ref (eA E 120))]) rfl ?_
  refine G.aload_n C 2 dL_told_0 rfl rfl ?_
  refine G.iconst (v := (0 : Int32)) C dL_told_1 (by decide) ?_
  refine G.aload_n C 0 dL_told_2 rfl rfl ?_
  refine G.iload_n C 1 dL_told_3 rfl rfl ?_
  refine G.callVC (k := 2) (hpc := 12) (rest := [.int (0 : Int32), .ref (eA E 120)]) C hT ⟨[], ⟨0, 9, 12, 13⟩, [], rfl, fun z hz => (List.not_mem_nil hz).elim, rfl, by decide, tg_634, tw_644, rfl⟩ (tt_X9_told_0 hl (hasC hE) h) ⟨tg_882, tg_90, ok_X9_told, Nat.le_of_ble_eq_true rfl, Nat.le_of_ble_eq_true rfl⟩ tg_879 tg_880 tg_881 (sc_0 (hasC hE)) rfl rfl (Nat.le_of_ble_eq_true rfl) dL_told_4 ⟨Nat.le_refl 1, Nat.le_refl 6⟩ (fun x => ?_)
  refine G.astore_n (L' := [(3, .ref x), (0, .ref (eA E 0)), (1, .int x1), (2, .ref (eA E 120))]) C dL_told_12 rfl rfl (by decide) rfl ?_
  refine G.iconst (v := (1 : Int32)) C dL_told_13 (by decide) ?_
  exact G.iret C hr dL_told_14
def bb_L_squares_0_120_0 (x1 : Int32) (x2 : Int32) (M : Mm) : Option (Int32 × Mm) := bd (f_X9_squares_0 x1 x2 M) fun v_2 => ltv (wJ M 120 0 v_2) fun M_3 => some ((0 : Int32), M_3)
set_option maxHeartbeats 4000000 in
set_option maxRecDepth 100000 in
theorem gb_L_squares_0_120_0  {x1 : Int32} {x2 : Int32} {M : Mm} {v : Int32} {M' : Mm} (hE : Has shA (eH E)) (C : Cx RL cL_squares 5 p (rmX 8) s m args meth c E) (hr : meth.sig.returnType = (some .int)) (h : bb_L_squares_0_120_0 x1 x2 M = some (v, M')) : G p l e (rmX 8) s m args below meth c E 5 1 6 (QR below args s E 1 6 (some (.int v)) M') 0 [(0, .ref (eA E 0)), (1, .int x1), (2, .int x2), (3, .ref (eA E 120))] [] M := by
  unfold bb_L_squares_0_120_0 at h
  refine G.aload_n C 3 dL_squares_0 rfl rfl ?_
  refine G.iconst (v := (0 : Int32)) C dL_squares_1 (by decide) ?_
  refine G.aload_n C 0 dL_squares_2 rfl rfl ?_
  refine G.iload_n C 1 dL_squares_3 rfl rfl ?_
  refine G.iload_n C 2 dL_squares_4 rfl rfl ?_
  obtain ⟨v_2, hv_1, h⟩ := bd_ex h
  refine G.callV (rest := [.int (0 : Int32), .ref (eA E 120)]) C (s_X9_squares_0 (hasC hE)  hv_1) ⟨tg_890, tg_90, ok_X9_squares, Nat.le_of_ble_eq_true rfl, Nat.le_of_ble_eq_true rfl⟩ tg_887 tg_888 tg_889 (sc_0 (hasC hE)) rfl rfl (Nat.le_of_ble_eq_true rfl) dL_squares_5 ⟨Nat.le_refl 1, Nat.le_refl 6⟩ ?_
  obtain ⟨M_3, eM_3, h⟩ := ltv_ex h
  refine G.sJ (j := 0) C (sa_120 hE) (by decide) (by decide) dL_squares_8 eM_3 ?_
  refine G.goto (tgt := 20) C dL_squares_9 (by decide) ?_
  refine G.iconst (v := (0 : Int32)) C dL_squares_20 (by decide) ?_
  cases h
  exact G.iret C hr dL_squares_21
def f_L_squares_0_120 (x1 : Int32) (x2 : Int32) (M : Mm) : Option (Int32 × Mm) := bb_L_squares_0_120_0 x1 x2 M
theorem s_L_squares_0_120 {l : Launch} {E : Ev} {x1 : Int32} {x2 : Int32} {M : Mm} {v : Int32} {M' : Mm} (hE : Has shA (eH E)) (h : f_L_squares_0_120 x1 x2 M = some (v, M')) : MetB l yL_squares cL_squares 5 (some .int) [(0, 9, 12, 22), (0, 9, 16, 13)] 8 E [.ref (eA E 0), .int x1, .int x2, .ref (eA E 120)] M (some (.int v)) M' := by
  refine MetB.of (by decide +kernel) (Nat.le_of_ble_eq_true rfl) ?_
  intro p e s m below meth c C hr hT
  exact G.widen (Nat.zero_le 1) (Nat.zero_le 6) (G.sub [0, 1, 2, 3] rfl (gb_L_squares_0_120_0 hE C hr h))
set_option maxHeartbeats 4000000 in
set_option maxRecDepth 100000 in
theorem w1_L_squares_0_120 {l : Launch} {E : Ev} {x1 : Int32} {x2 : Int32} {M : Mm} (hl : l.stackTraces = false) (hE : Has shA (eH E)) (h : t_X9_squares_0 x1 x2 M = some 1) : MetB l yL_squares cL_squares 5 (some .int) [(0, 9, 12, 22), (0, 9, 16, 13)] 8 E [.ref (eA E 0), .int x1, .int x2, .ref (eA E 120)] M (some (.int 1)) M := by
  refine MetB.of (by decide +kernel) (Nat.le_of_ble_eq_true rfl) ?_
  intro p e s m below meth c C hr hT
  refine G.sub [0, 1, 2, 3] (L' := [(0, .ref (eA E 0)), (1, .int x1), (2, .int x2), (3, .ref (eA E 120))]) rfl ?_
  refine G.aload_n C 3 dL_squares_0 rfl rfl ?_
  refine G.iconst (v := (0 : Int32)) C dL_squares_1 (by decide) ?_
  refine G.aload_n C 0 dL_squares_2 rfl rfl ?_
  refine G.iload_n C 1 dL_squares_3 rfl rfl ?_
  refine G.iload_n C 2 dL_squares_4 rfl rfl ?_
  refine G.callVC (k := 1) (hpc := 12) (rest := [.int (0 : Int32), .ref (eA E 120)]) C hT ⟨[], ⟨0, 9, 12, 22⟩, [⟨0, 9, 16, 13⟩], rfl, fun z hz => (List.not_mem_nil hz).elim, rfl, by decide, tg_886, tw_897, rfl⟩ (tt_X9_squares_0 hl (hasC hE) h) ⟨tg_890, tg_90, ok_X9_squares, Nat.le_of_ble_eq_true rfl, Nat.le_of_ble_eq_true rfl⟩ tg_887 tg_888 tg_889 (sc_0 (hasC hE)) rfl rfl (Nat.le_of_ble_eq_true rfl) dL_squares_5 ⟨Nat.le_refl 1, Nat.le_refl 6⟩ (fun x => ?_)
  refine G.astore (L' := [(4, .ref x), (0, .ref (eA E 0)), (1, .int x1), (2, .int x2), (3, .ref (eA E 120))]) C dL_squares_12 rfl (by decide) rfl ?_
  refine G.iconst (v := (1 : Int32)) C dL_squares_14 (by decide) ?_
  exact G.iret C hr dL_squares_15
set_option maxHeartbeats 4000000 in
set_option maxRecDepth 100000 in
theorem w2_L_squares_0_120 {l : Launch} {E : Ev} {x1 : Int32} {x2 : Int32} {M : Mm} (hl : l.stackTraces = false) (hE : Has shA (eH E)) (h : t_X9_squares_0 x1 x2 M = some 2) : MetB l yL_squares cL_squares 5 (some .int) [(0, 9, 12, 22), (0, 9, 16, 13)] 8 E [.ref (eA E 0), .int x1, .int x2, .ref (eA E 120)] M (some (.int 2)) M := by
  refine MetB.of (by decide +kernel) (Nat.le_of_ble_eq_true rfl) ?_
  intro p e s m below meth c C hr hT
  refine G.sub [0, 1, 2, 3] (L' := [(0, .ref (eA E 0)), (1, .int x1), (2, .int x2), (3, .ref (eA E 120))]) rfl ?_
  refine G.aload_n C 3 dL_squares_0 rfl rfl ?_
  refine G.iconst (v := (0 : Int32)) C dL_squares_1 (by decide) ?_
  refine G.aload_n C 0 dL_squares_2 rfl rfl ?_
  refine G.iload_n C 1 dL_squares_3 rfl rfl ?_
  refine G.iload_n C 2 dL_squares_4 rfl rfl ?_
  refine G.callVC (k := 2) (hpc := 16) (rest := [.int (0 : Int32), .ref (eA E 120)]) C hT ⟨[⟨0, 9, 12, 22⟩], ⟨0, 9, 16, 13⟩, [], rfl, fun z hz => by rw [List.mem_singleton.mp hz]; exact ⟨by decide, rfl, Or.inl tg_886⟩, rfl, by decide, tg_634, tw_644, rfl⟩ (tt_X9_squares_0 hl (hasC hE) h) ⟨tg_890, tg_90, ok_X9_squares, Nat.le_of_ble_eq_true rfl, Nat.le_of_ble_eq_true rfl⟩ tg_887 tg_888 tg_889 (sc_0 (hasC hE)) rfl rfl (Nat.le_of_ble_eq_true rfl) dL_squares_5 ⟨Nat.le_refl 1, Nat.le_refl 6⟩ (fun x => ?_)
  refine G.astore (L' := [(4, .ref x), (0, .ref (eA E 0)), (1, .int x1), (2, .int x2), (3, .ref (eA E 120))]) C dL_squares_16 rfl (by decide) rfl ?_
  refine G.iconst (v := (2 : Int32)) C dL_squares_18 (by decide) ?_
  exact G.iret C hr dL_squares_19
def bb_L_letter_0_120_0 (x1 : Int32) (x2 : Int32) (M : Mm) : Option (Int32 × Mm) := bd (f_X9_letter_0 x1 x2 M) fun v_2 => ltv (wJ M 120 0 (v_2.toInt64)) fun M_3 => some ((0 : Int32), M_3)
set_option maxHeartbeats 4000000 in
set_option maxRecDepth 100000 in
theorem gb_L_letter_0_120_0  {x1 : Int32} {x2 : Int32} {M : Mm} {v : Int32} {M' : Mm} (hE : Has shA (eH E)) (C : Cx RL cL_letter 5 p (rmX 8) s m args meth c E) (hr : meth.sig.returnType = (some .int)) (h : bb_L_letter_0_120_0 x1 x2 M = some (v, M')) : G p l e (rmX 8) s m args below meth c E 5 1 6 (QR below args s E 1 6 (some (.int v)) M') 0 [(0, .ref (eA E 0)), (1, .int x1), (2, .int x2), (3, .ref (eA E 120))] [] M := by
  unfold bb_L_letter_0_120_0 at h
  refine G.aload_n C 3 dL_letter_0 rfl rfl ?_
  refine G.iconst (v := (0 : Int32)) C dL_letter_1 (by decide) ?_
  refine G.aload_n C 0 dL_letter_2 rfl rfl ?_
  refine G.iload_n C 1 dL_letter_3 rfl rfl ?_
  refine G.iload_n C 2 dL_letter_4 rfl rfl ?_
  obtain ⟨v_2, hv_1, h⟩ := bd_ex h
  refine G.callV (rest := [.int (0 : Int32), .ref (eA E 120)]) C (s_X9_letter_0 (hasC hE)  hv_1) ⟨tg_918, tg_90, ok_X9_letter, Nat.le_of_ble_eq_true rfl, Nat.le_of_ble_eq_true rfl⟩ tg_915 tg_916 tg_917 (sc_0 (hasC hE)) rfl rfl (Nat.le_of_ble_eq_true rfl) dL_letter_5 ⟨Nat.le_refl 1, Nat.le_refl 6⟩ ?_
  refine G.i2l (v := v_2.toInt64) C dL_letter_8 rfl ?_
  obtain ⟨M_3, eM_3, h⟩ := ltv_ex h
  refine G.sJ (j := 0) C (sa_120 hE) (by decide) (by decide) dL_letter_9 eM_3 ?_
  refine G.goto (tgt := 21) C dL_letter_10 (by decide) ?_
  refine G.iconst (v := (0 : Int32)) C dL_letter_21 (by decide) ?_
  cases h
  exact G.iret C hr dL_letter_22
def f_L_letter_0_120 (x1 : Int32) (x2 : Int32) (M : Mm) : Option (Int32 × Mm) := bb_L_letter_0_120_0 x1 x2 M
theorem s_L_letter_0_120 {l : Launch} {E : Ev} {x1 : Int32} {x2 : Int32} {M : Mm} {v : Int32} {M' : Mm} (hE : Has shA (eH E)) (h : f_L_letter_0_120 x1 x2 M = some (v, M')) : MetB l yL_letter cL_letter 5 (some .int) [(0, 10, 13, 22), (0, 10, 17, 13)] 8 E [.ref (eA E 0), .int x1, .int x2, .ref (eA E 120)] M (some (.int v)) M' := by
  refine MetB.of (by decide +kernel) (Nat.le_of_ble_eq_true rfl) ?_
  intro p e s m below meth c C hr hT
  exact G.widen (Nat.zero_le 1) (Nat.zero_le 6) (G.sub [0, 1, 2, 3] rfl (gb_L_letter_0_120_0 hE C hr h))
set_option maxHeartbeats 4000000 in
set_option maxRecDepth 100000 in
theorem w1_L_letter_0_120 {l : Launch} {E : Ev} {x1 : Int32} {x2 : Int32} {M : Mm} (hl : l.stackTraces = false) (hE : Has shA (eH E)) (h : t_X9_letter_0 x1 x2 M = some 1) : MetB l yL_letter cL_letter 5 (some .int) [(0, 10, 13, 22), (0, 10, 17, 13)] 8 E [.ref (eA E 0), .int x1, .int x2, .ref (eA E 120)] M (some (.int 1)) M := by
  refine MetB.of (by decide +kernel) (Nat.le_of_ble_eq_true rfl) ?_
  intro p e s m below meth c C hr hT
  refine G.sub [0, 1, 2, 3] (L' := [(0, .ref (eA E 0)), (1, .int x1), (2, .int x2), (3, .ref (eA E 120))]) rfl ?_
  refine G.aload_n C 3 dL_letter_0 rfl rfl ?_
  refine G.iconst (v := (0 : Int32)) C dL_letter_1 (by decide) ?_
  refine G.aload_n C 0 dL_letter_2 rfl rfl ?_
  refine G.iload_n C 1 dL_letter_3 rfl rfl ?_
  refine G.iload_n C 2 dL_letter_4 rfl rfl ?_
  refine G.callVC (k := 1) (hpc := 13) (rest := [.int (0 : Int32), .ref (eA E 120)]) C hT ⟨[], ⟨0, 10, 13, 22⟩, [⟨0, 10, 17, 13⟩], rfl, fun z hz => (List.not_mem_nil hz).elim, rfl, by decide, tg_886, tw_897, rfl⟩ (tt_X9_letter_0 hl (hasC hE) h) ⟨tg_918, tg_90, ok_X9_letter, Nat.le_of_ble_eq_true rfl, Nat.le_of_ble_eq_true rfl⟩ tg_915 tg_916 tg_917 (sc_0 (hasC hE)) rfl rfl (Nat.le_of_ble_eq_true rfl) dL_letter_5 ⟨Nat.le_refl 1, Nat.le_refl 6⟩ (fun x => ?_)
  refine G.astore (L' := [(4, .ref x), (0, .ref (eA E 0)), (1, .int x1), (2, .int x2), (3, .ref (eA E 120))]) C dL_letter_13 rfl (by decide) rfl ?_
  refine G.iconst (v := (1 : Int32)) C dL_letter_15 (by decide) ?_
  exact G.iret C hr dL_letter_16
set_option maxHeartbeats 4000000 in
set_option maxRecDepth 100000 in
theorem w2_L_letter_0_120 {l : Launch} {E : Ev} {x1 : Int32} {x2 : Int32} {M : Mm} (hl : l.stackTraces = false) (hE : Has shA (eH E)) (h : t_X9_letter_0 x1 x2 M = some 2) : MetB l yL_letter cL_letter 5 (some .int) [(0, 10, 13, 22), (0, 10, 17, 13)] 8 E [.ref (eA E 0), .int x1, .int x2, .ref (eA E 120)] M (some (.int 2)) M := by
  refine MetB.of (by decide +kernel) (Nat.le_of_ble_eq_true rfl) ?_
  intro p e s m below meth c C hr hT
  refine G.sub [0, 1, 2, 3] (L' := [(0, .ref (eA E 0)), (1, .int x1), (2, .int x2), (3, .ref (eA E 120))]) rfl ?_
  refine G.aload_n C 3 dL_letter_0 rfl rfl ?_
  refine G.iconst (v := (0 : Int32)) C dL_letter_1 (by decide) ?_
  refine G.aload_n C 0 dL_letter_2 rfl rfl ?_
  refine G.iload_n C 1 dL_letter_3 rfl rfl ?_
  refine G.iload_n C 2 dL_letter_4 rfl rfl ?_
  refine G.callVC (k := 2) (hpc := 17) (rest := [.int (0 : Int32), .ref (eA E 120)]) C hT ⟨[⟨0, 10, 13, 22⟩], ⟨0, 10, 17, 13⟩, [], rfl, fun z hz => by rw [List.mem_singleton.mp hz]; exact ⟨by decide, rfl, Or.inl tg_886⟩, rfl, by decide, tg_634, tw_644, rfl⟩ (tt_X9_letter_0 hl (hasC hE) h) ⟨tg_918, tg_90, ok_X9_letter, Nat.le_of_ble_eq_true rfl, Nat.le_of_ble_eq_true rfl⟩ tg_915 tg_916 tg_917 (sc_0 (hasC hE)) rfl rfl (Nat.le_of_ble_eq_true rfl) dL_letter_5 ⟨Nat.le_refl 1, Nat.le_refl 6⟩ (fun x => ?_)
  refine G.astore (L' := [(4, .ref x), (0, .ref (eA E 0)), (1, .int x1), (2, .int x2), (3, .ref (eA E 120))]) C dL_letter_17 rfl (by decide) rfl ?_
  refine G.iconst (v := (2 : Int32)) C dL_letter_19 (by decide) ?_
  exact G.iret C hr dL_letter_20
def bb_L_hollow_0_120_0 (x1 : Int32) (M : Mm) : Option (Int32 × Mm) := bd (f_X9_hollow_0 x1 M) fun v_2 => ltv (wJ M 120 0 v_2) fun M_3 => some ((0 : Int32), M_3)
set_option maxHeartbeats 4000000 in
set_option maxRecDepth 100000 in
theorem gb_L_hollow_0_120_0  {x1 : Int32} {M : Mm} {v : Int32} {M' : Mm} (hE : Has shA (eH E)) (C : Cx RL cL_hollow 4 p (rmX 8) s m args meth c E) (hr : meth.sig.returnType = (some .int)) (h : bb_L_hollow_0_120_0 x1 M = some (v, M')) : G p l e (rmX 8) s m args below meth c E 4 1 6 (QR below args s E 1 6 (some (.int v)) M') 0 [(0, .ref (eA E 0)), (1, .int x1), (2, .ref (eA E 120))] [] M := by
  unfold bb_L_hollow_0_120_0 at h
  refine G.aload_n C 2 dL_hollow_0 rfl rfl ?_
  refine G.iconst (v := (0 : Int32)) C dL_hollow_1 (by decide) ?_
  refine G.aload_n C 0 dL_hollow_2 rfl rfl ?_
  refine G.iload_n C 1 dL_hollow_3 rfl rfl ?_
  obtain ⟨v_2, hv_1, h⟩ := bd_ex h
  refine G.callV (rest := [.int (0 : Int32), .ref (eA E 120)]) C (s_X9_hollow_0 (hasC hE)  hv_1) ⟨tg_937, tg_90, ok_X9_hollow, Nat.le_of_ble_eq_true rfl, Nat.le_of_ble_eq_true rfl⟩ tg_934 tg_935 tg_936 (sc_0 (hasC hE)) rfl rfl (Nat.le_of_ble_eq_true rfl) dL_hollow_4 ⟨Nat.le_refl 1, Nat.le_refl 6⟩ ?_
  obtain ⟨M_3, eM_3, h⟩ := ltv_ex h
  refine G.sJ (j := 0) C (sa_120 hE) (by decide) (by decide) dL_hollow_7 eM_3 ?_
  refine G.goto (tgt := 14) C dL_hollow_8 (by decide) ?_
  refine G.iconst (v := (0 : Int32)) C dL_hollow_14 (by decide) ?_
  cases h
  exact G.iret C hr dL_hollow_15
def f_L_hollow_0_120 (x1 : Int32) (M : Mm) : Option (Int32 × Mm) := bb_L_hollow_0_120_0 x1 M
theorem s_L_hollow_0_120 {l : Launch} {E : Ev} {x1 : Int32} {M : Mm} {v : Int32} {M' : Mm} (hE : Has shA (eH E)) (h : f_L_hollow_0_120 x1 M = some (v, M')) : MetB l yL_hollow cL_hollow 4 (some .int) [(0, 8, 11, 32)] 8 E [.ref (eA E 0), .int x1, .ref (eA E 120)] M (some (.int v)) M' := by
  refine MetB.of (by decide +kernel) (Nat.le_of_ble_eq_true rfl) ?_
  intro p e s m below meth c C hr hT
  exact G.widen (Nat.zero_le 1) (Nat.zero_le 6) (G.sub [0, 1, 2] rfl (gb_L_hollow_0_120_0 hE C hr h))
set_option maxHeartbeats 4000000 in
set_option maxRecDepth 100000 in
theorem w3_L_hollow_0_120 {l : Launch} {E : Ev} {x1 : Int32} {M : Mm} (hl : l.stackTraces = false) (hE : Has shA (eH E)) (h : t_X9_hollow_0 x1 M = some 3) : MetB l yL_hollow cL_hollow 4 (some .int) [(0, 8, 11, 32)] 8 E [.ref (eA E 0), .int x1, .ref (eA E 120)] M (some (.int 1)) M := by
  refine MetB.of (by decide +kernel) (Nat.le_of_ble_eq_true rfl) ?_
  intro p e s m below meth c C hr hT
  refine G.sub [0, 1, 2] (L' := [(0, .ref (eA E 0)), (1, .int x1), (2, .ref (eA E 120))]) rfl ?_
  refine G.aload_n C 2 dL_hollow_0 rfl rfl ?_
  refine G.iconst (v := (0 : Int32)) C dL_hollow_1 (by decide) ?_
  refine G.aload_n C 0 dL_hollow_2 rfl rfl ?_
  refine G.iload_n C 1 dL_hollow_3 rfl rfl ?_
  refine G.callVC (k := 3) (hpc := 11) (rest := [.int (0 : Int32), .ref (eA E 120)]) C hT ⟨[], ⟨0, 8, 11, 32⟩, [], rfl, fun z hz => (List.not_mem_nil hz).elim, rfl, by decide, tg_933, tw_944, rfl⟩ (tt_X9_hollow_0 hl (hasC hE) h) ⟨tg_937, tg_90, ok_X9_hollow, Nat.le_of_ble_eq_true rfl, Nat.le_of_ble_eq_true rfl⟩ tg_934 tg_935 tg_936 (sc_0 (hasC hE)) rfl rfl (Nat.le_of_ble_eq_true rfl) dL_hollow_4 ⟨Nat.le_refl 1, Nat.le_refl 6⟩ (fun x => ?_)
  refine G.astore_n (L' := [(3, .ref x), (0, .ref (eA E 0)), (1, .int x1), (2, .ref (eA E 120))]) C dL_hollow_11 rfl rfl (by decide) rfl ?_
  refine G.iconst (v := (1 : Int32)) C dL_hollow_12 (by decide) ?_
  exact G.iret C hr dL_hollow_13
def bb_L_apart_0_120_0 (x1 : Int32) (x2 : Int32) (x3 : Int32) (M : Mm) : Option (Int32 × Mm) := bd (f_X9_apart_0 x1 x2 x3 M) fun v_2 => ltv (wJ M 120 0 (v_2.toInt64)) fun M_3 => some ((0 : Int32), M_3)
set_option maxHeartbeats 4000000 in
set_option maxRecDepth 100000 in
theorem gb_L_apart_0_120_0  {x1 : Int32} {x2 : Int32} {x3 : Int32} {M : Mm} {v : Int32} {M' : Mm} (hE : Has shA (eH E)) (C : Cx RL cL_apart 6 p (rmX 8) s m args meth c E) (hr : meth.sig.returnType = (some .int)) (h : bb_L_apart_0_120_0 x1 x2 x3 M = some (v, M')) : G p l e (rmX 8) s m args below meth c E 6 1 6 (QR below args s E 1 6 (some (.int v)) M') 0 [(0, .ref (eA E 0)), (1, .int x1), (2, .int x2), (3, .int x3), (4, .ref (eA E 120))] [] M := by
  unfold bb_L_apart_0_120_0 at h
  refine G.aload C 4 dL_apart_0 rfl ?_
  refine G.iconst (v := (0 : Int32)) C dL_apart_2 (by decide) ?_
  refine G.aload_n C 0 dL_apart_3 rfl rfl ?_
  refine G.iload_n C 1 dL_apart_4 rfl rfl ?_
  refine G.iload_n C 2 dL_apart_5 rfl rfl ?_
  refine G.iload_n C 3 dL_apart_6 rfl rfl ?_
  obtain ⟨v_2, hv_1, h⟩ := bd_ex h
  refine G.callV (rest := [.int (0 : Int32), .ref (eA E 120)]) C (s_X9_apart_0 (hasC hE)  hv_1) ⟨tg_964, tg_90, ok_X9_apart, Nat.le_of_ble_eq_true rfl, Nat.le_of_ble_eq_true rfl⟩ tg_961 tg_962 tg_963 (sc_0 (hasC hE)) rfl rfl (Nat.le_of_ble_eq_true rfl) dL_apart_7 ⟨Nat.le_refl 1, Nat.le_refl 6⟩ ?_
  refine G.i2l (v := v_2.toInt64) C dL_apart_10 rfl ?_
  obtain ⟨M_3, eM_3, h⟩ := ltv_ex h
  refine G.sJ (j := 0) C (sa_120 hE) (by decide) (by decide) dL_apart_11 eM_3 ?_
  refine G.goto (tgt := 19) C dL_apart_12 (by decide) ?_
  refine G.iconst (v := (0 : Int32)) C dL_apart_19 (by decide) ?_
  cases h
  exact G.iret C hr dL_apart_20
def f_L_apart_0_120 (x1 : Int32) (x2 : Int32) (x3 : Int32) (M : Mm) : Option (Int32 × Mm) := bb_L_apart_0_120_0 x1 x2 x3 M
theorem s_L_apart_0_120 {l : Launch} {E : Ev} {x1 : Int32} {x2 : Int32} {x3 : Int32} {M : Mm} {v : Int32} {M' : Mm} (hE : Has shA (eH E)) (h : f_L_apart_0_120 x1 x2 x3 M = some (v, M')) : MetB l yL_apart cL_apart 6 (some .int) [(0, 12, 15, 32)] 8 E [.ref (eA E 0), .int x1, .int x2, .int x3, .ref (eA E 120)] M (some (.int v)) M' := by
  refine MetB.of (by decide +kernel) (Nat.le_of_ble_eq_true rfl) ?_
  intro p e s m below meth c C hr hT
  exact G.widen (Nat.zero_le 1) (Nat.zero_le 6) (G.sub [0, 1, 2, 3, 4] rfl (gb_L_apart_0_120_0 hE C hr h))
set_option maxHeartbeats 4000000 in
set_option maxRecDepth 100000 in
theorem w3_L_apart_0_120 {l : Launch} {E : Ev} {x1 : Int32} {x2 : Int32} {x3 : Int32} {M : Mm} (hl : l.stackTraces = false) (hE : Has shA (eH E)) (h : t_X9_apart_0 x1 x2 x3 M = some 3) : MetB l yL_apart cL_apart 6 (some .int) [(0, 12, 15, 32)] 8 E [.ref (eA E 0), .int x1, .int x2, .int x3, .ref (eA E 120)] M (some (.int 1)) M := by
  refine MetB.of (by decide +kernel) (Nat.le_of_ble_eq_true rfl) ?_
  intro p e s m below meth c C hr hT
  refine G.sub [0, 1, 2, 3, 4] (L' := [(0, .ref (eA E 0)), (1, .int x1), (2, .int x2), (3, .int x3), (4, .ref (eA E 120))]) rfl ?_
  refine G.aload C 4 dL_apart_0 rfl ?_
  refine G.iconst (v := (0 : Int32)) C dL_apart_2 (by decide) ?_
  refine G.aload_n C 0 dL_apart_3 rfl rfl ?_
  refine G.iload_n C 1 dL_apart_4 rfl rfl ?_
  refine G.iload_n C 2 dL_apart_5 rfl rfl ?_
  refine G.iload_n C 3 dL_apart_6 rfl rfl ?_
  refine G.callVC (k := 3) (hpc := 15) (rest := [.int (0 : Int32), .ref (eA E 120)]) C hT ⟨[], ⟨0, 12, 15, 32⟩, [], rfl, fun z hz => (List.not_mem_nil hz).elim, rfl, by decide, tg_933, tw_944, rfl⟩ (tt_X9_apart_0 hl (hasC hE) h) ⟨tg_964, tg_90, ok_X9_apart, Nat.le_of_ble_eq_true rfl, Nat.le_of_ble_eq_true rfl⟩ tg_961 tg_962 tg_963 (sc_0 (hasC hE)) rfl rfl (Nat.le_of_ble_eq_true rfl) dL_apart_7 ⟨Nat.le_refl 1, Nat.le_refl 6⟩ (fun x => ?_)
  refine G.astore (L' := [(5, .ref x), (0, .ref (eA E 0)), (1, .int x1), (2, .int x2), (3, .int x3), (4, .ref (eA E 120))]) C dL_apart_15 rfl (by decide) rfl ?_
  refine G.iconst (v := (1 : Int32)) C dL_apart_17 (by decide) ?_
  exact G.iret C hr dL_apart_18
def bb_L_punches_0_120_0 (x1 : Int32) (x2 : Int32) (x3 : Int32) (M : Mm) : Option (Int32 × Mm) := bd2 (f_X9_punches_0 x1 x2 x3 M) fun v_3 M_2 => ltv (wJ M_2 120 0 (v_3.toInt64)) fun M_4 => some ((0 : Int32), M_4)
set_option maxHeartbeats 4000000 in
set_option maxRecDepth 100000 in
theorem gb_L_punches_0_120_0  {x1 : Int32} {x2 : Int32} {x3 : Int32} {M : Mm} {v : Int32} {M' : Mm} (hE : Has shA (eH E)) (C : Cx RL cL_punches 6 p (rmX 24) s m args meth c E) (hr : meth.sig.returnType = (some .int)) (h : bb_L_punches_0_120_0 x1 x2 x3 M = some (v, M')) : G p l e (rmX 24) s m args below meth c E 6 1 6 (QR below args s E 1 6 (some (.int v)) M') 0 [(0, .ref (eA E 0)), (1, .int x1), (2, .int x2), (3, .int x3), (4, .ref (eA E 120))] [] M := by
  unfold bb_L_punches_0_120_0 at h
  refine G.aload C 4 dL_punches_0 rfl ?_
  refine G.iconst (v := (0 : Int32)) C dL_punches_2 (by decide) ?_
  refine G.aload_n C 0 dL_punches_3 rfl rfl ?_
  refine G.iload_n C 1 dL_punches_4 rfl rfl ?_
  refine G.iload_n C 2 dL_punches_5 rfl rfl ?_
  refine G.iload_n C 3 dL_punches_6 rfl rfl ?_
  obtain ⟨v_3, M_2, hv_1, h⟩ := bd2_ex h
  refine G.callV (rest := [.int (0 : Int32), .ref (eA E 120)]) C (s_X9_punches_0 (hasC hE)  hv_1) ⟨tg_979, tg_90, ok_X9_punches, Nat.le_of_ble_eq_true rfl, Nat.le_of_ble_eq_true rfl⟩ tg_976 tg_977 tg_978 (sc_0 (hasC hE)) rfl rfl (Nat.le_of_ble_eq_true rfl) dL_punches_7 ⟨Nat.le_refl 1, Nat.le_refl 6⟩ ?_
  refine G.i2l (v := v_3.toInt64) C dL_punches_10 rfl ?_
  obtain ⟨M_4, eM_4, h⟩ := ltv_ex h
  refine G.sJ (j := 0) C (sa_120 hE) (by decide) (by decide) dL_punches_11 eM_4 ?_
  refine G.goto (tgt := 19) C dL_punches_12 (by decide) ?_
  refine G.iconst (v := (0 : Int32)) C dL_punches_19 (by decide) ?_
  cases h
  exact G.iret C hr dL_punches_20
def f_L_punches_0_120 (x1 : Int32) (x2 : Int32) (x3 : Int32) (M : Mm) : Option (Int32 × Mm) := bb_L_punches_0_120_0 x1 x2 x3 M
theorem s_L_punches_0_120 {l : Launch} {E : Ev} {x1 : Int32} {x2 : Int32} {x3 : Int32} {M : Mm} {v : Int32} {M' : Mm} (hE : Has shA (eH E)) (h : f_L_punches_0_120 x1 x2 x3 M = some (v, M')) : MetB l yL_punches cL_punches 6 (some .int) [(0, 12, 15, 13)] 24 E [.ref (eA E 0), .int x1, .int x2, .int x3, .ref (eA E 120)] M (some (.int v)) M' := by
  refine MetB.of (by decide +kernel) (Nat.le_of_ble_eq_true rfl) ?_
  intro p e s m below meth c C hr hT
  exact G.widen (Nat.zero_le 1) (Nat.zero_le 6) (G.sub [0, 1, 2, 3, 4] rfl (gb_L_punches_0_120_0 hE C hr h))
set_option maxHeartbeats 4000000 in
set_option maxRecDepth 100000 in
theorem w2_L_punches_0_120 {l : Launch} {E : Ev} {x1 : Int32} {x2 : Int32} {x3 : Int32} {M : Mm} (hl : l.stackTraces = false) (hE : Has shA (eH E)) (h : t_X9_punches_0 x1 x2 x3 M = some 2) : MetB l yL_punches cL_punches 6 (some .int) [(0, 12, 15, 13)] 24 E [.ref (eA E 0), .int x1, .int x2, .int x3, .ref (eA E 120)] M (some (.int 1)) M := by
  refine MetB.of (by decide +kernel) (Nat.le_of_ble_eq_true rfl) ?_
  intro p e s m below meth c C hr hT
  refine G.sub [0, 1, 2, 3, 4] (L' := [(0, .ref (eA E 0)), (1, .int x1), (2, .int x2), (3, .int x3), (4, .ref (eA E 120))]) rfl ?_
  refine G.aload C 4 dL_punches_0 rfl ?_
  refine G.iconst (v := (0 : Int32)) C dL_punches_2 (by decide) ?_
  refine G.aload_n C 0 dL_punches_3 rfl rfl ?_
  refine G.iload_n C 1 dL_punches_4 rfl rfl ?_
  refine G.iload_n C 2 dL_punches_5 rfl rfl ?_
  refine G.iload_n C 3 dL_punches_6 rfl rfl ?_
  refine G.callVC (k := 2) (hpc := 15) (rest := [.int (0 : Int32), .ref (eA E 120)]) C hT ⟨[], ⟨0, 12, 15, 13⟩, [], rfl, fun z hz => (List.not_mem_nil hz).elim, rfl, by decide, tg_634, tw_644, rfl⟩ (tt_X9_punches_0 hl (hasC hE) h) ⟨tg_979, tg_90, ok_X9_punches, Nat.le_of_ble_eq_true rfl, Nat.le_of_ble_eq_true rfl⟩ tg_976 tg_977 tg_978 (sc_0 (hasC hE)) rfl rfl (Nat.le_of_ble_eq_true rfl) dL_punches_7 ⟨Nat.le_refl 1, Nat.le_refl 6⟩ (fun x => ?_)
  refine G.astore (L' := [(5, .ref x), (0, .ref (eA E 0)), (1, .int x1), (2, .int x2), (3, .int x3), (4, .ref (eA E 120))]) C dL_punches_15 rfl (by decide) rfl ?_
  refine G.iconst (v := (1 : Int32)) C dL_punches_17 (by decide) ?_
  exact G.iret C hr dL_punches_18
def bb_L_served_0_120_0 (x1 : Int32) (x2 : Int32) (x3 : Int32) (M : Mm) : Option (Int32 × Mm) := bd2 (f_X9_served_0 x1 x2 x3 M) fun v_3 M_2 => ltv (wJ M_2 120 0 (v_3.toInt64)) fun M_4 => some ((0 : Int32), M_4)
set_option maxHeartbeats 4000000 in
set_option maxRecDepth 100000 in
theorem gb_L_served_0_120_0  {x1 : Int32} {x2 : Int32} {x3 : Int32} {M : Mm} {v : Int32} {M' : Mm} (hE : Has shA (eH E)) (C : Cx RL cL_served 6 p (rmX 25) s m args meth c E) (hr : meth.sig.returnType = (some .int)) (h : bb_L_served_0_120_0 x1 x2 x3 M = some (v, M')) : G p l e (rmX 25) s m args below meth c E 6 1 6 (QR below args s E 1 6 (some (.int v)) M') 0 [(0, .ref (eA E 0)), (1, .int x1), (2, .int x2), (3, .int x3), (4, .ref (eA E 120))] [] M := by
  unfold bb_L_served_0_120_0 at h
  refine G.aload C 4 dL_served_0 rfl ?_
  refine G.iconst (v := (0 : Int32)) C dL_served_2 (by decide) ?_
  refine G.aload_n C 0 dL_served_3 rfl rfl ?_
  refine G.iload_n C 1 dL_served_4 rfl rfl ?_
  refine G.iload_n C 2 dL_served_5 rfl rfl ?_
  refine G.iload_n C 3 dL_served_6 rfl rfl ?_
  obtain ⟨v_3, M_2, hv_1, h⟩ := bd2_ex h
  refine G.callV (rest := [.int (0 : Int32), .ref (eA E 120)]) C (s_X9_served_0 (hasC hE)  hv_1) ⟨tg_1008, tg_90, ok_X9_served, Nat.le_of_ble_eq_true rfl, Nat.le_of_ble_eq_true rfl⟩ tg_1005 tg_1006 tg_1007 (sc_0 (hasC hE)) rfl rfl (Nat.le_of_ble_eq_true rfl) dL_served_7 ⟨Nat.le_refl 1, Nat.le_refl 6⟩ ?_
  refine G.i2l (v := v_3.toInt64) C dL_served_10 rfl ?_
  obtain ⟨M_4, eM_4, h⟩ := ltv_ex h
  refine G.sJ (j := 0) C (sa_120 hE) (by decide) (by decide) dL_served_11 eM_4 ?_
  refine G.goto (tgt := 23) C dL_served_12 (by decide) ?_
  refine G.iconst (v := (0 : Int32)) C dL_served_23 (by decide) ?_
  cases h
  exact G.iret C hr dL_served_24
def f_L_served_0_120 (x1 : Int32) (x2 : Int32) (x3 : Int32) (M : Mm) : Option (Int32 × Mm) := bb_L_served_0_120_0 x1 x2 x3 M
theorem s_L_served_0_120 {l : Launch} {E : Ev} {x1 : Int32} {x2 : Int32} {x3 : Int32} {M : Mm} {v : Int32} {M' : Mm} (hE : Has shA (eH E)) (h : f_L_served_0_120 x1 x2 x3 M = some (v, M')) : MetB l yL_served cL_served 6 (some .int) [(0, 12, 15, 32), (0, 12, 19, 13)] 25 E [.ref (eA E 0), .int x1, .int x2, .int x3, .ref (eA E 120)] M (some (.int v)) M' := by
  refine MetB.of (by decide +kernel) (Nat.le_of_ble_eq_true rfl) ?_
  intro p e s m below meth c C hr hT
  exact G.widen (Nat.zero_le 1) (Nat.zero_le 6) (G.sub [0, 1, 2, 3, 4] rfl (gb_L_served_0_120_0 hE C hr h))
set_option maxHeartbeats 4000000 in
set_option maxRecDepth 100000 in
theorem w3_L_served_0_120 {l : Launch} {E : Ev} {x1 : Int32} {x2 : Int32} {x3 : Int32} {M : Mm} (hl : l.stackTraces = false) (hE : Has shA (eH E)) (h : t_X9_served_0 x1 x2 x3 M = some 3) : MetB l yL_served cL_served 6 (some .int) [(0, 12, 15, 32), (0, 12, 19, 13)] 25 E [.ref (eA E 0), .int x1, .int x2, .int x3, .ref (eA E 120)] M (some (.int 1)) M := by
  refine MetB.of (by decide +kernel) (Nat.le_of_ble_eq_true rfl) ?_
  intro p e s m below meth c C hr hT
  refine G.sub [0, 1, 2, 3, 4] (L' := [(0, .ref (eA E 0)), (1, .int x1), (2, .int x2), (3, .int x3), (4, .ref (eA E 120))]) rfl ?_
  refine G.aload C 4 dL_served_0 rfl ?_
  refine G.iconst (v := (0 : Int32)) C dL_served_2 (by decide) ?_
  refine G.aload_n C 0 dL_served_3 rfl rfl ?_
  refine G.iload_n C 1 dL_served_4 rfl rfl ?_
  refine G.iload_n C 2 dL_served_5 rfl rfl ?_
  refine G.iload_n C 3 dL_served_6 rfl rfl ?_
  refine G.callVC (k := 3) (hpc := 15) (rest := [.int (0 : Int32), .ref (eA E 120)]) C hT ⟨[], ⟨0, 12, 15, 32⟩, [⟨0, 12, 19, 13⟩], rfl, fun z hz => (List.not_mem_nil hz).elim, rfl, by decide, tg_933, tw_944, rfl⟩ (tt_X9_served_0 hl (hasC hE) h) ⟨tg_1008, tg_90, ok_X9_served, Nat.le_of_ble_eq_true rfl, Nat.le_of_ble_eq_true rfl⟩ tg_1005 tg_1006 tg_1007 (sc_0 (hasC hE)) rfl rfl (Nat.le_of_ble_eq_true rfl) dL_served_7 ⟨Nat.le_refl 1, Nat.le_refl 6⟩ (fun x => ?_)
  refine G.astore (L' := [(5, .ref x), (0, .ref (eA E 0)), (1, .int x1), (2, .int x2), (3, .int x3), (4, .ref (eA E 120))]) C dL_served_15 rfl (by decide) rfl ?_
  refine G.iconst (v := (1 : Int32)) C dL_served_17 (by decide) ?_
  exact G.iret C hr dL_served_18
set_option maxHeartbeats 4000000 in
set_option maxRecDepth 100000 in
theorem w2_L_served_0_120 {l : Launch} {E : Ev} {x1 : Int32} {x2 : Int32} {x3 : Int32} {M : Mm} (hl : l.stackTraces = false) (hE : Has shA (eH E)) (h : t_X9_served_0 x1 x2 x3 M = some 2) : MetB l yL_served cL_served 6 (some .int) [(0, 12, 15, 32), (0, 12, 19, 13)] 25 E [.ref (eA E 0), .int x1, .int x2, .int x3, .ref (eA E 120)] M (some (.int 2)) M := by
  refine MetB.of (by decide +kernel) (Nat.le_of_ble_eq_true rfl) ?_
  intro p e s m below meth c C hr hT
  refine G.sub [0, 1, 2, 3, 4] (L' := [(0, .ref (eA E 0)), (1, .int x1), (2, .int x2), (3, .int x3), (4, .ref (eA E 120))]) rfl ?_
  refine G.aload C 4 dL_served_0 rfl ?_
  refine G.iconst (v := (0 : Int32)) C dL_served_2 (by decide) ?_
  refine G.aload_n C 0 dL_served_3 rfl rfl ?_
  refine G.iload_n C 1 dL_served_4 rfl rfl ?_
  refine G.iload_n C 2 dL_served_5 rfl rfl ?_
  refine G.iload_n C 3 dL_served_6 rfl rfl ?_
  refine G.callVC (k := 2) (hpc := 19) (rest := [.int (0 : Int32), .ref (eA E 120)]) C hT ⟨[⟨0, 12, 15, 32⟩], ⟨0, 12, 19, 13⟩, [], rfl, fun z hz => by rw [List.mem_singleton.mp hz]; exact ⟨by decide, rfl, Or.inr tg_933⟩, rfl, by decide, tg_634, tw_644, rfl⟩ (tt_X9_served_0 hl (hasC hE) h) ⟨tg_1008, tg_90, ok_X9_served, Nat.le_of_ble_eq_true rfl, Nat.le_of_ble_eq_true rfl⟩ tg_1005 tg_1006 tg_1007 (sc_0 (hasC hE)) rfl rfl (Nat.le_of_ble_eq_true rfl) dL_served_7 ⟨Nat.le_refl 1, Nat.le_refl 6⟩ (fun x => ?_)
  refine G.astore (L' := [(5, .ref x), (0, .ref (eA E 0)), (1, .int x1), (2, .int x2), (3, .int x3), (4, .ref (eA E 120))]) C dL_served_19 rfl (by decide) rfl ?_
  refine G.iconst (v := (2 : Int32)) C dL_served_21 (by decide) ?_
  exact G.iret C hr dL_served_22
def bb_L_bites_0_120_0 (x1 : Int32) (x2 : Int32) (M : Mm) : Option (Int32 × Mm) := bd2 (f_X9_bites_0 x1 x2 M) fun v_3 M_2 => ltv (wJ M_2 120 0 (v_3.toInt64)) fun M_4 => some ((0 : Int32), M_4)
set_option maxHeartbeats 4000000 in
set_option maxRecDepth 100000 in
theorem gb_L_bites_0_120_0  {x1 : Int32} {x2 : Int32} {M : Mm} {v : Int32} {M' : Mm} (hE : Has shA (eH E)) (C : Cx RL cL_bites 5 p (rmX 27) s m args meth c E) (hr : meth.sig.returnType = (some .int)) (h : bb_L_bites_0_120_0 x1 x2 M = some (v, M')) : G p l e (rmX 27) s m args below meth c E 5 1 6 (QR below args s E 1 6 (some (.int v)) M') 0 [(0, .ref (eA E 0)), (1, .int x1), (2, .int x2), (3, .ref (eA E 120))] [] M := by
  unfold bb_L_bites_0_120_0 at h
  refine G.aload_n C 3 dL_bites_0 rfl rfl ?_
  refine G.iconst (v := (0 : Int32)) C dL_bites_1 (by decide) ?_
  refine G.aload_n C 0 dL_bites_2 rfl rfl ?_
  refine G.iload_n C 1 dL_bites_3 rfl rfl ?_
  refine G.iload_n C 2 dL_bites_4 rfl rfl ?_
  obtain ⟨v_3, M_2, hv_1, h⟩ := bd2_ex h
  refine G.callV (rest := [.int (0 : Int32), .ref (eA E 120)]) C (s_X9_bites_0 (hasC hE)  hv_1) ⟨tg_1020, tg_90, ok_X9_bites, Nat.le_of_ble_eq_true rfl, Nat.le_of_ble_eq_true rfl⟩ tg_1017 tg_1018 tg_1019 (sc_0 (hasC hE)) rfl rfl (Nat.le_of_ble_eq_true rfl) dL_bites_5 ⟨Nat.le_refl 1, Nat.le_refl 6⟩ ?_
  refine G.i2l (v := v_3.toInt64) C dL_bites_8 rfl ?_
  obtain ⟨M_4, eM_4, h⟩ := ltv_ex h
  refine G.sJ (j := 0) C (sa_120 hE) (by decide) (by decide) dL_bites_9 eM_4 ?_
  refine G.goto (tgt := 21) C dL_bites_10 (by decide) ?_
  refine G.iconst (v := (0 : Int32)) C dL_bites_21 (by decide) ?_
  cases h
  exact G.iret C hr dL_bites_22
def f_L_bites_0_120 (x1 : Int32) (x2 : Int32) (M : Mm) : Option (Int32 × Mm) := bb_L_bites_0_120_0 x1 x2 M
theorem s_L_bites_0_120 {l : Launch} {E : Ev} {x1 : Int32} {x2 : Int32} {M : Mm} {v : Int32} {M' : Mm} (hE : Has shA (eH E)) (h : f_L_bites_0_120 x1 x2 M = some (v, M')) : MetB l yL_bites cL_bites 5 (some .int) [(0, 10, 13, 22), (0, 10, 17, 13)] 27 E [.ref (eA E 0), .int x1, .int x2, .ref (eA E 120)] M (some (.int v)) M' := by
  refine MetB.of (by decide +kernel) (Nat.le_of_ble_eq_true rfl) ?_
  intro p e s m below meth c C hr hT
  exact G.widen (Nat.zero_le 1) (Nat.zero_le 6) (G.sub [0, 1, 2, 3] rfl (gb_L_bites_0_120_0 hE C hr h))
set_option maxHeartbeats 4000000 in
set_option maxRecDepth 100000 in
theorem w1_L_bites_0_120 {l : Launch} {E : Ev} {x1 : Int32} {x2 : Int32} {M : Mm} (hl : l.stackTraces = false) (hE : Has shA (eH E)) (h : t_X9_bites_0 x1 x2 M = some 1) : MetB l yL_bites cL_bites 5 (some .int) [(0, 10, 13, 22), (0, 10, 17, 13)] 27 E [.ref (eA E 0), .int x1, .int x2, .ref (eA E 120)] M (some (.int 1)) M := by
  refine MetB.of (by decide +kernel) (Nat.le_of_ble_eq_true rfl) ?_
  intro p e s m below meth c C hr hT
  refine G.sub [0, 1, 2, 3] (L' := [(0, .ref (eA E 0)), (1, .int x1), (2, .int x2), (3, .ref (eA E 120))]) rfl ?_
  refine G.aload_n C 3 dL_bites_0 rfl rfl ?_
  refine G.iconst (v := (0 : Int32)) C dL_bites_1 (by decide) ?_
  refine G.aload_n C 0 dL_bites_2 rfl rfl ?_
  refine G.iload_n C 1 dL_bites_3 rfl rfl ?_
  refine G.iload_n C 2 dL_bites_4 rfl rfl ?_
  refine G.callVC (k := 1) (hpc := 13) (rest := [.int (0 : Int32), .ref (eA E 120)]) C hT ⟨[], ⟨0, 10, 13, 22⟩, [⟨0, 10, 17, 13⟩], rfl, fun z hz => (List.not_mem_nil hz).elim, rfl, by decide, tg_886, tw_897, rfl⟩ (tt_X9_bites_0 hl (hasC hE) h) ⟨tg_1020, tg_90, ok_X9_bites, Nat.le_of_ble_eq_true rfl, Nat.le_of_ble_eq_true rfl⟩ tg_1017 tg_1018 tg_1019 (sc_0 (hasC hE)) rfl rfl (Nat.le_of_ble_eq_true rfl) dL_bites_5 ⟨Nat.le_refl 1, Nat.le_refl 6⟩ (fun x => ?_)
  refine G.astore (L' := [(4, .ref x), (0, .ref (eA E 0)), (1, .int x1), (2, .int x2), (3, .ref (eA E 120))]) C dL_bites_13 rfl (by decide) rfl ?_
  refine G.iconst (v := (1 : Int32)) C dL_bites_15 (by decide) ?_
  exact G.iret C hr dL_bites_16
set_option maxHeartbeats 4000000 in
set_option maxRecDepth 100000 in
theorem w2_L_bites_0_120 {l : Launch} {E : Ev} {x1 : Int32} {x2 : Int32} {M : Mm} (hl : l.stackTraces = false) (hE : Has shA (eH E)) (h : t_X9_bites_0 x1 x2 M = some 2) : MetB l yL_bites cL_bites 5 (some .int) [(0, 10, 13, 22), (0, 10, 17, 13)] 27 E [.ref (eA E 0), .int x1, .int x2, .ref (eA E 120)] M (some (.int 2)) M := by
  refine MetB.of (by decide +kernel) (Nat.le_of_ble_eq_true rfl) ?_
  intro p e s m below meth c C hr hT
  refine G.sub [0, 1, 2, 3] (L' := [(0, .ref (eA E 0)), (1, .int x1), (2, .int x2), (3, .ref (eA E 120))]) rfl ?_
  refine G.aload_n C 3 dL_bites_0 rfl rfl ?_
  refine G.iconst (v := (0 : Int32)) C dL_bites_1 (by decide) ?_
  refine G.aload_n C 0 dL_bites_2 rfl rfl ?_
  refine G.iload_n C 1 dL_bites_3 rfl rfl ?_
  refine G.iload_n C 2 dL_bites_4 rfl rfl ?_
  refine G.callVC (k := 2) (hpc := 17) (rest := [.int (0 : Int32), .ref (eA E 120)]) C hT ⟨[⟨0, 10, 13, 22⟩], ⟨0, 10, 17, 13⟩, [], rfl, fun z hz => by rw [List.mem_singleton.mp hz]; exact ⟨by decide, rfl, Or.inl tg_886⟩, rfl, by decide, tg_634, tw_644, rfl⟩ (tt_X9_bites_0 hl (hasC hE) h) ⟨tg_1020, tg_90, ok_X9_bites, Nat.le_of_ble_eq_true rfl, Nat.le_of_ble_eq_true rfl⟩ tg_1017 tg_1018 tg_1019 (sc_0 (hasC hE)) rfl rfl (Nat.le_of_ble_eq_true rfl) dL_bites_5 ⟨Nat.le_refl 1, Nat.le_refl 6⟩ (fun x => ?_)
  refine G.astore (L' := [(4, .ref x), (0, .ref (eA E 0)), (1, .int x1), (2, .int x2), (3, .ref (eA E 120))]) C dL_bites_17 rfl (by decide) rfl ?_
  refine G.iconst (v := (2 : Int32)) C dL_bites_19 (by decide) ?_
  exact G.iret C hr dL_bites_20
def bb_L_lines_0_120_0 (x1 : Int32) (M : Mm) : Option (Int32 × Mm) := bd2 (f_X9_lines_0 x1 M) fun v_3 M_2 => ltv (wJ M_2 120 0 v_3) fun M_4 => some ((0 : Int32), M_4)
set_option maxHeartbeats 4000000 in
set_option maxRecDepth 100000 in
theorem gb_L_lines_0_120_0  {x1 : Int32} {M : Mm} {v : Int32} {M' : Mm} (hE : Has shA (eH E)) (C : Cx RL cL_lines 4 p (rmX 27) s m args meth c E) (hr : meth.sig.returnType = (some .int)) (h : bb_L_lines_0_120_0 x1 M = some (v, M')) : G p l e (rmX 27) s m args below meth c E 4 1 6 (QR below args s E 1 6 (some (.int v)) M') 0 [(0, .ref (eA E 0)), (1, .int x1), (2, .ref (eA E 120))] [] M := by
  unfold bb_L_lines_0_120_0 at h
  refine G.aload_n C 2 dL_lines_0 rfl rfl ?_
  refine G.iconst (v := (0 : Int32)) C dL_lines_1 (by decide) ?_
  refine G.aload_n C 0 dL_lines_2 rfl rfl ?_
  refine G.iload_n C 1 dL_lines_3 rfl rfl ?_
  obtain ⟨v_3, M_2, hv_1, h⟩ := bd2_ex h
  refine G.callV (rest := [.int (0 : Int32), .ref (eA E 120)]) C (s_X9_lines_0 (hasC hE)  hv_1) ⟨tg_1036, tg_90, ok_X9_lines, Nat.le_of_ble_eq_true rfl, Nat.le_of_ble_eq_true rfl⟩ tg_1033 tg_1034 tg_1035 (sc_0 (hasC hE)) rfl rfl (Nat.le_of_ble_eq_true rfl) dL_lines_4 ⟨Nat.le_refl 1, Nat.le_refl 6⟩ ?_
  obtain ⟨M_4, eM_4, h⟩ := ltv_ex h
  refine G.sJ (j := 0) C (sa_120 hE) (by decide) (by decide) dL_lines_7 eM_4 ?_
  refine G.goto (tgt := 14) C dL_lines_8 (by decide) ?_
  refine G.iconst (v := (0 : Int32)) C dL_lines_14 (by decide) ?_
  cases h
  exact G.iret C hr dL_lines_15
def f_L_lines_0_120 (x1 : Int32) (M : Mm) : Option (Int32 × Mm) := bb_L_lines_0_120_0 x1 M
theorem s_L_lines_0_120 {l : Launch} {E : Ev} {x1 : Int32} {M : Mm} {v : Int32} {M' : Mm} (hE : Has shA (eH E)) (h : f_L_lines_0_120 x1 M = some (v, M')) : MetB l yL_lines cL_lines 4 (some .int) [(0, 8, 11, 22)] 27 E [.ref (eA E 0), .int x1, .ref (eA E 120)] M (some (.int v)) M' := by
  refine MetB.of (by decide +kernel) (Nat.le_of_ble_eq_true rfl) ?_
  intro p e s m below meth c C hr hT
  exact G.widen (Nat.zero_le 1) (Nat.zero_le 6) (G.sub [0, 1, 2] rfl (gb_L_lines_0_120_0 hE C hr h))
set_option maxHeartbeats 4000000 in
set_option maxRecDepth 100000 in
theorem w1_L_lines_0_120 {l : Launch} {E : Ev} {x1 : Int32} {M : Mm} (hl : l.stackTraces = false) (hE : Has shA (eH E)) (h : t_X9_lines_0 x1 M = some 1) : MetB l yL_lines cL_lines 4 (some .int) [(0, 8, 11, 22)] 27 E [.ref (eA E 0), .int x1, .ref (eA E 120)] M (some (.int 1)) M := by
  refine MetB.of (by decide +kernel) (Nat.le_of_ble_eq_true rfl) ?_
  intro p e s m below meth c C hr hT
  refine G.sub [0, 1, 2] (L' := [(0, .ref (eA E 0)), (1, .int x1), (2, .ref (eA E 120))]) rfl ?_
  refine G.aload_n C 2 dL_lines_0 rfl rfl ?_
  refine G.iconst (v := (0 : Int32)) C dL_lines_1 (by decide) ?_
  refine G.aload_n C 0 dL_lines_2 rfl rfl ?_
  refine G.iload_n C 1 dL_lines_3 rfl rfl ?_
  refine G.callVC (k := 1) (hpc := 11) (rest := [.int (0 : Int32), .ref (eA E 120)]) C hT ⟨[], ⟨0, 8, 11, 22⟩, [], rfl, fun z hz => (List.not_mem_nil hz).elim, rfl, by decide, tg_886, tw_897, rfl⟩ (tt_X9_lines_0 hl (hasC hE) h) ⟨tg_1036, tg_90, ok_X9_lines, Nat.le_of_ble_eq_true rfl, Nat.le_of_ble_eq_true rfl⟩ tg_1033 tg_1034 tg_1035 (sc_0 (hasC hE)) rfl rfl (Nat.le_of_ble_eq_true rfl) dL_lines_4 ⟨Nat.le_refl 1, Nat.le_refl 6⟩ (fun x => ?_)
  refine G.astore_n (L' := [(3, .ref x), (0, .ref (eA E 0)), (1, .int x1), (2, .ref (eA E 120))]) C dL_lines_11 rfl rfl (by decide) rfl ?_
  refine G.iconst (v := (1 : Int32)) C dL_lines_12 (by decide) ?_
  exact G.iret C hr dL_lines_13
def bb_L_begin_0_0 (x1 : Int32) (M : Mm) : Option (Int32 × Mm) := bd (f_X9_begin_0 x1 M) fun M_2 => some ((0 : Int32), M_2)
set_option maxHeartbeats 4000000 in
set_option maxRecDepth 100000 in
theorem gb_L_begin_0_0  {x1 : Int32} {M : Mm} {v : Int32} {M' : Mm} (hE : Has shA (eH E)) (C : Cx RL cL_begin 3 p (rmX 8) s m args meth c E) (hr : meth.sig.returnType = (some .int)) (h : bb_L_begin_0_0 x1 M = some (v, M')) : G p l e (rmX 8) s m args below meth c E 3 1 6 (QR below args s E 1 6 (some (.int v)) M') 0 [(0, .ref (eA E 0)), (1, .int x1)] [] M := by
  unfold bb_L_begin_0_0 at h
  refine G.aload_n C 0 dL_begin_0 rfl rfl ?_
  refine G.iload_n C 1 dL_begin_1 rfl rfl ?_
  obtain ⟨M_2, hv_1, h⟩ := bd_ex h
  refine G.callV (rest := []) C (s_X9_begin_0 (hasC hE)  hv_1) ⟨tg_1043, tg_90, ok_X9_begin, Nat.le_of_ble_eq_true rfl, Nat.le_of_ble_eq_true rfl⟩ tg_1040 tg_1041 tg_1042 (sc_0 (hasC hE)) rfl rfl (Nat.le_of_ble_eq_true rfl) dL_begin_2 ⟨Nat.le_refl 1, Nat.le_refl 6⟩ ?_
  refine G.goto (tgt := 11) C dL_begin_5 (by decide) ?_
  refine G.iconst (v := (0 : Int32)) C dL_begin_11 (by decide) ?_
  cases h
  exact G.iret C hr dL_begin_12
def f_L_begin_0 (x1 : Int32) (M : Mm) : Option (Int32 × Mm) := bb_L_begin_0_0 x1 M
theorem s_L_begin_0 {l : Launch} {E : Ev} {x1 : Int32} {M : Mm} {v : Int32} {M' : Mm} (hE : Has shA (eH E)) (h : f_L_begin_0 x1 M = some (v, M')) : MetB l yL_begin cL_begin 3 (some .int) [(0, 5, 8, 22)] 8 E [.ref (eA E 0), .int x1] M (some (.int v)) M' := by
  refine MetB.of (by decide +kernel) (Nat.le_of_ble_eq_true rfl) ?_
  intro p e s m below meth c C hr hT
  exact G.widen (Nat.zero_le 1) (Nat.zero_le 6) (G.sub [0, 1] rfl (gb_L_begin_0_0 hE C hr h))
set_option maxHeartbeats 4000000 in
set_option maxRecDepth 100000 in
theorem w1_L_begin_0 {l : Launch} {E : Ev} {x1 : Int32} {M : Mm} (hl : l.stackTraces = false) (hE : Has shA (eH E)) (h : t_X9_begin_0 x1 M = some 1) : MetB l yL_begin cL_begin 3 (some .int) [(0, 5, 8, 22)] 8 E [.ref (eA E 0), .int x1] M (some (.int 1)) M := by
  refine MetB.of (by decide +kernel) (Nat.le_of_ble_eq_true rfl) ?_
  intro p e s m below meth c C hr hT
  refine G.sub [0, 1] (L' := [(0, .ref (eA E 0)), (1, .int x1)]) rfl ?_
  refine G.aload_n C 0 dL_begin_0 rfl rfl ?_
  refine G.iload_n C 1 dL_begin_1 rfl rfl ?_
  refine G.callVC (k := 1) (hpc := 8) (rest := []) C hT ⟨[], ⟨0, 5, 8, 22⟩, [], rfl, fun z hz => (List.not_mem_nil hz).elim, rfl, by decide, tg_886, tw_897, rfl⟩ (tt_X9_begin_0 hl (hasC hE) h) ⟨tg_1043, tg_90, ok_X9_begin, Nat.le_of_ble_eq_true rfl, Nat.le_of_ble_eq_true rfl⟩ tg_1040 tg_1041 tg_1042 (sc_0 (hasC hE)) rfl rfl (Nat.le_of_ble_eq_true rfl) dL_begin_2 ⟨Nat.le_refl 1, Nat.le_refl 6⟩ (fun x => ?_)
  refine G.astore_n (L' := [(2, .ref x), (0, .ref (eA E 0)), (1, .int x1)]) C dL_begin_8 rfl rfl (by decide) rfl ?_
  refine G.iconst (v := (1 : Int32)) C dL_begin_9 (by decide) ?_
  exact G.iret C hr dL_begin_10
def bb_L_blow_0_120_0 (x1 : Int32) (M : Mm) : Option (Int32 × Mm) := bd2 (f_X9_blow_0 x1 M) fun v_3 M_2 => ltv (wJ M_2 120 0 (v_3.toInt64)) fun M_4 => some ((0 : Int32), M_4)
set_option maxHeartbeats 4000000 in
set_option maxRecDepth 100000 in
theorem gb_L_blow_0_120_0  {x1 : Int32} {M : Mm} {v : Int32} {M' : Mm} (hE : Has shA (eH E)) (C : Cx RL cL_blow 4 p (rmX 8) s m args meth c E) (hr : meth.sig.returnType = (some .int)) (h : bb_L_blow_0_120_0 x1 M = some (v, M')) : G p l e (rmX 8) s m args below meth c E 4 1 6 (QR below args s E 1 6 (some (.int v)) M') 0 [(0, .ref (eA E 0)), (1, .int x1), (2, .ref (eA E 120))] [] M := by
  unfold bb_L_blow_0_120_0 at h
  refine G.aload_n C 2 dL_blow_0 rfl rfl ?_
  refine G.iconst (v := (0 : Int32)) C dL_blow_1 (by decide) ?_
  refine G.aload_n C 0 dL_blow_2 rfl rfl ?_
  refine G.iload_n C 1 dL_blow_3 rfl rfl ?_
  obtain ⟨v_3, M_2, hv_1, h⟩ := bd2_ex h
  refine G.callV (rest := [.int (0 : Int32), .ref (eA E 120)]) C (s_X9_blow_0 (hasC hE)  hv_1) ⟨tg_1054, tg_90, ok_X9_blow, Nat.le_of_ble_eq_true rfl, Nat.le_of_ble_eq_true rfl⟩ tg_1051 tg_1052 tg_1053 (sc_0 (hasC hE)) rfl rfl (Nat.le_of_ble_eq_true rfl) dL_blow_4 ⟨Nat.le_refl 1, Nat.le_refl 6⟩ ?_
  refine G.i2l (v := v_3.toInt64) C dL_blow_7 rfl ?_
  obtain ⟨M_4, eM_4, h⟩ := ltv_ex h
  refine G.sJ (j := 0) C (sa_120 hE) (by decide) (by decide) dL_blow_8 eM_4 ?_
  refine G.goto (tgt := 15) C dL_blow_9 (by decide) ?_
  refine G.iconst (v := (0 : Int32)) C dL_blow_15 (by decide) ?_
  cases h
  exact G.iret C hr dL_blow_16
def f_L_blow_0_120 (x1 : Int32) (M : Mm) : Option (Int32 × Mm) := bb_L_blow_0_120_0 x1 M
theorem s_L_blow_0_120 {l : Launch} {E : Ev} {x1 : Int32} {M : Mm} {v : Int32} {M' : Mm} (hE : Has shA (eH E)) (h : f_L_blow_0_120 x1 M = some (v, M')) : MetB l yL_blow cL_blow 4 (some .int) [(0, 9, 12, 32)] 8 E [.ref (eA E 0), .int x1, .ref (eA E 120)] M (some (.int v)) M' := by
  refine MetB.of (by decide +kernel) (Nat.le_of_ble_eq_true rfl) ?_
  intro p e s m below meth c C hr hT
  exact G.widen (Nat.zero_le 1) (Nat.zero_le 6) (G.sub [0, 1, 2] rfl (gb_L_blow_0_120_0 hE C hr h))
set_option maxHeartbeats 4000000 in
set_option maxRecDepth 100000 in
theorem w3_L_blow_0_120 {l : Launch} {E : Ev} {x1 : Int32} {M : Mm} (hl : l.stackTraces = false) (hE : Has shA (eH E)) (h : t_X9_blow_0 x1 M = some 3) : MetB l yL_blow cL_blow 4 (some .int) [(0, 9, 12, 32)] 8 E [.ref (eA E 0), .int x1, .ref (eA E 120)] M (some (.int 1)) M := by
  refine MetB.of (by decide +kernel) (Nat.le_of_ble_eq_true rfl) ?_
  intro p e s m below meth c C hr hT
  refine G.sub [0, 1, 2] (L' := [(0, .ref (eA E 0)), (1, .int x1), (2, .ref (eA E 120))]) rfl ?_
  refine G.aload_n C 2 dL_blow_0 rfl rfl ?_
  refine G.iconst (v := (0 : Int32)) C dL_blow_1 (by decide) ?_
  refine G.aload_n C 0 dL_blow_2 rfl rfl ?_
  refine G.iload_n C 1 dL_blow_3 rfl rfl ?_
  refine G.callVC (k := 3) (hpc := 12) (rest := [.int (0 : Int32), .ref (eA E 120)]) C hT ⟨[], ⟨0, 9, 12, 32⟩, [], rfl, fun z hz => (List.not_mem_nil hz).elim, rfl, by decide, tg_933, tw_944, rfl⟩ (tt_X9_blow_0 hl (hasC hE) h) ⟨tg_1054, tg_90, ok_X9_blow, Nat.le_of_ble_eq_true rfl, Nat.le_of_ble_eq_true rfl⟩ tg_1051 tg_1052 tg_1053 (sc_0 (hasC hE)) rfl rfl (Nat.le_of_ble_eq_true rfl) dL_blow_4 ⟨Nat.le_refl 1, Nat.le_refl 6⟩ (fun x => ?_)
  refine G.astore_n (L' := [(3, .ref x), (0, .ref (eA E 0)), (1, .int x1), (2, .ref (eA E 120))]) C dL_blow_12 rfl rfl (by decide) rfl ?_
  refine G.iconst (v := (1 : Int32)) C dL_blow_13 (by decide) ?_
  exact G.iret C hr dL_blow_14
def bb_L_file_0_120_0 (x1 : Int32) (x2 : Int32) (x3 : Int32) (M : Mm) : Option (Int32 × Mm) := bd2 (f_X9_file_0 x1 x2 x3 M) fun v_3 M_2 => ltv (wJ M_2 120 0 (v_3.toInt64)) fun M_4 => some ((0 : Int32), M_4)
set_option maxHeartbeats 4000000 in
set_option maxRecDepth 100000 in
theorem gb_L_file_0_120_0  {x1 : Int32} {x2 : Int32} {x3 : Int32} {M : Mm} {v : Int32} {M' : Mm} (hE : Has shA (eH E)) (C : Cx RL cL_file 6 p (rmX 9) s m args meth c E) (hr : meth.sig.returnType = (some .int)) (h : bb_L_file_0_120_0 x1 x2 x3 M = some (v, M')) : G p l e (rmX 9) s m args below meth c E 6 1 6 (QR below args s E 1 6 (some (.int v)) M') 0 [(0, .ref (eA E 0)), (1, .int x1), (2, .int x2), (3, .int x3), (4, .ref (eA E 120))] [] M := by
  unfold bb_L_file_0_120_0 at h
  refine G.aload C 4 dL_file_0 rfl ?_
  refine G.iconst (v := (0 : Int32)) C dL_file_2 (by decide) ?_
  refine G.aload_n C 0 dL_file_3 rfl rfl ?_
  refine G.iload_n C 1 dL_file_4 rfl rfl ?_
  refine G.iload_n C 2 dL_file_5 rfl rfl ?_
  refine G.iload_n C 3 dL_file_6 rfl rfl ?_
  obtain ⟨v_3, M_2, hv_1, h⟩ := bd2_ex h
  refine G.callV (rest := [.int (0 : Int32), .ref (eA E 120)]) C (s_X9_file_0 (hasC hE)  hv_1) ⟨tg_1073, tg_90, ok_X9_file, Nat.le_of_ble_eq_true rfl, Nat.le_of_ble_eq_true rfl⟩ tg_1070 tg_1071 tg_1072 (sc_0 (hasC hE)) rfl rfl (Nat.le_of_ble_eq_true rfl) dL_file_7 ⟨Nat.le_refl 1, Nat.le_refl 6⟩ ?_
  refine G.i2l (v := v_3.toInt64) C dL_file_10 rfl ?_
  obtain ⟨M_4, eM_4, h⟩ := ltv_ex h
  refine G.sJ (j := 0) C (sa_120 hE) (by decide) (by decide) dL_file_11 eM_4 ?_
  refine G.goto (tgt := 19) C dL_file_12 (by decide) ?_
  refine G.iconst (v := (0 : Int32)) C dL_file_19 (by decide) ?_
  cases h
  exact G.iret C hr dL_file_20
def f_L_file_0_120 (x1 : Int32) (x2 : Int32) (x3 : Int32) (M : Mm) : Option (Int32 × Mm) := bb_L_file_0_120_0 x1 x2 x3 M
theorem s_L_file_0_120 {l : Launch} {E : Ev} {x1 : Int32} {x2 : Int32} {x3 : Int32} {M : Mm} {v : Int32} {M' : Mm} (hE : Has shA (eH E)) (h : f_L_file_0_120 x1 x2 x3 M = some (v, M')) : MetB l yL_file cL_file 6 (some .int) [(0, 12, 15, 13)] 9 E [.ref (eA E 0), .int x1, .int x2, .int x3, .ref (eA E 120)] M (some (.int v)) M' := by
  refine MetB.of (by decide +kernel) (Nat.le_of_ble_eq_true rfl) ?_
  intro p e s m below meth c C hr hT
  exact G.widen (Nat.zero_le 1) (Nat.zero_le 6) (G.sub [0, 1, 2, 3, 4] rfl (gb_L_file_0_120_0 hE C hr h))
set_option maxHeartbeats 4000000 in
set_option maxRecDepth 100000 in
theorem w2_L_file_0_120 {l : Launch} {E : Ev} {x1 : Int32} {x2 : Int32} {x3 : Int32} {M : Mm} (hl : l.stackTraces = false) (hE : Has shA (eH E)) (h : t_X9_file_0 x1 x2 x3 M = some 2) : MetB l yL_file cL_file 6 (some .int) [(0, 12, 15, 13)] 9 E [.ref (eA E 0), .int x1, .int x2, .int x3, .ref (eA E 120)] M (some (.int 1)) M := by
  refine MetB.of (by decide +kernel) (Nat.le_of_ble_eq_true rfl) ?_
  intro p e s m below meth c C hr hT
  refine G.sub [0, 1, 2, 3, 4] (L' := [(0, .ref (eA E 0)), (1, .int x1), (2, .int x2), (3, .int x3), (4, .ref (eA E 120))]) rfl ?_
  refine G.aload C 4 dL_file_0 rfl ?_
  refine G.iconst (v := (0 : Int32)) C dL_file_2 (by decide) ?_
  refine G.aload_n C 0 dL_file_3 rfl rfl ?_
  refine G.iload_n C 1 dL_file_4 rfl rfl ?_
  refine G.iload_n C 2 dL_file_5 rfl rfl ?_
  refine G.iload_n C 3 dL_file_6 rfl rfl ?_
  refine G.callVC (k := 2) (hpc := 15) (rest := [.int (0 : Int32), .ref (eA E 120)]) C hT ⟨[], ⟨0, 12, 15, 13⟩, [], rfl, fun z hz => (List.not_mem_nil hz).elim, rfl, by decide, tg_634, tw_644, rfl⟩ (tt_X9_file_0 hl (hasC hE) h) ⟨tg_1073, tg_90, ok_X9_file, Nat.le_of_ble_eq_true rfl, Nat.le_of_ble_eq_true rfl⟩ tg_1070 tg_1071 tg_1072 (sc_0 (hasC hE)) rfl rfl (Nat.le_of_ble_eq_true rfl) dL_file_7 ⟨Nat.le_refl 1, Nat.le_refl 6⟩ (fun x => ?_)
  refine G.astore (L' := [(5, .ref x), (0, .ref (eA E 0)), (1, .int x1), (2, .int x2), (3, .int x3), (4, .ref (eA E 120))]) C dL_file_15 rfl (by decide) rfl ?_
  refine G.iconst (v := (1 : Int32)) C dL_file_17 (by decide) ?_
  exact G.iret C hr dL_file_18
def bb_L_punch_0_120_0 (x1 : Int32) (M : Mm) : Option (Int32 × Mm) := bd (f_X9_punch_0 x1 M) fun v_2 => ltv (wJ M 120 0 (v_2.toInt64)) fun M_3 => some ((0 : Int32), M_3)
set_option maxHeartbeats 4000000 in
set_option maxRecDepth 100000 in
theorem gb_L_punch_0_120_0  {x1 : Int32} {M : Mm} {v : Int32} {M' : Mm} (hE : Has shA (eH E)) (C : Cx RL cL_punch 4 p (rmX 8) s m args meth c E) (hr : meth.sig.returnType = (some .int)) (h : bb_L_punch_0_120_0 x1 M = some (v, M')) : G p l e (rmX 8) s m args below meth c E 4 1 6 (QR below args s E 1 6 (some (.int v)) M') 0 [(0, .ref (eA E 0)), (1, .int x1), (2, .ref (eA E 120))] [] M := by
  unfold bb_L_punch_0_120_0 at h
  refine G.aload_n C 2 dL_punch_0 rfl rfl ?_
  refine G.iconst (v := (0 : Int32)) C dL_punch_1 (by decide) ?_
  refine G.aload_n C 0 dL_punch_2 rfl rfl ?_
  refine G.iload_n C 1 dL_punch_3 rfl rfl ?_
  obtain ⟨v_2, hv_1, h⟩ := bd_ex h
  refine G.callV (rest := [.int (0 : Int32), .ref (eA E 120)]) C (s_X9_punch_0 (hasC hE)  hv_1) ⟨tg_1087, tg_90, ok_X9_punch, Nat.le_of_ble_eq_true rfl, Nat.le_of_ble_eq_true rfl⟩ tg_1084 tg_1085 tg_1086 (sc_0 (hasC hE)) rfl rfl (Nat.le_of_ble_eq_true rfl) dL_punch_4 ⟨Nat.le_refl 1, Nat.le_refl 6⟩ ?_
  refine G.i2l (v := v_2.toInt64) C dL_punch_7 rfl ?_
  obtain ⟨M_3, eM_3, h⟩ := ltv_ex h
  refine G.sJ (j := 0) C (sa_120 hE) (by decide) (by decide) dL_punch_8 eM_3 ?_
  refine G.goto (tgt := 15) C dL_punch_9 (by decide) ?_
  refine G.iconst (v := (0 : Int32)) C dL_punch_15 (by decide) ?_
  cases h
  exact G.iret C hr dL_punch_16
def f_L_punch_0_120 (x1 : Int32) (M : Mm) : Option (Int32 × Mm) := bb_L_punch_0_120_0 x1 M
theorem s_L_punch_0_120 {l : Launch} {E : Ev} {x1 : Int32} {M : Mm} {v : Int32} {M' : Mm} (hE : Has shA (eH E)) (h : f_L_punch_0_120 x1 M = some (v, M')) : MetB l yL_punch cL_punch 4 (some .int) [(0, 9, 12, 13)] 8 E [.ref (eA E 0), .int x1, .ref (eA E 120)] M (some (.int v)) M' := by
  refine MetB.of (by decide +kernel) (Nat.le_of_ble_eq_true rfl) ?_
  intro p e s m below meth c C hr hT
  exact G.widen (Nat.zero_le 1) (Nat.zero_le 6) (G.sub [0, 1, 2] rfl (gb_L_punch_0_120_0 hE C hr h))
set_option maxHeartbeats 4000000 in
set_option maxRecDepth 100000 in
theorem w2_L_punch_0_120 {l : Launch} {E : Ev} {x1 : Int32} {M : Mm} (hl : l.stackTraces = false) (hE : Has shA (eH E)) (h : t_X9_punch_0 x1 M = some 2) : MetB l yL_punch cL_punch 4 (some .int) [(0, 9, 12, 13)] 8 E [.ref (eA E 0), .int x1, .ref (eA E 120)] M (some (.int 1)) M := by
  refine MetB.of (by decide +kernel) (Nat.le_of_ble_eq_true rfl) ?_
  intro p e s m below meth c C hr hT
  refine G.sub [0, 1, 2] (L' := [(0, .ref (eA E 0)), (1, .int x1), (2, .ref (eA E 120))]) rfl ?_
  refine G.aload_n C 2 dL_punch_0 rfl rfl ?_
  refine G.iconst (v := (0 : Int32)) C dL_punch_1 (by decide) ?_
  refine G.aload_n C 0 dL_punch_2 rfl rfl ?_
  refine G.iload_n C 1 dL_punch_3 rfl rfl ?_
  refine G.callVC (k := 2) (hpc := 12) (rest := [.int (0 : Int32), .ref (eA E 120)]) C hT ⟨[], ⟨0, 9, 12, 13⟩, [], rfl, fun z hz => (List.not_mem_nil hz).elim, rfl, by decide, tg_634, tw_644, rfl⟩ (tt_X9_punch_0 hl (hasC hE) h) ⟨tg_1087, tg_90, ok_X9_punch, Nat.le_of_ble_eq_true rfl, Nat.le_of_ble_eq_true rfl⟩ tg_1084 tg_1085 tg_1086 (sc_0 (hasC hE)) rfl rfl (Nat.le_of_ble_eq_true rfl) dL_punch_4 ⟨Nat.le_refl 1, Nat.le_refl 6⟩ (fun x => ?_)
  refine G.astore_n (L' := [(3, .ref x), (0, .ref (eA E 0)), (1, .int x1), (2, .ref (eA E 120))]) C dL_punch_12 rfl rfl (by decide) rfl ?_
  refine G.iconst (v := (1 : Int32)) C dL_punch_13 (by decide) ?_
  exact G.iret C hr dL_punch_14
def bb_L_addBlow_0_120_0 (x1 : Int32) (M : Mm) : Option (Int32 × Mm) := bd2 (f_X9_addBlow_0 x1 M) fun v_3 M_2 => ltv (wJ M_2 120 0 (v_3.toInt64)) fun M_4 => some ((0 : Int32), M_4)
set_option maxHeartbeats 4000000 in
set_option maxRecDepth 100000 in
theorem gb_L_addBlow_0_120_0  {x1 : Int32} {M : Mm} {v : Int32} {M' : Mm} (hE : Has shA (eH E)) (C : Cx RL cL_addBlow 4 p (rmX 8) s m args meth c E) (hr : meth.sig.returnType = (some .int)) (h : bb_L_addBlow_0_120_0 x1 M = some (v, M')) : G p l e (rmX 8) s m args below meth c E 4 1 6 (QR below args s E 1 6 (some (.int v)) M') 0 [(0, .ref (eA E 0)), (1, .int x1), (2, .ref (eA E 120))] [] M := by
  unfold bb_L_addBlow_0_120_0 at h
  refine G.aload_n C 2 dL_addBlow_0 rfl rfl ?_
  refine G.iconst (v := (0 : Int32)) C dL_addBlow_1 (by decide) ?_
  refine G.aload_n C 0 dL_addBlow_2 rfl rfl ?_
  refine G.iload_n C 1 dL_addBlow_3 rfl rfl ?_
  obtain ⟨v_3, M_2, hv_1, h⟩ := bd2_ex h
  refine G.callV (rest := [.int (0 : Int32), .ref (eA E 120)]) C (s_X9_addBlow_0 (hasC hE)  hv_1) ⟨tg_1097, tg_90, ok_X9_addBlow, Nat.le_of_ble_eq_true rfl, Nat.le_of_ble_eq_true rfl⟩ tg_1094 tg_1095 tg_1096 (sc_0 (hasC hE)) rfl rfl (Nat.le_of_ble_eq_true rfl) dL_addBlow_4 ⟨Nat.le_refl 1, Nat.le_refl 6⟩ ?_
  refine G.i2l (v := v_3.toInt64) C dL_addBlow_7 rfl ?_
  obtain ⟨M_4, eM_4, h⟩ := ltv_ex h
  refine G.sJ (j := 0) C (sa_120 hE) (by decide) (by decide) dL_addBlow_8 eM_4 ?_
  refine G.goto (tgt := 15) C dL_addBlow_9 (by decide) ?_
  refine G.iconst (v := (0 : Int32)) C dL_addBlow_15 (by decide) ?_
  cases h
  exact G.iret C hr dL_addBlow_16
def f_L_addBlow_0_120 (x1 : Int32) (M : Mm) : Option (Int32 × Mm) := bb_L_addBlow_0_120_0 x1 M
theorem s_L_addBlow_0_120 {l : Launch} {E : Ev} {x1 : Int32} {M : Mm} {v : Int32} {M' : Mm} (hE : Has shA (eH E)) (h : f_L_addBlow_0_120 x1 M = some (v, M')) : MetB l yL_addBlow cL_addBlow 4 (some .int) [(0, 9, 12, 32)] 8 E [.ref (eA E 0), .int x1, .ref (eA E 120)] M (some (.int v)) M' := by
  refine MetB.of (by decide +kernel) (Nat.le_of_ble_eq_true rfl) ?_
  intro p e s m below meth c C hr hT
  exact G.widen (Nat.zero_le 1) (Nat.zero_le 6) (G.sub [0, 1, 2] rfl (gb_L_addBlow_0_120_0 hE C hr h))
set_option maxHeartbeats 4000000 in
set_option maxRecDepth 100000 in
theorem w3_L_addBlow_0_120 {l : Launch} {E : Ev} {x1 : Int32} {M : Mm} (hl : l.stackTraces = false) (hE : Has shA (eH E)) (h : t_X9_addBlow_0 x1 M = some 3) : MetB l yL_addBlow cL_addBlow 4 (some .int) [(0, 9, 12, 32)] 8 E [.ref (eA E 0), .int x1, .ref (eA E 120)] M (some (.int 1)) M := by
  refine MetB.of (by decide +kernel) (Nat.le_of_ble_eq_true rfl) ?_
  intro p e s m below meth c C hr hT
  refine G.sub [0, 1, 2] (L' := [(0, .ref (eA E 0)), (1, .int x1), (2, .ref (eA E 120))]) rfl ?_
  refine G.aload_n C 2 dL_addBlow_0 rfl rfl ?_
  refine G.iconst (v := (0 : Int32)) C dL_addBlow_1 (by decide) ?_
  refine G.aload_n C 0 dL_addBlow_2 rfl rfl ?_
  refine G.iload_n C 1 dL_addBlow_3 rfl rfl ?_
  refine G.callVC (k := 3) (hpc := 12) (rest := [.int (0 : Int32), .ref (eA E 120)]) C hT ⟨[], ⟨0, 9, 12, 32⟩, [], rfl, fun z hz => (List.not_mem_nil hz).elim, rfl, by decide, tg_933, tw_944, rfl⟩ (tt_X9_addBlow_0 hl (hasC hE) h) ⟨tg_1097, tg_90, ok_X9_addBlow, Nat.le_of_ble_eq_true rfl, Nat.le_of_ble_eq_true rfl⟩ tg_1094 tg_1095 tg_1096 (sc_0 (hasC hE)) rfl rfl (Nat.le_of_ble_eq_true rfl) dL_addBlow_4 ⟨Nat.le_refl 1, Nat.le_refl 6⟩ (fun x => ?_)
  refine G.astore_n (L' := [(3, .ref x), (0, .ref (eA E 0)), (1, .int x1), (2, .ref (eA E 120))]) C dL_addBlow_12 rfl rfl (by decide) rfl ?_
  refine G.iconst (v := (1 : Int32)) C dL_addBlow_13 (by decide) ?_
  exact G.iret C hr dL_addBlow_14
def bb_L_addFile_0_120_0 (x1 : Int32) (x2 : Int32) (x3 : Int32) (M : Mm) : Option (Int32 × Mm) := bd2 (f_X9_addFile_0 x1 x2 x3 M) fun v_3 M_2 => ltv (wJ M_2 120 0 (v_3.toInt64)) fun M_4 => some ((0 : Int32), M_4)
set_option maxHeartbeats 4000000 in
set_option maxRecDepth 100000 in
theorem gb_L_addFile_0_120_0  {x1 : Int32} {x2 : Int32} {x3 : Int32} {M : Mm} {v : Int32} {M' : Mm} (hE : Has shA (eH E)) (C : Cx RL cL_addFile 6 p (rmX 9) s m args meth c E) (hr : meth.sig.returnType = (some .int)) (h : bb_L_addFile_0_120_0 x1 x2 x3 M = some (v, M')) : G p l e (rmX 9) s m args below meth c E 6 1 6 (QR below args s E 1 6 (some (.int v)) M') 0 [(0, .ref (eA E 0)), (1, .int x1), (2, .int x2), (3, .int x3), (4, .ref (eA E 120))] [] M := by
  unfold bb_L_addFile_0_120_0 at h
  refine G.aload C 4 dL_addFile_0 rfl ?_
  refine G.iconst (v := (0 : Int32)) C dL_addFile_2 (by decide) ?_
  refine G.aload_n C 0 dL_addFile_3 rfl rfl ?_
  refine G.iload_n C 1 dL_addFile_4 rfl rfl ?_
  refine G.iload_n C 2 dL_addFile_5 rfl rfl ?_
  refine G.iload_n C 3 dL_addFile_6 rfl rfl ?_
  obtain ⟨v_3, M_2, hv_1, h⟩ := bd2_ex h
  refine G.callV (rest := [.int (0 : Int32), .ref (eA E 120)]) C (s_X9_addFile_0 (hasC hE)  hv_1) ⟨tg_1108, tg_90, ok_X9_addFile, Nat.le_of_ble_eq_true rfl, Nat.le_of_ble_eq_true rfl⟩ tg_1105 tg_1106 tg_1107 (sc_0 (hasC hE)) rfl rfl (Nat.le_of_ble_eq_true rfl) dL_addFile_7 ⟨Nat.le_refl 1, Nat.le_refl 6⟩ ?_
  refine G.i2l (v := v_3.toInt64) C dL_addFile_10 rfl ?_
  obtain ⟨M_4, eM_4, h⟩ := ltv_ex h
  refine G.sJ (j := 0) C (sa_120 hE) (by decide) (by decide) dL_addFile_11 eM_4 ?_
  refine G.goto (tgt := 19) C dL_addFile_12 (by decide) ?_
  refine G.iconst (v := (0 : Int32)) C dL_addFile_19 (by decide) ?_
  cases h
  exact G.iret C hr dL_addFile_20
def f_L_addFile_0_120 (x1 : Int32) (x2 : Int32) (x3 : Int32) (M : Mm) : Option (Int32 × Mm) := bb_L_addFile_0_120_0 x1 x2 x3 M
theorem s_L_addFile_0_120 {l : Launch} {E : Ev} {x1 : Int32} {x2 : Int32} {x3 : Int32} {M : Mm} {v : Int32} {M' : Mm} (hE : Has shA (eH E)) (h : f_L_addFile_0_120 x1 x2 x3 M = some (v, M')) : MetB l yL_addFile cL_addFile 6 (some .int) [(0, 12, 15, 13)] 9 E [.ref (eA E 0), .int x1, .int x2, .int x3, .ref (eA E 120)] M (some (.int v)) M' := by
  refine MetB.of (by decide +kernel) (Nat.le_of_ble_eq_true rfl) ?_
  intro p e s m below meth c C hr hT
  exact G.widen (Nat.zero_le 1) (Nat.zero_le 6) (G.sub [0, 1, 2, 3, 4] rfl (gb_L_addFile_0_120_0 hE C hr h))
set_option maxHeartbeats 4000000 in
set_option maxRecDepth 100000 in
theorem w2_L_addFile_0_120 {l : Launch} {E : Ev} {x1 : Int32} {x2 : Int32} {x3 : Int32} {M : Mm} (hl : l.stackTraces = false) (hE : Has shA (eH E)) (h : t_X9_addFile_0 x1 x2 x3 M = some 2) : MetB l yL_addFile cL_addFile 6 (some .int) [(0, 12, 15, 13)] 9 E [.ref (eA E 0), .int x1, .int x2, .int x3, .ref (eA E 120)] M (some (.int 1)) M := by
  refine MetB.of (by decide +kernel) (Nat.le_of_ble_eq_true rfl) ?_
  intro p e s m below meth c C hr hT
  refine G.sub [0, 1, 2, 3, 4] (L' := [(0, .ref (eA E 0)), (1, .int x1), (2, .int x2), (3, .int x3), (4, .ref (eA E 120))]) rfl ?_
  refine G.aload C 4 dL_addFile_0 rfl ?_
  refine G.iconst (v := (0 : Int32)) C dL_addFile_2 (by decide) ?_
  refine G.aload_n C 0 dL_addFile_3 rfl rfl ?_
  refine G.iload_n C 1 dL_addFile_4 rfl rfl ?_
  refine G.iload_n C 2 dL_addFile_5 rfl rfl ?_
  refine G.iload_n C 3 dL_addFile_6 rfl rfl ?_
  refine G.callVC (k := 2) (hpc := 15) (rest := [.int (0 : Int32), .ref (eA E 120)]) C hT ⟨[], ⟨0, 12, 15, 13⟩, [], rfl, fun z hz => (List.not_mem_nil hz).elim, rfl, by decide, tg_634, tw_644, rfl⟩ (tt_X9_addFile_0 hl (hasC hE) h) ⟨tg_1108, tg_90, ok_X9_addFile, Nat.le_of_ble_eq_true rfl, Nat.le_of_ble_eq_true rfl⟩ tg_1105 tg_1106 tg_1107 (sc_0 (hasC hE)) rfl rfl (Nat.le_of_ble_eq_true rfl) dL_addFile_7 ⟨Nat.le_refl 1, Nat.le_refl 6⟩ (fun x => ?_)
  refine G.astore (L' := [(5, .ref x), (0, .ref (eA E 0)), (1, .int x1), (2, .int x2), (3, .int x3), (4, .ref (eA E 120))]) C dL_addFile_15 rfl (by decide) rfl ?_
  refine G.iconst (v := (1 : Int32)) C dL_addFile_17 (by decide) ?_
  exact G.iret C hr dL_addFile_18
def bb_L_judge_0_120_0 (x1 : Int32) (x2 : Int32) (M : Mm) : Option (Int32 × Mm) := bd (f_X9_judge_0 x1 x2 M) fun v_2 => ltv (wJ M 120 0 (v_2.toInt64)) fun M_3 => some ((0 : Int32), M_3)
set_option maxHeartbeats 4000000 in
set_option maxRecDepth 100000 in
theorem gb_L_judge_0_120_0  {x1 : Int32} {x2 : Int32} {M : Mm} {v : Int32} {M' : Mm} (hE : Has shA (eH E)) (C : Cx RL cL_judge 5 p (rmX 8) s m args meth c E) (hr : meth.sig.returnType = (some .int)) (h : bb_L_judge_0_120_0 x1 x2 M = some (v, M')) : G p l e (rmX 8) s m args below meth c E 5 1 6 (QR below args s E 1 6 (some (.int v)) M') 0 [(0, .ref (eA E 0)), (1, .int x1), (2, .int x2), (3, .ref (eA E 120))] [] M := by
  unfold bb_L_judge_0_120_0 at h
  refine G.aload_n C 3 dL_judge_0 rfl rfl ?_
  refine G.iconst (v := (0 : Int32)) C dL_judge_1 (by decide) ?_
  refine G.aload_n C 0 dL_judge_2 rfl rfl ?_
  refine G.iload_n C 1 dL_judge_3 rfl rfl ?_
  refine G.iload_n C 2 dL_judge_4 rfl rfl ?_
  obtain ⟨v_2, hv_1, h⟩ := bd_ex h
  refine G.callV (rest := [.int (0 : Int32), .ref (eA E 120)]) C (s_X9_judge_0 (hasC hE)  hv_1) ⟨tg_1115, tg_90, ok_X9_judge, Nat.le_of_ble_eq_true rfl, Nat.le_of_ble_eq_true rfl⟩ tg_1112 tg_1113 tg_1114 (sc_0 (hasC hE)) rfl rfl (Nat.le_of_ble_eq_true rfl) dL_judge_5 ⟨Nat.le_refl 1, Nat.le_refl 6⟩ ?_
  refine G.i2l (v := v_2.toInt64) C dL_judge_8 rfl ?_
  obtain ⟨M_3, eM_3, h⟩ := ltv_ex h
  refine G.sJ (j := 0) C (sa_120 hE) (by decide) (by decide) dL_judge_9 eM_3 ?_
  refine G.goto (tgt := 21) C dL_judge_10 (by decide) ?_
  refine G.iconst (v := (0 : Int32)) C dL_judge_21 (by decide) ?_
  cases h
  exact G.iret C hr dL_judge_22
def f_L_judge_0_120 (x1 : Int32) (x2 : Int32) (M : Mm) : Option (Int32 × Mm) := bb_L_judge_0_120_0 x1 x2 M
theorem s_L_judge_0_120 {l : Launch} {E : Ev} {x1 : Int32} {x2 : Int32} {M : Mm} {v : Int32} {M' : Mm} (hE : Has shA (eH E)) (h : f_L_judge_0_120 x1 x2 M = some (v, M')) : MetB l yL_judge cL_judge 5 (some .int) [(0, 10, 13, 22), (0, 10, 17, 13)] 8 E [.ref (eA E 0), .int x1, .int x2, .ref (eA E 120)] M (some (.int v)) M' := by
  refine MetB.of (by decide +kernel) (Nat.le_of_ble_eq_true rfl) ?_
  intro p e s m below meth c C hr hT
  exact G.widen (Nat.zero_le 1) (Nat.zero_le 6) (G.sub [0, 1, 2, 3] rfl (gb_L_judge_0_120_0 hE C hr h))
set_option maxHeartbeats 4000000 in
set_option maxRecDepth 100000 in
theorem w1_L_judge_0_120 {l : Launch} {E : Ev} {x1 : Int32} {x2 : Int32} {M : Mm} (hl : l.stackTraces = false) (hE : Has shA (eH E)) (h : t_X9_judge_0 x1 x2 M = some 1) : MetB l yL_judge cL_judge 5 (some .int) [(0, 10, 13, 22), (0, 10, 17, 13)] 8 E [.ref (eA E 0), .int x1, .int x2, .ref (eA E 120)] M (some (.int 1)) M := by
  refine MetB.of (by decide +kernel) (Nat.le_of_ble_eq_true rfl) ?_
  intro p e s m below meth c C hr hT
  refine G.sub [0, 1, 2, 3] (L' := [(0, .ref (eA E 0)), (1, .int x1), (2, .int x2), (3, .ref (eA E 120))]) rfl ?_
  refine G.aload_n C 3 dL_judge_0 rfl rfl ?_
  refine G.iconst (v := (0 : Int32)) C dL_judge_1 (by decide) ?_
  refine G.aload_n C 0 dL_judge_2 rfl rfl ?_
  refine G.iload_n C 1 dL_judge_3 rfl rfl ?_
  refine G.iload_n C 2 dL_judge_4 rfl rfl ?_
  refine G.callVC (k := 1) (hpc := 13) (rest := [.int (0 : Int32), .ref (eA E 120)]) C hT ⟨[], ⟨0, 10, 13, 22⟩, [⟨0, 10, 17, 13⟩], rfl, fun z hz => (List.not_mem_nil hz).elim, rfl, by decide, tg_886, tw_897, rfl⟩ (tt_X9_judge_0 hl (hasC hE) h) ⟨tg_1115, tg_90, ok_X9_judge, Nat.le_of_ble_eq_true rfl, Nat.le_of_ble_eq_true rfl⟩ tg_1112 tg_1113 tg_1114 (sc_0 (hasC hE)) rfl rfl (Nat.le_of_ble_eq_true rfl) dL_judge_5 ⟨Nat.le_refl 1, Nat.le_refl 6⟩ (fun x => ?_)
  refine G.astore (L' := [(4, .ref x), (0, .ref (eA E 0)), (1, .int x1), (2, .int x2), (3, .ref (eA E 120))]) C dL_judge_13 rfl (by decide) rfl ?_
  refine G.iconst (v := (1 : Int32)) C dL_judge_15 (by decide) ?_
  exact G.iret C hr dL_judge_16
set_option maxHeartbeats 4000000 in
set_option maxRecDepth 100000 in
theorem w2_L_judge_0_120 {l : Launch} {E : Ev} {x1 : Int32} {x2 : Int32} {M : Mm} (hl : l.stackTraces = false) (hE : Has shA (eH E)) (h : t_X9_judge_0 x1 x2 M = some 2) : MetB l yL_judge cL_judge 5 (some .int) [(0, 10, 13, 22), (0, 10, 17, 13)] 8 E [.ref (eA E 0), .int x1, .int x2, .ref (eA E 120)] M (some (.int 2)) M := by
  refine MetB.of (by decide +kernel) (Nat.le_of_ble_eq_true rfl) ?_
  intro p e s m below meth c C hr hT
  refine G.sub [0, 1, 2, 3] (L' := [(0, .ref (eA E 0)), (1, .int x1), (2, .int x2), (3, .ref (eA E 120))]) rfl ?_
  refine G.aload_n C 3 dL_judge_0 rfl rfl ?_
  refine G.iconst (v := (0 : Int32)) C dL_judge_1 (by decide) ?_
  refine G.aload_n C 0 dL_judge_2 rfl rfl ?_
  refine G.iload_n C 1 dL_judge_3 rfl rfl ?_
  refine G.iload_n C 2 dL_judge_4 rfl rfl ?_
  refine G.callVC (k := 2) (hpc := 17) (rest := [.int (0 : Int32), .ref (eA E 120)]) C hT ⟨[⟨0, 10, 13, 22⟩], ⟨0, 10, 17, 13⟩, [], rfl, fun z hz => by rw [List.mem_singleton.mp hz]; exact ⟨by decide, rfl, Or.inl tg_886⟩, rfl, by decide, tg_634, tw_644, rfl⟩ (tt_X9_judge_0 hl (hasC hE) h) ⟨tg_1115, tg_90, ok_X9_judge, Nat.le_of_ble_eq_true rfl, Nat.le_of_ble_eq_true rfl⟩ tg_1112 tg_1113 tg_1114 (sc_0 (hasC hE)) rfl rfl (Nat.le_of_ble_eq_true rfl) dL_judge_5 ⟨Nat.le_refl 1, Nat.le_refl 6⟩ (fun x => ?_)
  refine G.astore (L' := [(4, .ref x), (0, .ref (eA E 0)), (1, .int x1), (2, .int x2), (3, .ref (eA E 120))]) C dL_judge_17 rfl (by decide) rfl ?_
  refine G.iconst (v := (2 : Int32)) C dL_judge_19 (by decide) ?_
  exact G.iret C hr dL_judge_20
def bb_L_hours_0_120_0 (x1 : Int32) (x2 : Int32) (x3 : Int32) (M : Mm) : Option (Int32 × Mm) := bd2 (f_X9_hours_0 x1 x2 x3 M) fun v_3 M_2 => ltv (wJ M_2 120 0 v_3) fun M_4 => some ((0 : Int32), M_4)
set_option maxHeartbeats 4000000 in
set_option maxRecDepth 100000 in
theorem gb_L_hours_0_120_0  {x1 : Int32} {x2 : Int32} {x3 : Int32} {M : Mm} {v : Int32} {M' : Mm} (hE : Has shA (eH E)) (C : Cx RL cL_hours 6 p (rmX 28) s m args meth c E) (hr : meth.sig.returnType = (some .int)) (h : bb_L_hours_0_120_0 x1 x2 x3 M = some (v, M')) : G p l e (rmX 28) s m args below meth c E 6 1 6 (QR below args s E 1 6 (some (.int v)) M') 0 [(0, .ref (eA E 0)), (1, .int x1), (2, .int x2), (3, .int x3), (4, .ref (eA E 120))] [] M := by
  unfold bb_L_hours_0_120_0 at h
  refine G.aload C 4 dL_hours_0 rfl ?_
  refine G.iconst (v := (0 : Int32)) C dL_hours_2 (by decide) ?_
  refine G.aload_n C 0 dL_hours_3 rfl rfl ?_
  refine G.iload_n C 1 dL_hours_4 rfl rfl ?_
  refine G.iload_n C 2 dL_hours_5 rfl rfl ?_
  refine G.iload_n C 3 dL_hours_6 rfl rfl ?_
  obtain ⟨v_3, M_2, hv_1, h⟩ := bd2_ex h
  refine G.callV (rest := [.int (0 : Int32), .ref (eA E 120)]) C (s_X9_hours_0 (hasC hE)  hv_1) ⟨tg_1134, tg_90, ok_X9_hours, Nat.le_of_ble_eq_true rfl, Nat.le_of_ble_eq_true rfl⟩ tg_1131 tg_1132 tg_1133 (sc_0 (hasC hE)) rfl rfl (Nat.le_of_ble_eq_true rfl) dL_hours_7 ⟨Nat.le_refl 1, Nat.le_refl 6⟩ ?_
  obtain ⟨M_4, eM_4, h⟩ := ltv_ex h
  refine G.sJ (j := 0) C (sa_120 hE) (by decide) (by decide) dL_hours_10 eM_4 ?_
  refine G.goto (tgt := 22) C dL_hours_11 (by decide) ?_
  refine G.iconst (v := (0 : Int32)) C dL_hours_22 (by decide) ?_
  cases h
  exact G.iret C hr dL_hours_23
def f_L_hours_0_120 (x1 : Int32) (x2 : Int32) (x3 : Int32) (M : Mm) : Option (Int32 × Mm) := bb_L_hours_0_120_0 x1 x2 x3 M
theorem s_L_hours_0_120 {l : Launch} {E : Ev} {x1 : Int32} {x2 : Int32} {x3 : Int32} {M : Mm} {v : Int32} {M' : Mm} (hE : Has shA (eH E)) (h : f_L_hours_0_120 x1 x2 x3 M = some (v, M')) : MetB l yL_hours cL_hours 6 (some .int) [(0, 11, 14, 22), (0, 11, 18, 13)] 28 E [.ref (eA E 0), .int x1, .int x2, .int x3, .ref (eA E 120)] M (some (.int v)) M' := by
  refine MetB.of (by decide +kernel) (Nat.le_of_ble_eq_true rfl) ?_
  intro p e s m below meth c C hr hT
  exact G.widen (Nat.zero_le 1) (Nat.zero_le 6) (G.sub [0, 1, 2, 3, 4] rfl (gb_L_hours_0_120_0 hE C hr h))
set_option maxHeartbeats 4000000 in
set_option maxRecDepth 100000 in
theorem w1_L_hours_0_120 {l : Launch} {E : Ev} {x1 : Int32} {x2 : Int32} {x3 : Int32} {M : Mm} (hl : l.stackTraces = false) (hE : Has shA (eH E)) (h : t_X9_hours_0 x1 x2 x3 M = some 1) : MetB l yL_hours cL_hours 6 (some .int) [(0, 11, 14, 22), (0, 11, 18, 13)] 28 E [.ref (eA E 0), .int x1, .int x2, .int x3, .ref (eA E 120)] M (some (.int 1)) M := by
  refine MetB.of (by decide +kernel) (Nat.le_of_ble_eq_true rfl) ?_
  intro p e s m below meth c C hr hT
  refine G.sub [0, 1, 2, 3, 4] (L' := [(0, .ref (eA E 0)), (1, .int x1), (2, .int x2), (3, .int x3), (4, .ref (eA E 120))]) rfl ?_
  refine G.aload C 4 dL_hours_0 rfl ?_
  refine G.iconst (v := (0 : Int32)) C dL_hours_2 (by decide) ?_
  refine G.aload_n C 0 dL_hours_3 rfl rfl ?_
  refine G.iload_n C 1 dL_hours_4 rfl rfl ?_
  refine G.iload_n C 2 dL_hours_5 rfl rfl ?_
  refine G.iload_n C 3 dL_hours_6 rfl rfl ?_
  refine G.callVC (k := 1) (hpc := 14) (rest := [.int (0 : Int32), .ref (eA E 120)]) C hT ⟨[], ⟨0, 11, 14, 22⟩, [⟨0, 11, 18, 13⟩], rfl, fun z hz => (List.not_mem_nil hz).elim, rfl, by decide, tg_886, tw_897, rfl⟩ (tt_X9_hours_0 hl (hasC hE) h) ⟨tg_1134, tg_90, ok_X9_hours, Nat.le_of_ble_eq_true rfl, Nat.le_of_ble_eq_true rfl⟩ tg_1131 tg_1132 tg_1133 (sc_0 (hasC hE)) rfl rfl (Nat.le_of_ble_eq_true rfl) dL_hours_7 ⟨Nat.le_refl 1, Nat.le_refl 6⟩ (fun x => ?_)
  refine G.astore (L' := [(5, .ref x), (0, .ref (eA E 0)), (1, .int x1), (2, .int x2), (3, .int x3), (4, .ref (eA E 120))]) C dL_hours_14 rfl (by decide) rfl ?_
  refine G.iconst (v := (1 : Int32)) C dL_hours_16 (by decide) ?_
  exact G.iret C hr dL_hours_17
set_option maxHeartbeats 4000000 in
set_option maxRecDepth 100000 in
theorem w2_L_hours_0_120 {l : Launch} {E : Ev} {x1 : Int32} {x2 : Int32} {x3 : Int32} {M : Mm} (hl : l.stackTraces = false) (hE : Has shA (eH E)) (h : t_X9_hours_0 x1 x2 x3 M = some 2) : MetB l yL_hours cL_hours 6 (some .int) [(0, 11, 14, 22), (0, 11, 18, 13)] 28 E [.ref (eA E 0), .int x1, .int x2, .int x3, .ref (eA E 120)] M (some (.int 2)) M := by
  refine MetB.of (by decide +kernel) (Nat.le_of_ble_eq_true rfl) ?_
  intro p e s m below meth c C hr hT
  refine G.sub [0, 1, 2, 3, 4] (L' := [(0, .ref (eA E 0)), (1, .int x1), (2, .int x2), (3, .int x3), (4, .ref (eA E 120))]) rfl ?_
  refine G.aload C 4 dL_hours_0 rfl ?_
  refine G.iconst (v := (0 : Int32)) C dL_hours_2 (by decide) ?_
  refine G.aload_n C 0 dL_hours_3 rfl rfl ?_
  refine G.iload_n C 1 dL_hours_4 rfl rfl ?_
  refine G.iload_n C 2 dL_hours_5 rfl rfl ?_
  refine G.iload_n C 3 dL_hours_6 rfl rfl ?_
  refine G.callVC (k := 2) (hpc := 18) (rest := [.int (0 : Int32), .ref (eA E 120)]) C hT ⟨[⟨0, 11, 14, 22⟩], ⟨0, 11, 18, 13⟩, [], rfl, fun z hz => by rw [List.mem_singleton.mp hz]; exact ⟨by decide, rfl, Or.inl tg_886⟩, rfl, by decide, tg_634, tw_644, rfl⟩ (tt_X9_hours_0 hl (hasC hE) h) ⟨tg_1134, tg_90, ok_X9_hours, Nat.le_of_ble_eq_true rfl, Nat.le_of_ble_eq_true rfl⟩ tg_1131 tg_1132 tg_1133 (sc_0 (hasC hE)) rfl rfl (Nat.le_of_ble_eq_true rfl) dL_hours_7 ⟨Nat.le_refl 1, Nat.le_refl 6⟩ (fun x => ?_)
  refine G.astore (L' := [(5, .ref x), (0, .ref (eA E 0)), (1, .int x1), (2, .int x2), (3, .int x3), (4, .ref (eA E 120))]) C dL_hours_18 rfl (by decide) rfl ?_
  refine G.iconst (v := (2 : Int32)) C dL_hours_20 (by decide) ?_
  exact G.iret C hr dL_hours_21
def bb_L_order_0_120_0 (x1 : Int32) (x2 : Int32) (x3 : Int32) (x4 : Int32) (M : Mm) : Option (Int32 × Mm) := bd2 (f_X9_order_0 x1 x2 x3 x4 M) fun v_3 M_2 => ltv (wJ M_2 120 0 (v_3.toInt64)) fun M_4 => some ((0 : Int32), M_4)
set_option maxHeartbeats 4000000 in
set_option maxRecDepth 100000 in
theorem gb_L_order_0_120_0  {x1 : Int32} {x2 : Int32} {x3 : Int32} {x4 : Int32} {M : Mm} {v : Int32} {M' : Mm} (hE : Has shA (eH E)) (C : Cx RL cL_order 7 p (rmX 28) s m args meth c E) (hr : meth.sig.returnType = (some .int)) (h : bb_L_order_0_120_0 x1 x2 x3 x4 M = some (v, M')) : G p l e (rmX 28) s m args below meth c E 7 1 6 (QR below args s E 1 6 (some (.int v)) M') 0 [(0, .ref (eA E 0)), (1, .int x1), (2, .int x2), (3, .int x3), (4, .int x4), (5, .ref (eA E 120))] [] M := by
  unfold bb_L_order_0_120_0 at h
  refine G.aload C 5 dL_order_0 rfl ?_
  refine G.iconst (v := (0 : Int32)) C dL_order_2 (by decide) ?_
  refine G.aload_n C 0 dL_order_3 rfl rfl ?_
  refine G.iload_n C 1 dL_order_4 rfl rfl ?_
  refine G.iload_n C 2 dL_order_5 rfl rfl ?_
  refine G.iload_n C 3 dL_order_6 rfl rfl ?_
  refine G.iload C 4 dL_order_7 rfl ?_
  obtain ⟨v_3, M_2, hv_1, h⟩ := bd2_ex h
  refine G.callV (rest := [.int (0 : Int32), .ref (eA E 120)]) C (s_X9_order_0 (hasC hE)  hv_1) ⟨tg_1181, tg_90, ok_X9_order, Nat.le_of_ble_eq_true rfl, Nat.le_of_ble_eq_true rfl⟩ tg_1178 tg_1179 tg_1180 (sc_0 (hasC hE)) rfl rfl (Nat.le_of_ble_eq_true rfl) dL_order_9 ⟨Nat.le_refl 1, Nat.le_refl 6⟩ ?_
  refine G.i2l (v := v_3.toInt64) C dL_order_12 rfl ?_
  obtain ⟨M_4, eM_4, h⟩ := ltv_ex h
  refine G.sJ (j := 0) C (sa_120 hE) (by decide) (by decide) dL_order_13 eM_4 ?_
  refine G.goto (tgt := 25) C dL_order_14 (by decide) ?_
  refine G.iconst (v := (0 : Int32)) C dL_order_25 (by decide) ?_
  cases h
  exact G.iret C hr dL_order_26
def f_L_order_0_120 (x1 : Int32) (x2 : Int32) (x3 : Int32) (x4 : Int32) (M : Mm) : Option (Int32 × Mm) := bb_L_order_0_120_0 x1 x2 x3 x4 M
theorem s_L_order_0_120 {l : Launch} {E : Ev} {x1 : Int32} {x2 : Int32} {x3 : Int32} {x4 : Int32} {M : Mm} {v : Int32} {M' : Mm} (hE : Has shA (eH E)) (h : f_L_order_0_120 x1 x2 x3 x4 M = some (v, M')) : MetB l yL_order cL_order 7 (some .int) [(0, 14, 17, 22), (0, 14, 21, 13)] 28 E [.ref (eA E 0), .int x1, .int x2, .int x3, .int x4, .ref (eA E 120)] M (some (.int v)) M' := by
  refine MetB.of (by decide +kernel) (Nat.le_of_ble_eq_true rfl) ?_
  intro p e s m below meth c C hr hT
  exact G.widen (Nat.zero_le 1) (Nat.zero_le 6) (G.sub [0, 1, 2, 3, 4, 5] rfl (gb_L_order_0_120_0 hE C hr h))
set_option maxHeartbeats 4000000 in
set_option maxRecDepth 100000 in
theorem w1_L_order_0_120 {l : Launch} {E : Ev} {x1 : Int32} {x2 : Int32} {x3 : Int32} {x4 : Int32} {M : Mm} (hl : l.stackTraces = false) (hE : Has shA (eH E)) (h : t_X9_order_0 x1 x2 x3 x4 M = some 1) : MetB l yL_order cL_order 7 (some .int) [(0, 14, 17, 22), (0, 14, 21, 13)] 28 E [.ref (eA E 0), .int x1, .int x2, .int x3, .int x4, .ref (eA E 120)] M (some (.int 1)) M := by
  refine MetB.of (by decide +kernel) (Nat.le_of_ble_eq_true rfl) ?_
  intro p e s m below meth c C hr hT
  refine G.sub [0, 1, 2, 3, 4, 5] (L' := [(0, .ref (eA E 0)), (1, .int x1), (2, .int x2), (3, .int x3), (4, .int x4), (5, .ref (eA E 120))]) rfl ?_
  refine G.aload C 5 dL_order_0 rfl ?_
  refine G.iconst (v := (0 : Int32)) C dL_order_2 (by decide) ?_
  refine G.aload_n C 0 dL_order_3 rfl rfl ?_
  refine G.iload_n C 1 dL_order_4 rfl rfl ?_
  refine G.iload_n C 2 dL_order_5 rfl rfl ?_
  refine G.iload_n C 3 dL_order_6 rfl rfl ?_
  refine G.iload C 4 dL_order_7 rfl ?_
  refine G.callVC (k := 1) (hpc := 17) (rest := [.int (0 : Int32), .ref (eA E 120)]) C hT ⟨[], ⟨0, 14, 17, 22⟩, [⟨0, 14, 21, 13⟩], rfl, fun z hz => (List.not_mem_nil hz).elim, rfl, by decide, tg_886, tw_897, rfl⟩ (tt_X9_order_0 hl (hasC hE) h) ⟨tg_1181, tg_90, ok_X9_order, Nat.le_of_ble_eq_true rfl, Nat.le_of_ble_eq_true rfl⟩ tg_1178 tg_1179 tg_1180 (sc_0 (hasC hE)) rfl rfl (Nat.le_of_ble_eq_true rfl) dL_order_9 ⟨Nat.le_refl 1, Nat.le_refl 6⟩ (fun x => ?_)
  refine G.astore (L' := [(6, .ref x), (0, .ref (eA E 0)), (1, .int x1), (2, .int x2), (3, .int x3), (4, .int x4), (5, .ref (eA E 120))]) C dL_order_17 rfl (by decide) rfl ?_
  refine G.iconst (v := (1 : Int32)) C dL_order_19 (by decide) ?_
  exact G.iret C hr dL_order_20
set_option maxHeartbeats 4000000 in
set_option maxRecDepth 100000 in
theorem w2_L_order_0_120 {l : Launch} {E : Ev} {x1 : Int32} {x2 : Int32} {x3 : Int32} {x4 : Int32} {M : Mm} (hl : l.stackTraces = false) (hE : Has shA (eH E)) (h : t_X9_order_0 x1 x2 x3 x4 M = some 2) : MetB l yL_order cL_order 7 (some .int) [(0, 14, 17, 22), (0, 14, 21, 13)] 28 E [.ref (eA E 0), .int x1, .int x2, .int x3, .int x4, .ref (eA E 120)] M (some (.int 2)) M := by
  refine MetB.of (by decide +kernel) (Nat.le_of_ble_eq_true rfl) ?_
  intro p e s m below meth c C hr hT
  refine G.sub [0, 1, 2, 3, 4, 5] (L' := [(0, .ref (eA E 0)), (1, .int x1), (2, .int x2), (3, .int x3), (4, .int x4), (5, .ref (eA E 120))]) rfl ?_
  refine G.aload C 5 dL_order_0 rfl ?_
  refine G.iconst (v := (0 : Int32)) C dL_order_2 (by decide) ?_
  refine G.aload_n C 0 dL_order_3 rfl rfl ?_
  refine G.iload_n C 1 dL_order_4 rfl rfl ?_
  refine G.iload_n C 2 dL_order_5 rfl rfl ?_
  refine G.iload_n C 3 dL_order_6 rfl rfl ?_
  refine G.iload C 4 dL_order_7 rfl ?_
  refine G.callVC (k := 2) (hpc := 21) (rest := [.int (0 : Int32), .ref (eA E 120)]) C hT ⟨[⟨0, 14, 17, 22⟩], ⟨0, 14, 21, 13⟩, [], rfl, fun z hz => by rw [List.mem_singleton.mp hz]; exact ⟨by decide, rfl, Or.inl tg_886⟩, rfl, by decide, tg_634, tw_644, rfl⟩ (tt_X9_order_0 hl (hasC hE) h) ⟨tg_1181, tg_90, ok_X9_order, Nat.le_of_ble_eq_true rfl, Nat.le_of_ble_eq_true rfl⟩ tg_1178 tg_1179 tg_1180 (sc_0 (hasC hE)) rfl rfl (Nat.le_of_ble_eq_true rfl) dL_order_9 ⟨Nat.le_refl 1, Nat.le_refl 6⟩ (fun x => ?_)
  refine G.astore (L' := [(6, .ref x), (0, .ref (eA E 0)), (1, .int x1), (2, .int x2), (3, .int x3), (4, .int x4), (5, .ref (eA E 120))]) C dL_order_21 rfl (by decide) rfl ?_
  refine G.iconst (v := (2 : Int32)) C dL_order_23 (by decide) ?_
  exact G.iret C hr dL_order_24
def bb_L_black_0_120_0 (x1 : Int32) (x2 : Int32) (M : Mm) : Option (Int32 × Mm) := bd (f_X9_black_0 x1 x2 M) fun v_2 => ltv (wJ M 120 0 (v_2.toInt64)) fun M_3 => some ((0 : Int32), M_3)
set_option maxHeartbeats 4000000 in
set_option maxRecDepth 100000 in
theorem gb_L_black_0_120_0  {x1 : Int32} {x2 : Int32} {M : Mm} {v : Int32} {M' : Mm} (hE : Has shA (eH E)) (C : Cx RL cL_black 5 p (rmX 8) s m args meth c E) (hr : meth.sig.returnType = (some .int)) (h : bb_L_black_0_120_0 x1 x2 M = some (v, M')) : G p l e (rmX 8) s m args below meth c E 5 1 6 (QR below args s E 1 6 (some (.int v)) M') 0 [(0, .ref (eA E 0)), (1, .int x1), (2, .int x2), (3, .ref (eA E 120))] [] M := by
  unfold bb_L_black_0_120_0 at h
  refine G.aload_n C 3 dL_black_0 rfl rfl ?_
  refine G.iconst (v := (0 : Int32)) C dL_black_1 (by decide) ?_
  refine G.aload_n C 0 dL_black_2 rfl rfl ?_
  refine G.iload_n C 1 dL_black_3 rfl rfl ?_
  refine G.iload_n C 2 dL_black_4 rfl rfl ?_
  obtain ⟨v_2, hv_1, h⟩ := bd_ex h
  refine G.callV (rest := [.int (0 : Int32), .ref (eA E 120)]) C (s_X9_black_0 (hasC hE)  hv_1) ⟨tg_1192, tg_90, ok_X9_black, Nat.le_of_ble_eq_true rfl, Nat.le_of_ble_eq_true rfl⟩ tg_1189 tg_1190 tg_1191 (sc_0 (hasC hE)) rfl rfl (Nat.le_of_ble_eq_true rfl) dL_black_5 ⟨Nat.le_refl 1, Nat.le_refl 6⟩ ?_
  refine G.i2l (v := v_2.toInt64) C dL_black_8 rfl ?_
  obtain ⟨M_3, eM_3, h⟩ := ltv_ex h
  refine G.sJ (j := 0) C (sa_120 hE) (by decide) (by decide) dL_black_9 eM_3 ?_
  refine G.goto (tgt := 21) C dL_black_10 (by decide) ?_
  refine G.iconst (v := (0 : Int32)) C dL_black_21 (by decide) ?_
  cases h
  exact G.iret C hr dL_black_22
def f_L_black_0_120 (x1 : Int32) (x2 : Int32) (M : Mm) : Option (Int32 × Mm) := bb_L_black_0_120_0 x1 x2 M
theorem s_L_black_0_120 {l : Launch} {E : Ev} {x1 : Int32} {x2 : Int32} {M : Mm} {v : Int32} {M' : Mm} (hE : Has shA (eH E)) (h : f_L_black_0_120 x1 x2 M = some (v, M')) : MetB l yL_black cL_black 5 (some .int) [(0, 10, 13, 22), (0, 10, 17, 13)] 8 E [.ref (eA E 0), .int x1, .int x2, .ref (eA E 120)] M (some (.int v)) M' := by
  refine MetB.of (by decide +kernel) (Nat.le_of_ble_eq_true rfl) ?_
  intro p e s m below meth c C hr hT
  exact G.widen (Nat.zero_le 1) (Nat.zero_le 6) (G.sub [0, 1, 2, 3] rfl (gb_L_black_0_120_0 hE C hr h))
set_option maxHeartbeats 4000000 in
set_option maxRecDepth 100000 in
theorem w1_L_black_0_120 {l : Launch} {E : Ev} {x1 : Int32} {x2 : Int32} {M : Mm} (hl : l.stackTraces = false) (hE : Has shA (eH E)) (h : t_X9_black_0 x1 x2 M = some 1) : MetB l yL_black cL_black 5 (some .int) [(0, 10, 13, 22), (0, 10, 17, 13)] 8 E [.ref (eA E 0), .int x1, .int x2, .ref (eA E 120)] M (some (.int 1)) M := by
  refine MetB.of (by decide +kernel) (Nat.le_of_ble_eq_true rfl) ?_
  intro p e s m below meth c C hr hT
  refine G.sub [0, 1, 2, 3] (L' := [(0, .ref (eA E 0)), (1, .int x1), (2, .int x2), (3, .ref (eA E 120))]) rfl ?_
  refine G.aload_n C 3 dL_black_0 rfl rfl ?_
  refine G.iconst (v := (0 : Int32)) C dL_black_1 (by decide) ?_
  refine G.aload_n C 0 dL_black_2 rfl rfl ?_
  refine G.iload_n C 1 dL_black_3 rfl rfl ?_
  refine G.iload_n C 2 dL_black_4 rfl rfl ?_
  refine G.callVC (k := 1) (hpc := 13) (rest := [.int (0 : Int32), .ref (eA E 120)]) C hT ⟨[], ⟨0, 10, 13, 22⟩, [⟨0, 10, 17, 13⟩], rfl, fun z hz => (List.not_mem_nil hz).elim, rfl, by decide, tg_886, tw_897, rfl⟩ (tt_X9_black_0 hl (hasC hE) h) ⟨tg_1192, tg_90, ok_X9_black, Nat.le_of_ble_eq_true rfl, Nat.le_of_ble_eq_true rfl⟩ tg_1189 tg_1190 tg_1191 (sc_0 (hasC hE)) rfl rfl (Nat.le_of_ble_eq_true rfl) dL_black_5 ⟨Nat.le_refl 1, Nat.le_refl 6⟩ (fun x => ?_)
  refine G.astore (L' := [(4, .ref x), (0, .ref (eA E 0)), (1, .int x1), (2, .int x2), (3, .ref (eA E 120))]) C dL_black_13 rfl (by decide) rfl ?_
  refine G.iconst (v := (1 : Int32)) C dL_black_15 (by decide) ?_
  exact G.iret C hr dL_black_16
set_option maxHeartbeats 4000000 in
set_option maxRecDepth 100000 in
theorem w2_L_black_0_120 {l : Launch} {E : Ev} {x1 : Int32} {x2 : Int32} {M : Mm} (hl : l.stackTraces = false) (hE : Has shA (eH E)) (h : t_X9_black_0 x1 x2 M = some 2) : MetB l yL_black cL_black 5 (some .int) [(0, 10, 13, 22), (0, 10, 17, 13)] 8 E [.ref (eA E 0), .int x1, .int x2, .ref (eA E 120)] M (some (.int 2)) M := by
  refine MetB.of (by decide +kernel) (Nat.le_of_ble_eq_true rfl) ?_
  intro p e s m below meth c C hr hT
  refine G.sub [0, 1, 2, 3] (L' := [(0, .ref (eA E 0)), (1, .int x1), (2, .int x2), (3, .ref (eA E 120))]) rfl ?_
  refine G.aload_n C 3 dL_black_0 rfl rfl ?_
  refine G.iconst (v := (0 : Int32)) C dL_black_1 (by decide) ?_
  refine G.aload_n C 0 dL_black_2 rfl rfl ?_
  refine G.iload_n C 1 dL_black_3 rfl rfl ?_
  refine G.iload_n C 2 dL_black_4 rfl rfl ?_
  refine G.callVC (k := 2) (hpc := 17) (rest := [.int (0 : Int32), .ref (eA E 120)]) C hT ⟨[⟨0, 10, 13, 22⟩], ⟨0, 10, 17, 13⟩, [], rfl, fun z hz => by rw [List.mem_singleton.mp hz]; exact ⟨by decide, rfl, Or.inl tg_886⟩, rfl, by decide, tg_634, tw_644, rfl⟩ (tt_X9_black_0 hl (hasC hE) h) ⟨tg_1192, tg_90, ok_X9_black, Nat.le_of_ble_eq_true rfl, Nat.le_of_ble_eq_true rfl⟩ tg_1189 tg_1190 tg_1191 (sc_0 (hasC hE)) rfl rfl (Nat.le_of_ble_eq_true rfl) dL_black_5 ⟨Nat.le_refl 1, Nat.le_refl 6⟩ (fun x => ?_)
  refine G.astore (L' := [(4, .ref x), (0, .ref (eA E 0)), (1, .int x1), (2, .int x2), (3, .ref (eA E 120))]) C dL_black_17 rfl (by decide) rfl ?_
  refine G.iconst (v := (2 : Int32)) C dL_black_19 (by decide) ?_
  exact G.iret C hr dL_black_20
def bb_L_colour_0_120_0 (x1 : Int32) (x2 : Int32) (x3 : Int32) (M : Mm) : Option (Int32 × Mm) := bd (f_X9_colour_0 x1 x2 x3 M) fun v_2 => ltv (wJ M 120 0 (v_2.toInt64)) fun M_3 => some ((0 : Int32), M_3)
set_option maxHeartbeats 4000000 in
set_option maxRecDepth 100000 in
theorem gb_L_colour_0_120_0  {x1 : Int32} {x2 : Int32} {x3 : Int32} {M : Mm} {v : Int32} {M' : Mm} (hE : Has shA (eH E)) (C : Cx RL cL_colour 6 p (rmX 8) s m args meth c E) (hr : meth.sig.returnType = (some .int)) (h : bb_L_colour_0_120_0 x1 x2 x3 M = some (v, M')) : G p l e (rmX 8) s m args below meth c E 6 1 6 (QR below args s E 1 6 (some (.int v)) M') 0 [(0, .ref (eA E 0)), (1, .int x1), (2, .int x2), (3, .int x3), (4, .ref (eA E 120))] [] M := by
  unfold bb_L_colour_0_120_0 at h
  refine G.aload C 4 dL_colour_0 rfl ?_
  refine G.iconst (v := (0 : Int32)) C dL_colour_2 (by decide) ?_
  refine G.aload_n C 0 dL_colour_3 rfl rfl ?_
  refine G.iload_n C 1 dL_colour_4 rfl rfl ?_
  refine G.iload_n C 2 dL_colour_5 rfl rfl ?_
  refine G.iload_n C 3 dL_colour_6 rfl rfl ?_
  obtain ⟨v_2, hv_1, h⟩ := bd_ex h
  refine G.callV (rest := [.int (0 : Int32), .ref (eA E 120)]) C (s_X9_colour_0 (hasC hE)  hv_1) ⟨tg_1203, tg_90, ok_X9_colour, Nat.le_of_ble_eq_true rfl, Nat.le_of_ble_eq_true rfl⟩ tg_1200 tg_1201 tg_1202 (sc_0 (hasC hE)) rfl rfl (Nat.le_of_ble_eq_true rfl) dL_colour_7 ⟨Nat.le_refl 1, Nat.le_refl 6⟩ ?_
  refine G.i2l (v := v_2.toInt64) C dL_colour_10 rfl ?_
  obtain ⟨M_3, eM_3, h⟩ := ltv_ex h
  refine G.sJ (j := 0) C (sa_120 hE) (by decide) (by decide) dL_colour_11 eM_3 ?_
  refine G.goto (tgt := 23) C dL_colour_12 (by decide) ?_
  refine G.iconst (v := (0 : Int32)) C dL_colour_23 (by decide) ?_
  cases h
  exact G.iret C hr dL_colour_24
def f_L_colour_0_120 (x1 : Int32) (x2 : Int32) (x3 : Int32) (M : Mm) : Option (Int32 × Mm) := bb_L_colour_0_120_0 x1 x2 x3 M
theorem s_L_colour_0_120 {l : Launch} {E : Ev} {x1 : Int32} {x2 : Int32} {x3 : Int32} {M : Mm} {v : Int32} {M' : Mm} (hE : Has shA (eH E)) (h : f_L_colour_0_120 x1 x2 x3 M = some (v, M')) : MetB l yL_colour cL_colour 6 (some .int) [(0, 12, 15, 32), (0, 12, 19, 13)] 8 E [.ref (eA E 0), .int x1, .int x2, .int x3, .ref (eA E 120)] M (some (.int v)) M' := by
  refine MetB.of (by decide +kernel) (Nat.le_of_ble_eq_true rfl) ?_
  intro p e s m below meth c C hr hT
  exact G.widen (Nat.zero_le 1) (Nat.zero_le 6) (G.sub [0, 1, 2, 3, 4] rfl (gb_L_colour_0_120_0 hE C hr h))
set_option maxHeartbeats 4000000 in
set_option maxRecDepth 100000 in
theorem w3_L_colour_0_120 {l : Launch} {E : Ev} {x1 : Int32} {x2 : Int32} {x3 : Int32} {M : Mm} (hl : l.stackTraces = false) (hE : Has shA (eH E)) (h : t_X9_colour_0 x1 x2 x3 M = some 3) : MetB l yL_colour cL_colour 6 (some .int) [(0, 12, 15, 32), (0, 12, 19, 13)] 8 E [.ref (eA E 0), .int x1, .int x2, .int x3, .ref (eA E 120)] M (some (.int 1)) M := by
  refine MetB.of (by decide +kernel) (Nat.le_of_ble_eq_true rfl) ?_
  intro p e s m below meth c C hr hT
  refine G.sub [0, 1, 2, 3, 4] (L' := [(0, .ref (eA E 0)), (1, .int x1), (2, .int x2), (3, .int x3), (4, .ref (eA E 120))]) rfl ?_
  refine G.aload C 4 dL_colour_0 rfl ?_
  refine G.iconst (v := (0 : Int32)) C dL_colour_2 (by decide) ?_
  refine G.aload_n C 0 dL_colour_3 rfl rfl ?_
  refine G.iload_n C 1 dL_colour_4 rfl rfl ?_
  refine G.iload_n C 2 dL_colour_5 rfl rfl ?_
  refine G.iload_n C 3 dL_colour_6 rfl rfl ?_
  refine G.callVC (k := 3) (hpc := 15) (rest := [.int (0 : Int32), .ref (eA E 120)]) C hT ⟨[], ⟨0, 12, 15, 32⟩, [⟨0, 12, 19, 13⟩], rfl, fun z hz => (List.not_mem_nil hz).elim, rfl, by decide, tg_933, tw_944, rfl⟩ (tt_X9_colour_0 hl (hasC hE) h) ⟨tg_1203, tg_90, ok_X9_colour, Nat.le_of_ble_eq_true rfl, Nat.le_of_ble_eq_true rfl⟩ tg_1200 tg_1201 tg_1202 (sc_0 (hasC hE)) rfl rfl (Nat.le_of_ble_eq_true rfl) dL_colour_7 ⟨Nat.le_refl 1, Nat.le_refl 6⟩ (fun x => ?_)
  refine G.astore (L' := [(5, .ref x), (0, .ref (eA E 0)), (1, .int x1), (2, .int x2), (3, .int x3), (4, .ref (eA E 120))]) C dL_colour_15 rfl (by decide) rfl ?_
  refine G.iconst (v := (1 : Int32)) C dL_colour_17 (by decide) ?_
  exact G.iret C hr dL_colour_18
set_option maxHeartbeats 4000000 in
set_option maxRecDepth 100000 in
theorem w2_L_colour_0_120 {l : Launch} {E : Ev} {x1 : Int32} {x2 : Int32} {x3 : Int32} {M : Mm} (hl : l.stackTraces = false) (hE : Has shA (eH E)) (h : t_X9_colour_0 x1 x2 x3 M = some 2) : MetB l yL_colour cL_colour 6 (some .int) [(0, 12, 15, 32), (0, 12, 19, 13)] 8 E [.ref (eA E 0), .int x1, .int x2, .int x3, .ref (eA E 120)] M (some (.int 2)) M := by
  refine MetB.of (by decide +kernel) (Nat.le_of_ble_eq_true rfl) ?_
  intro p e s m below meth c C hr hT
  refine G.sub [0, 1, 2, 3, 4] (L' := [(0, .ref (eA E 0)), (1, .int x1), (2, .int x2), (3, .int x3), (4, .ref (eA E 120))]) rfl ?_
  refine G.aload C 4 dL_colour_0 rfl ?_
  refine G.iconst (v := (0 : Int32)) C dL_colour_2 (by decide) ?_
  refine G.aload_n C 0 dL_colour_3 rfl rfl ?_
  refine G.iload_n C 1 dL_colour_4 rfl rfl ?_
  refine G.iload_n C 2 dL_colour_5 rfl rfl ?_
  refine G.iload_n C 3 dL_colour_6 rfl rfl ?_
  refine G.callVC (k := 2) (hpc := 19) (rest := [.int (0 : Int32), .ref (eA E 120)]) C hT ⟨[⟨0, 12, 15, 32⟩], ⟨0, 12, 19, 13⟩, [], rfl, fun z hz => by rw [List.mem_singleton.mp hz]; exact ⟨by decide, rfl, Or.inr tg_933⟩, rfl, by decide, tg_634, tw_644, rfl⟩ (tt_X9_colour_0 hl (hasC hE) h) ⟨tg_1203, tg_90, ok_X9_colour, Nat.le_of_ble_eq_true rfl, Nat.le_of_ble_eq_true rfl⟩ tg_1200 tg_1201 tg_1202 (sc_0 (hasC hE)) rfl rfl (Nat.le_of_ble_eq_true rfl) dL_colour_7 ⟨Nat.le_refl 1, Nat.le_refl 6⟩ (fun x => ?_)
  refine G.astore (L' := [(5, .ref x), (0, .ref (eA E 0)), (1, .int x1), (2, .int x2), (3, .int x3), (4, .ref (eA E 120))]) C dL_colour_19 rfl (by decide) rfl ?_
  refine G.iconst (v := (2 : Int32)) C dL_colour_21 (by decide) ?_
  exact G.iret C hr dL_colour_22
def bb_L_uneven_0_120_0 (x1 : Int32) (x2 : Int32) (M : Mm) : Option (Int32 × Mm) := bd2 (f_X9_uneven_0 x1 x2 M) fun v_3 M_2 => ltv (wJ M_2 120 0 (v_3.toInt64)) fun M_4 => some ((0 : Int32), M_4)
set_option maxHeartbeats 4000000 in
set_option maxRecDepth 100000 in
theorem gb_L_uneven_0_120_0  {x1 : Int32} {x2 : Int32} {M : Mm} {v : Int32} {M' : Mm} (hE : Has shA (eH E)) (C : Cx RL cL_uneven 5 p (rmX 8) s m args meth c E) (hr : meth.sig.returnType = (some .int)) (h : bb_L_uneven_0_120_0 x1 x2 M = some (v, M')) : G p l e (rmX 8) s m args below meth c E 5 1 6 (QR below args s E 1 6 (some (.int v)) M') 0 [(0, .ref (eA E 0)), (1, .int x1), (2, .int x2), (3, .ref (eA E 120))] [] M := by
  unfold bb_L_uneven_0_120_0 at h
  refine G.aload_n C 3 dL_uneven_0 rfl rfl ?_
  refine G.iconst (v := (0 : Int32)) C dL_uneven_1 (by decide) ?_
  refine G.aload_n C 0 dL_uneven_2 rfl rfl ?_
  refine G.iload_n C 1 dL_uneven_3 rfl rfl ?_
  refine G.iload_n C 2 dL_uneven_4 rfl rfl ?_
  obtain ⟨v_3, M_2, hv_1, h⟩ := bd2_ex h
  refine G.callV (rest := [.int (0 : Int32), .ref (eA E 120)]) C (s_X9_uneven_0 (hasC hE)  hv_1) ⟨tg_1230, tg_90, ok_X9_uneven, Nat.le_of_ble_eq_true rfl, Nat.le_of_ble_eq_true rfl⟩ tg_1227 tg_1228 tg_1229 (sc_0 (hasC hE)) rfl rfl (Nat.le_of_ble_eq_true rfl) dL_uneven_5 ⟨Nat.le_refl 1, Nat.le_refl 6⟩ ?_
  refine G.i2l (v := v_3.toInt64) C dL_uneven_8 rfl ?_
  obtain ⟨M_4, eM_4, h⟩ := ltv_ex h
  refine G.sJ (j := 0) C (sa_120 hE) (by decide) (by decide) dL_uneven_9 eM_4 ?_
  refine G.goto (tgt := 17) C dL_uneven_10 (by decide) ?_
  refine G.iconst (v := (0 : Int32)) C dL_uneven_17 (by decide) ?_
  cases h
  exact G.iret C hr dL_uneven_18
def f_L_uneven_0_120 (x1 : Int32) (x2 : Int32) (M : Mm) : Option (Int32 × Mm) := bb_L_uneven_0_120_0 x1 x2 M
theorem s_L_uneven_0_120 {l : Launch} {E : Ev} {x1 : Int32} {x2 : Int32} {M : Mm} {v : Int32} {M' : Mm} (hE : Has shA (eH E)) (h : f_L_uneven_0_120 x1 x2 M = some (v, M')) : MetB l yL_uneven cL_uneven 5 (some .int) [(0, 10, 13, 13)] 8 E [.ref (eA E 0), .int x1, .int x2, .ref (eA E 120)] M (some (.int v)) M' := by
  refine MetB.of (by decide +kernel) (Nat.le_of_ble_eq_true rfl) ?_
  intro p e s m below meth c C hr hT
  exact G.widen (Nat.zero_le 1) (Nat.zero_le 6) (G.sub [0, 1, 2, 3] rfl (gb_L_uneven_0_120_0 hE C hr h))
set_option maxHeartbeats 4000000 in
set_option maxRecDepth 100000 in
theorem w2_L_uneven_0_120 {l : Launch} {E : Ev} {x1 : Int32} {x2 : Int32} {M : Mm} (hl : l.stackTraces = false) (hE : Has shA (eH E)) (h : t_X9_uneven_0 x1 x2 M = some 2) : MetB l yL_uneven cL_uneven 5 (some .int) [(0, 10, 13, 13)] 8 E [.ref (eA E 0), .int x1, .int x2, .ref (eA E 120)] M (some (.int 1)) M := by
  refine MetB.of (by decide +kernel) (Nat.le_of_ble_eq_true rfl) ?_
  intro p e s m below meth c C hr hT
  refine G.sub [0, 1, 2, 3] (L' := [(0, .ref (eA E 0)), (1, .int x1), (2, .int x2), (3, .ref (eA E 120))]) rfl ?_
  refine G.aload_n C 3 dL_uneven_0 rfl rfl ?_
  refine G.iconst (v := (0 : Int32)) C dL_uneven_1 (by decide) ?_
  refine G.aload_n C 0 dL_uneven_2 rfl rfl ?_
  refine G.iload_n C 1 dL_uneven_3 rfl rfl ?_
  refine G.iload_n C 2 dL_uneven_4 rfl rfl ?_
  refine G.callVC (k := 2) (hpc := 13) (rest := [.int (0 : Int32), .ref (eA E 120)]) C hT ⟨[], ⟨0, 10, 13, 13⟩, [], rfl, fun z hz => (List.not_mem_nil hz).elim, rfl, by decide, tg_634, tw_644, rfl⟩ (tt_X9_uneven_0 hl (hasC hE) h) ⟨tg_1230, tg_90, ok_X9_uneven, Nat.le_of_ble_eq_true rfl, Nat.le_of_ble_eq_true rfl⟩ tg_1227 tg_1228 tg_1229 (sc_0 (hasC hE)) rfl rfl (Nat.le_of_ble_eq_true rfl) dL_uneven_5 ⟨Nat.le_refl 1, Nat.le_refl 6⟩ (fun x => ?_)
  refine G.astore (L' := [(4, .ref x), (0, .ref (eA E 0)), (1, .int x1), (2, .int x2), (3, .ref (eA E 120))]) C dL_uneven_13 rfl (by decide) rfl ?_
  refine G.iconst (v := (1 : Int32)) C dL_uneven_15 (by decide) ?_
  exact G.iret C hr dL_uneven_16
def bb_L_even_0_120_0 (x1 : Int32) (M : Mm) : Option (Int32 × Mm) := bd2 (f_X9_even_0 x1 M) fun v_3 M_2 => ltv (wJ M_2 120 0 (v_3.toInt64)) fun M_4 => some ((0 : Int32), M_4)
set_option maxHeartbeats 4000000 in
set_option maxRecDepth 100000 in
theorem gb_L_even_0_120_0  {x1 : Int32} {M : Mm} {v : Int32} {M' : Mm} (hE : Has shA (eH E)) (C : Cx RL cL_even 4 p (rmX 16) s m args meth c E) (hr : meth.sig.returnType = (some .int)) (h : bb_L_even_0_120_0 x1 M = some (v, M')) : G p l e (rmX 16) s m args below meth c E 4 1 6 (QR below args s E 1 6 (some (.int v)) M') 0 [(0, .ref (eA E 0)), (1, .int x1), (2, .ref (eA E 120))] [] M := by
  unfold bb_L_even_0_120_0 at h
  refine G.aload_n C 2 dL_even_0 rfl rfl ?_
  refine G.iconst (v := (0 : Int32)) C dL_even_1 (by decide) ?_
  refine G.aload_n C 0 dL_even_2 rfl rfl ?_
  refine G.iload_n C 1 dL_even_3 rfl rfl ?_
  obtain ⟨v_3, M_2, hv_1, h⟩ := bd2_ex h
  refine G.callV (rest := [.int (0 : Int32), .ref (eA E 120)]) C (s_X9_even_0 (hasC hE)  hv_1) ⟨tg_1254, tg_90, ok_X9_even, Nat.le_of_ble_eq_true rfl, Nat.le_of_ble_eq_true rfl⟩ tg_1251 tg_1252 tg_1253 (sc_0 (hasC hE)) rfl rfl (Nat.le_of_ble_eq_true rfl) dL_even_4 ⟨Nat.le_refl 1, Nat.le_refl 6⟩ ?_
  refine G.i2l (v := v_3.toInt64) C dL_even_7 rfl ?_
  obtain ⟨M_4, eM_4, h⟩ := ltv_ex h
  refine G.sJ (j := 0) C (sa_120 hE) (by decide) (by decide) dL_even_8 eM_4 ?_
  refine G.goto (tgt := 15) C dL_even_9 (by decide) ?_
  refine G.iconst (v := (0 : Int32)) C dL_even_15 (by decide) ?_
  cases h
  exact G.iret C hr dL_even_16
def f_L_even_0_120 (x1 : Int32) (M : Mm) : Option (Int32 × Mm) := bb_L_even_0_120_0 x1 M
theorem s_L_even_0_120 {l : Launch} {E : Ev} {x1 : Int32} {M : Mm} {v : Int32} {M' : Mm} (hE : Has shA (eH E)) (h : f_L_even_0_120 x1 M = some (v, M')) : MetB l yL_even cL_even 4 (some .int) [(0, 9, 12, 13)] 16 E [.ref (eA E 0), .int x1, .ref (eA E 120)] M (some (.int v)) M' := by
  refine MetB.of (by decide +kernel) (Nat.le_of_ble_eq_true rfl) ?_
  intro p e s m below meth c C hr hT
  exact G.widen (Nat.zero_le 1) (Nat.zero_le 6) (G.sub [0, 1, 2] rfl (gb_L_even_0_120_0 hE C hr h))
set_option maxHeartbeats 4000000 in
set_option maxRecDepth 100000 in
theorem w2_L_even_0_120 {l : Launch} {E : Ev} {x1 : Int32} {M : Mm} (hl : l.stackTraces = false) (hE : Has shA (eH E)) (h : t_X9_even_0 x1 M = some 2) : MetB l yL_even cL_even 4 (some .int) [(0, 9, 12, 13)] 16 E [.ref (eA E 0), .int x1, .ref (eA E 120)] M (some (.int 1)) M := by
  refine MetB.of (by decide +kernel) (Nat.le_of_ble_eq_true rfl) ?_
  intro p e s m below meth c C hr hT
  refine G.sub [0, 1, 2] (L' := [(0, .ref (eA E 0)), (1, .int x1), (2, .ref (eA E 120))]) rfl ?_
  refine G.aload_n C 2 dL_even_0 rfl rfl ?_
  refine G.iconst (v := (0 : Int32)) C dL_even_1 (by decide) ?_
  refine G.aload_n C 0 dL_even_2 rfl rfl ?_
  refine G.iload_n C 1 dL_even_3 rfl rfl ?_
  refine G.callVC (k := 2) (hpc := 12) (rest := [.int (0 : Int32), .ref (eA E 120)]) C hT ⟨[], ⟨0, 9, 12, 13⟩, [], rfl, fun z hz => (List.not_mem_nil hz).elim, rfl, by decide, tg_634, tw_644, rfl⟩ (tt_X9_even_0 hl (hasC hE) h) ⟨tg_1254, tg_90, ok_X9_even, Nat.le_of_ble_eq_true rfl, Nat.le_of_ble_eq_true rfl⟩ tg_1251 tg_1252 tg_1253 (sc_0 (hasC hE)) rfl rfl (Nat.le_of_ble_eq_true rfl) dL_even_4 ⟨Nat.le_refl 1, Nat.le_refl 6⟩ (fun x => ?_)
  refine G.astore_n (L' := [(3, .ref x), (0, .ref (eA E 0)), (1, .int x1), (2, .ref (eA E 120))]) C dL_even_12 rfl rfl (by decide) rfl ?_
  refine G.iconst (v := (1 : Int32)) C dL_even_13 (by decide) ?_
  exact G.iret C hr dL_even_14
def bb_L_press_0_120_0 (x1 : Int32) (M : Mm) : Option (Int32 × Mm) := bd (f_X9_press_0 x1 M) fun v_2 => ltv (wJ M 120 0 (v_2.toInt64)) fun M_3 => some ((0 : Int32), M_3)
set_option maxHeartbeats 4000000 in
set_option maxRecDepth 100000 in
theorem gb_L_press_0_120_0  {x1 : Int32} {M : Mm} {v : Int32} {M' : Mm} (hE : Has shA (eH E)) (C : Cx RL cL_press 4 p (rmX 8) s m args meth c E) (hr : meth.sig.returnType = (some .int)) (h : bb_L_press_0_120_0 x1 M = some (v, M')) : G p l e (rmX 8) s m args below meth c E 4 1 6 (QR below args s E 1 6 (some (.int v)) M') 0 [(0, .ref (eA E 0)), (1, .int x1), (2, .ref (eA E 120))] [] M := by
  unfold bb_L_press_0_120_0 at h
  refine G.aload_n C 2 dL_press_0 rfl rfl ?_
  refine G.iconst (v := (0 : Int32)) C dL_press_1 (by decide) ?_
  refine G.aload_n C 0 dL_press_2 rfl rfl ?_
  refine G.iload_n C 1 dL_press_3 rfl rfl ?_
  obtain ⟨v_2, hv_1, h⟩ := bd_ex h
  refine G.callV (rest := [.int (0 : Int32), .ref (eA E 120)]) C (s_X9_press_0 (hasC hE)  hv_1) ⟨tg_1284, tg_90, ok_X9_press, Nat.le_of_ble_eq_true rfl, Nat.le_of_ble_eq_true rfl⟩ tg_1281 tg_1282 tg_1283 (sc_0 (hasC hE)) rfl rfl (Nat.le_of_ble_eq_true rfl) dL_press_4 ⟨Nat.le_refl 1, Nat.le_refl 6⟩ ?_
  refine G.i2l (v := v_2.toInt64) C dL_press_7 rfl ?_
  obtain ⟨M_3, eM_3, h⟩ := ltv_ex h
  refine G.sJ (j := 0) C (sa_120 hE) (by decide) (by decide) dL_press_8 eM_3 ?_
  refine G.goto (tgt := 15) C dL_press_9 (by decide) ?_
  refine G.iconst (v := (0 : Int32)) C dL_press_15 (by decide) ?_
  cases h
  exact G.iret C hr dL_press_16
def f_L_press_0_120 (x1 : Int32) (M : Mm) : Option (Int32 × Mm) := bb_L_press_0_120_0 x1 M
theorem s_L_press_0_120 {l : Launch} {E : Ev} {x1 : Int32} {M : Mm} {v : Int32} {M' : Mm} (hE : Has shA (eH E)) (h : f_L_press_0_120 x1 M = some (v, M')) : MetB l yL_press cL_press 4 (some .int) [(0, 9, 12, 13)] 8 E [.ref (eA E 0), .int x1, .ref (eA E 120)] M (some (.int v)) M' := by
  refine MetB.of (by decide +kernel) (Nat.le_of_ble_eq_true rfl) ?_
  intro p e s m below meth c C hr hT
  exact G.widen (Nat.zero_le 1) (Nat.zero_le 6) (G.sub [0, 1, 2] rfl (gb_L_press_0_120_0 hE C hr h))
set_option maxHeartbeats 4000000 in
set_option maxRecDepth 100000 in
theorem w2_L_press_0_120 {l : Launch} {E : Ev} {x1 : Int32} {M : Mm} (hl : l.stackTraces = false) (hE : Has shA (eH E)) (h : t_X9_press_0 x1 M = some 2) : MetB l yL_press cL_press 4 (some .int) [(0, 9, 12, 13)] 8 E [.ref (eA E 0), .int x1, .ref (eA E 120)] M (some (.int 1)) M := by
  refine MetB.of (by decide +kernel) (Nat.le_of_ble_eq_true rfl) ?_
  intro p e s m below meth c C hr hT
  refine G.sub [0, 1, 2] (L' := [(0, .ref (eA E 0)), (1, .int x1), (2, .ref (eA E 120))]) rfl ?_
  refine G.aload_n C 2 dL_press_0 rfl rfl ?_
  refine G.iconst (v := (0 : Int32)) C dL_press_1 (by decide) ?_
  refine G.aload_n C 0 dL_press_2 rfl rfl ?_
  refine G.iload_n C 1 dL_press_3 rfl rfl ?_
  refine G.callVC (k := 2) (hpc := 12) (rest := [.int (0 : Int32), .ref (eA E 120)]) C hT ⟨[], ⟨0, 9, 12, 13⟩, [], rfl, fun z hz => (List.not_mem_nil hz).elim, rfl, by decide, tg_634, tw_644, rfl⟩ (tt_X9_press_0 hl (hasC hE) h) ⟨tg_1284, tg_90, ok_X9_press, Nat.le_of_ble_eq_true rfl, Nat.le_of_ble_eq_true rfl⟩ tg_1281 tg_1282 tg_1283 (sc_0 (hasC hE)) rfl rfl (Nat.le_of_ble_eq_true rfl) dL_press_4 ⟨Nat.le_refl 1, Nat.le_refl 6⟩ (fun x => ?_)
  refine G.astore_n (L' := [(3, .ref x), (0, .ref (eA E 0)), (1, .int x1), (2, .ref (eA E 120))]) C dL_press_12 rfl rfl (by decide) rfl ?_
  refine G.iconst (v := (1 : Int32)) C dL_press_13 (by decide) ?_
  exact G.iret C hr dL_press_14
def bb_L_print_0_120_0 (x1 : Int64) (M : Mm) : Option (Int32 × Mm) := bd2 (f_X9_print_0 x1 M) fun v_3 M_2 => ltv (wJ M_2 120 0 (v_3.toInt64)) fun M_4 => some ((0 : Int32), M_4)
set_option maxHeartbeats 4000000 in
set_option maxRecDepth 100000 in
theorem gb_L_print_0_120_0  {x1 : Int64} {M : Mm} {v : Int32} {M' : Mm} (hE : Has shA (eH E)) (C : Cx RL cL_print 5 p (rmX 7) s m args meth c E) (hr : meth.sig.returnType = (some .int)) (h : bb_L_print_0_120_0 x1 M = some (v, M')) : G p l e (rmX 7) s m args below meth c E 5 1 6 (QR below args s E 1 6 (some (.int v)) M') 0 [(0, .ref (eA E 0)), (1, .long x1), (3, .ref (eA E 120))] [] M := by
  unfold bb_L_print_0_120_0 at h
  refine G.aload_n C 2 dL_print_0 rfl rfl ?_
  refine G.iconst (v := (0 : Int32)) C dL_print_1 (by decide) ?_
  refine G.aload_n C 0 dL_print_2 rfl rfl ?_
  refine G.lload_n C 1 dL_print_3 rfl rfl ?_
  obtain ⟨v_3, M_2, hv_1, h⟩ := bd2_ex h
  refine G.callV (rest := [.int (0 : Int32), .ref (eA E 120)]) C (s_X9_print_0 (hasC hE)  hv_1) ⟨tg_1300, tg_90, ok_X9_print, Nat.le_of_ble_eq_true rfl, Nat.le_of_ble_eq_true rfl⟩ tg_1297 tg_1298 tg_1299 (sc_0 (hasC hE)) rfl rfl (Nat.le_of_ble_eq_true rfl) dL_print_4 ⟨Nat.le_refl 1, Nat.le_refl 6⟩ ?_
  refine G.i2l (v := v_3.toInt64) C dL_print_7 rfl ?_
  obtain ⟨M_4, eM_4, h⟩ := ltv_ex h
  refine G.sJ (j := 0) C (sa_120 hE) (by decide) (by decide) dL_print_8 eM_4 ?_
  refine G.goto (tgt := 16) C dL_print_9 (by decide) ?_
  refine G.iconst (v := (0 : Int32)) C dL_print_16 (by decide) ?_
  cases h
  exact G.iret C hr dL_print_17
def f_L_print_0_120 (x1 : Int64) (M : Mm) : Option (Int32 × Mm) := bb_L_print_0_120_0 x1 M
theorem s_L_print_0_120 {l : Launch} {E : Ev} {x1 : Int64} {M : Mm} {v : Int32} {M' : Mm} (hE : Has shA (eH E)) (h : f_L_print_0_120 x1 M = some (v, M')) : MetB l yL_print cL_print 5 (some .int) [(0, 9, 12, 13)] 7 E [.ref (eA E 0), .long x1, .ref (eA E 120)] M (some (.int v)) M' := by
  refine MetB.of (by decide +kernel) (Nat.le_of_ble_eq_true rfl) ?_
  intro p e s m below meth c C hr hT
  exact G.widen (Nat.zero_le 1) (Nat.zero_le 6) (G.sub [0, 1, 2] rfl (gb_L_print_0_120_0 hE C hr h))
set_option maxHeartbeats 4000000 in
set_option maxRecDepth 100000 in
theorem w2_L_print_0_120 {l : Launch} {E : Ev} {x1 : Int64} {M : Mm} (hl : l.stackTraces = false) (hE : Has shA (eH E)) (h : t_X9_print_0 x1 M = some 2) : MetB l yL_print cL_print 5 (some .int) [(0, 9, 12, 13)] 7 E [.ref (eA E 0), .long x1, .ref (eA E 120)] M (some (.int 1)) M := by
  refine MetB.of (by decide +kernel) (Nat.le_of_ble_eq_true rfl) ?_
  intro p e s m below meth c C hr hT
  refine G.sub [0, 1, 2] (L' := [(0, .ref (eA E 0)), (1, .long x1), (3, .ref (eA E 120))]) rfl ?_
  refine G.aload_n C 2 dL_print_0 rfl rfl ?_
  refine G.iconst (v := (0 : Int32)) C dL_print_1 (by decide) ?_
  refine G.aload_n C 0 dL_print_2 rfl rfl ?_
  refine G.lload_n C 1 dL_print_3 rfl rfl ?_
  refine G.callVC (k := 2) (hpc := 12) (rest := [.int (0 : Int32), .ref (eA E 120)]) C hT ⟨[], ⟨0, 9, 12, 13⟩, [], rfl, fun z hz => (List.not_mem_nil hz).elim, rfl, by decide, tg_634, tw_644, rfl⟩ (tt_X9_print_0 hl (hasC hE) h) ⟨tg_1300, tg_90, ok_X9_print, Nat.le_of_ble_eq_true rfl, Nat.le_of_ble_eq_true rfl⟩ tg_1297 tg_1298 tg_1299 (sc_0 (hasC hE)) rfl rfl (Nat.le_of_ble_eq_true rfl) dL_print_4 ⟨Nat.le_refl 1, Nat.le_refl 6⟩ (fun x => ?_)
  refine G.astore (L' := [(4, .ref x), (0, .ref (eA E 0)), (1, .long x1), (3, .ref (eA E 120))]) C dL_print_12 rfl (by decide) rfl ?_
  refine G.iconst (v := (1 : Int32)) C dL_print_14 (by decide) ?_
  exact G.iret C hr dL_print_15
def bb_L_kin_0_120_0 (x1 : Int32) (x2 : Int32) (x3 : Int32) (x4 : Int32) (M : Mm) : Option (Int32 × Mm) := bd2 (f_X9_kin_0 x1 x2 x3 x4 M) fun v_3 M_2 => if v_3 = 0 then (ltv (wJ M_2 120 0 (0 : Int64)) fun M_4 => some ((0 : Int32), M_4)) else (ltv (wJ M_2 120 0 (1 : Int64)) fun M_5 => some ((0 : Int32), M_5))
set_option maxHeartbeats 4000000 in
set_option maxRecDepth 100000 in
theorem gb_L_kin_0_120_0  {x1 : Int32} {x2 : Int32} {x3 : Int32} {x4 : Int32} {M : Mm} {v : Int32} {M' : Mm} (hE : Has shA (eH E)) (C : Cx RL cL_kin 7 p (rmX 8) s m args meth c E) (hr : meth.sig.returnType = (some .int)) (h : bb_L_kin_0_120_0 x1 x2 x3 x4 M = some (v, M')) : G p l e (rmX 8) s m args below meth c E 7 1 6 (QR below args s E 1 6 (some (.int v)) M') 0 [(0, .ref (eA E 0)), (1, .int x1), (2, .int x2), (3, .int x3), (4, .int x4), (5, .ref (eA E 120))] [] M := by
  unfold bb_L_kin_0_120_0 at h
  refine G.aload C 5 dL_kin_0 rfl ?_
  refine G.iconst (v := (0 : Int32)) C dL_kin_2 (by decide) ?_
  refine G.aload_n C 0 dL_kin_3 rfl rfl ?_
  refine G.iload_n C 1 dL_kin_4 rfl rfl ?_
  refine G.iload_n C 2 dL_kin_5 rfl rfl ?_
  refine G.iload_n C 3 dL_kin_6 rfl rfl ?_
  refine G.iload C 4 dL_kin_7 rfl ?_
  obtain ⟨v_3, M_2, hv_1, h⟩ := bd2_ex h
  refine G.callV (rest := [.int (0 : Int32), .ref (eA E 120)]) C (s_X9_kin_0 (hasC hE)  hv_1) ⟨tg_1312, tg_90, ok_X9_kin, Nat.le_of_ble_eq_true rfl, Nat.le_of_ble_eq_true rfl⟩ tg_1309 tg_1310 tg_1311 (sc_0 (hasC hE)) rfl rfl (Nat.le_of_ble_eq_true rfl) dL_kin_9 ⟨Nat.le_refl 1, Nat.le_refl 6⟩ ?_
  refine G.if_eq (tgt := 19) C dL_kin_12 (by decide) (fun hc => ?_) (fun hc => ?_)
  · have h := it_t h hc
    refine G.lconst (v := (0 : Int64)) C dL_kin_19 (by decide) ?_
    obtain ⟨M_4, eM_4, h⟩ := ltv_ex h
    refine G.sJ (j := 0) C (sa_120 hE) (by decide) (by decide) dL_kin_20 eM_4 ?_
    refine G.goto (tgt := 32) C dL_kin_21 (by decide) ?_
    refine G.iconst (v := (0 : Int32)) C dL_kin_32 (by decide) ?_
    cases h
    exact G.iret C hr dL_kin_33
  · have h := it_f h hc
    refine G.lconst (v := (1 : Int64)) C dL_kin_15 (by decide) ?_
    refine G.goto (tgt := 20) C dL_kin_16 (by decide) ?_
    obtain ⟨M_5, eM_5, h⟩ := ltv_ex h
    refine G.sJ (j := 0) C (sa_120 hE) (by decide) (by decide) dL_kin_20 eM_5 ?_
    refine G.goto (tgt := 32) C dL_kin_21 (by decide) ?_
    refine G.iconst (v := (0 : Int32)) C dL_kin_32 (by decide) ?_
    cases h
    exact G.iret C hr dL_kin_33
def f_L_kin_0_120 (x1 : Int32) (x2 : Int32) (x3 : Int32) (x4 : Int32) (M : Mm) : Option (Int32 × Mm) := bb_L_kin_0_120_0 x1 x2 x3 x4 M
theorem s_L_kin_0_120 {l : Launch} {E : Ev} {x1 : Int32} {x2 : Int32} {x3 : Int32} {x4 : Int32} {M : Mm} {v : Int32} {M' : Mm} (hE : Has shA (eH E)) (h : f_L_kin_0_120 x1 x2 x3 x4 M = some (v, M')) : MetB l yL_kin cL_kin 7 (some .int) [(0, 21, 24, 32), (0, 21, 28, 13)] 8 E [.ref (eA E 0), .int x1, .int x2, .int x3, .int x4, .ref (eA E 120)] M (some (.int v)) M' := by
  refine MetB.of (by decide +kernel) (Nat.le_of_ble_eq_true rfl) ?_
  intro p e s m below meth c C hr hT
  exact G.widen (Nat.zero_le 1) (Nat.zero_le 6) (G.sub [0, 1, 2, 3, 4, 5] rfl (gb_L_kin_0_120_0 hE C hr h))
set_option maxHeartbeats 4000000 in
set_option maxRecDepth 100000 in
theorem w3_L_kin_0_120 {l : Launch} {E : Ev} {x1 : Int32} {x2 : Int32} {x3 : Int32} {x4 : Int32} {M : Mm} (hl : l.stackTraces = false) (hE : Has shA (eH E)) (h : t_X9_kin_0 x1 x2 x3 x4 M = some 3) : MetB l yL_kin cL_kin 7 (some .int) [(0, 21, 24, 32), (0, 21, 28, 13)] 8 E [.ref (eA E 0), .int x1, .int x2, .int x3, .int x4, .ref (eA E 120)] M (some (.int 1)) M := by
  refine MetB.of (by decide +kernel) (Nat.le_of_ble_eq_true rfl) ?_
  intro p e s m below meth c C hr hT
  refine G.sub [0, 1, 2, 3, 4, 5] (L' := [(0, .ref (eA E 0)), (1, .int x1), (2, .int x2), (3, .int x3), (4, .int x4), (5, .ref (eA E 120))]) rfl ?_
  refine G.aload C 5 dL_kin_0 rfl ?_
  refine G.iconst (v := (0 : Int32)) C dL_kin_2 (by decide) ?_
  refine G.aload_n C 0 dL_kin_3 rfl rfl ?_
  refine G.iload_n C 1 dL_kin_4 rfl rfl ?_
  refine G.iload_n C 2 dL_kin_5 rfl rfl ?_
  refine G.iload_n C 3 dL_kin_6 rfl rfl ?_
  refine G.iload C 4 dL_kin_7 rfl ?_
  refine G.callVC (k := 3) (hpc := 24) (rest := [.int (0 : Int32), .ref (eA E 120)]) C hT ⟨[], ⟨0, 21, 24, 32⟩, [⟨0, 21, 28, 13⟩], rfl, fun z hz => (List.not_mem_nil hz).elim, rfl, by decide, tg_933, tw_944, rfl⟩ (tt_X9_kin_0 hl (hasC hE) h) ⟨tg_1312, tg_90, ok_X9_kin, Nat.le_of_ble_eq_true rfl, Nat.le_of_ble_eq_true rfl⟩ tg_1309 tg_1310 tg_1311 (sc_0 (hasC hE)) rfl rfl (Nat.le_of_ble_eq_true rfl) dL_kin_9 ⟨Nat.le_refl 1, Nat.le_refl 6⟩ (fun x => ?_)
  refine G.astore (L' := [(6, .ref x), (0, .ref (eA E 0)), (1, .int x1), (2, .int x2), (3, .int x3), (4, .int x4), (5, .ref (eA E 120))]) C dL_kin_24 rfl (by decide) rfl ?_
  refine G.iconst (v := (1 : Int32)) C dL_kin_26 (by decide) ?_
  exact G.iret C hr dL_kin_27
set_option maxHeartbeats 4000000 in
set_option maxRecDepth 100000 in
theorem w2_L_kin_0_120 {l : Launch} {E : Ev} {x1 : Int32} {x2 : Int32} {x3 : Int32} {x4 : Int32} {M : Mm} (hl : l.stackTraces = false) (hE : Has shA (eH E)) (h : t_X9_kin_0 x1 x2 x3 x4 M = some 2) : MetB l yL_kin cL_kin 7 (some .int) [(0, 21, 24, 32), (0, 21, 28, 13)] 8 E [.ref (eA E 0), .int x1, .int x2, .int x3, .int x4, .ref (eA E 120)] M (some (.int 2)) M := by
  refine MetB.of (by decide +kernel) (Nat.le_of_ble_eq_true rfl) ?_
  intro p e s m below meth c C hr hT
  refine G.sub [0, 1, 2, 3, 4, 5] (L' := [(0, .ref (eA E 0)), (1, .int x1), (2, .int x2), (3, .int x3), (4, .int x4), (5, .ref (eA E 120))]) rfl ?_
  refine G.aload C 5 dL_kin_0 rfl ?_
  refine G.iconst (v := (0 : Int32)) C dL_kin_2 (by decide) ?_
  refine G.aload_n C 0 dL_kin_3 rfl rfl ?_
  refine G.iload_n C 1 dL_kin_4 rfl rfl ?_
  refine G.iload_n C 2 dL_kin_5 rfl rfl ?_
  refine G.iload_n C 3 dL_kin_6 rfl rfl ?_
  refine G.iload C 4 dL_kin_7 rfl ?_
  refine G.callVC (k := 2) (hpc := 28) (rest := [.int (0 : Int32), .ref (eA E 120)]) C hT ⟨[⟨0, 21, 24, 32⟩], ⟨0, 21, 28, 13⟩, [], rfl, fun z hz => by rw [List.mem_singleton.mp hz]; exact ⟨by decide, rfl, Or.inr tg_933⟩, rfl, by decide, tg_634, tw_644, rfl⟩ (tt_X9_kin_0 hl (hasC hE) h) ⟨tg_1312, tg_90, ok_X9_kin, Nat.le_of_ble_eq_true rfl, Nat.le_of_ble_eq_true rfl⟩ tg_1309 tg_1310 tg_1311 (sc_0 (hasC hE)) rfl rfl (Nat.le_of_ble_eq_true rfl) dL_kin_9 ⟨Nat.le_refl 1, Nat.le_refl 6⟩ (fun x => ?_)
  refine G.astore (L' := [(6, .ref x), (0, .ref (eA E 0)), (1, .int x1), (2, .int x2), (3, .int x3), (4, .int x4), (5, .ref (eA E 120))]) C dL_kin_28 rfl (by decide) rfl ?_
  refine G.iconst (v := (2 : Int32)) C dL_kin_30 (by decide) ?_
  exact G.iret C hr dL_kin_31
def bb_L_partings_0_120_0 (x1 : Int32) (x2 : Int32) (x3 : Int32) (M : Mm) : Option (Int32 × Mm) := bd2 (f_X9_partings_0 x1 x2 x3 M) fun v_3 M_2 => ltv (wJ M_2 120 0 (v_3.toInt64)) fun M_4 => some ((0 : Int32), M_4)
set_option maxHeartbeats 4000000 in
set_option maxRecDepth 100000 in
theorem gb_L_partings_0_120_0  {x1 : Int32} {x2 : Int32} {x3 : Int32} {M : Mm} {v : Int32} {M' : Mm} (hE : Has shA (eH E)) (C : Cx RL cL_partings 6 p (rmX 8) s m args meth c E) (hr : meth.sig.returnType = (some .int)) (h : bb_L_partings_0_120_0 x1 x2 x3 M = some (v, M')) : G p l e (rmX 8) s m args below meth c E 6 1 6 (QR below args s E 1 6 (some (.int v)) M') 0 [(0, .ref (eA E 0)), (1, .int x1), (2, .int x2), (3, .int x3), (4, .ref (eA E 120))] [] M := by
  unfold bb_L_partings_0_120_0 at h
  refine G.aload C 4 dL_partings_0 rfl ?_
  refine G.iconst (v := (0 : Int32)) C dL_partings_2 (by decide) ?_
  refine G.aload_n C 0 dL_partings_3 rfl rfl ?_
  refine G.iload_n C 1 dL_partings_4 rfl rfl ?_
  refine G.iload_n C 2 dL_partings_5 rfl rfl ?_
  refine G.iload_n C 3 dL_partings_6 rfl rfl ?_
  obtain ⟨v_3, M_2, hv_1, h⟩ := bd2_ex h
  refine G.callV (rest := [.int (0 : Int32), .ref (eA E 120)]) C (s_X9_partings_0 (hasC hE)  hv_1) ⟨tg_1339, tg_90, ok_X9_partings, Nat.le_of_ble_eq_true rfl, Nat.le_of_ble_eq_true rfl⟩ tg_1336 tg_1337 tg_1338 (sc_0 (hasC hE)) rfl rfl (Nat.le_of_ble_eq_true rfl) dL_partings_7 ⟨Nat.le_refl 1, Nat.le_refl 6⟩ ?_
  refine G.i2l (v := v_3.toInt64) C dL_partings_10 rfl ?_
  obtain ⟨M_4, eM_4, h⟩ := ltv_ex h
  refine G.sJ (j := 0) C (sa_120 hE) (by decide) (by decide) dL_partings_11 eM_4 ?_
  refine G.goto (tgt := 19) C dL_partings_12 (by decide) ?_
  refine G.iconst (v := (0 : Int32)) C dL_partings_19 (by decide) ?_
  cases h
  exact G.iret C hr dL_partings_20
def f_L_partings_0_120 (x1 : Int32) (x2 : Int32) (x3 : Int32) (M : Mm) : Option (Int32 × Mm) := bb_L_partings_0_120_0 x1 x2 x3 M
theorem s_L_partings_0_120 {l : Launch} {E : Ev} {x1 : Int32} {x2 : Int32} {x3 : Int32} {M : Mm} {v : Int32} {M' : Mm} (hE : Has shA (eH E)) (h : f_L_partings_0_120 x1 x2 x3 M = some (v, M')) : MetB l yL_partings cL_partings 6 (some .int) [(0, 12, 15, 13)] 8 E [.ref (eA E 0), .int x1, .int x2, .int x3, .ref (eA E 120)] M (some (.int v)) M' := by
  refine MetB.of (by decide +kernel) (Nat.le_of_ble_eq_true rfl) ?_
  intro p e s m below meth c C hr hT
  exact G.widen (Nat.zero_le 1) (Nat.zero_le 6) (G.sub [0, 1, 2, 3, 4] rfl (gb_L_partings_0_120_0 hE C hr h))
set_option maxHeartbeats 4000000 in
set_option maxRecDepth 100000 in
theorem w2_L_partings_0_120 {l : Launch} {E : Ev} {x1 : Int32} {x2 : Int32} {x3 : Int32} {M : Mm} (hl : l.stackTraces = false) (hE : Has shA (eH E)) (h : t_X9_partings_0 x1 x2 x3 M = some 2) : MetB l yL_partings cL_partings 6 (some .int) [(0, 12, 15, 13)] 8 E [.ref (eA E 0), .int x1, .int x2, .int x3, .ref (eA E 120)] M (some (.int 1)) M := by
  refine MetB.of (by decide +kernel) (Nat.le_of_ble_eq_true rfl) ?_
  intro p e s m below meth c C hr hT
  refine G.sub [0, 1, 2, 3, 4] (L' := [(0, .ref (eA E 0)), (1, .int x1), (2, .int x2), (3, .int x3), (4, .ref (eA E 120))]) rfl ?_
  refine G.aload C 4 dL_partings_0 rfl ?_
  refine G.iconst (v := (0 : Int32)) C dL_partings_2 (by decide) ?_
  refine G.aload_n C 0 dL_partings_3 rfl rfl ?_
  refine G.iload_n C 1 dL_partings_4 rfl rfl ?_
  refine G.iload_n C 2 dL_partings_5 rfl rfl ?_
  refine G.iload_n C 3 dL_partings_6 rfl rfl ?_
  refine G.callVC (k := 2) (hpc := 15) (rest := [.int (0 : Int32), .ref (eA E 120)]) C hT ⟨[], ⟨0, 12, 15, 13⟩, [], rfl, fun z hz => (List.not_mem_nil hz).elim, rfl, by decide, tg_634, tw_644, rfl⟩ (tt_X9_partings_0 hl (hasC hE) h) ⟨tg_1339, tg_90, ok_X9_partings, Nat.le_of_ble_eq_true rfl, Nat.le_of_ble_eq_true rfl⟩ tg_1336 tg_1337 tg_1338 (sc_0 (hasC hE)) rfl rfl (Nat.le_of_ble_eq_true rfl) dL_partings_7 ⟨Nat.le_refl 1, Nat.le_refl 6⟩ (fun x => ?_)
  refine G.astore (L' := [(5, .ref x), (0, .ref (eA E 0)), (1, .int x1), (2, .int x2), (3, .int x3), (4, .ref (eA E 120))]) C dL_partings_15 rfl (by decide) rfl ?_
  refine G.iconst (v := (1 : Int32)) C dL_partings_17 (by decide) ?_
  exact G.iret C hr dL_partings_18
def bb_L_bars_0_120_0 (x1 : Int32) (x2 : Int32) (x3 : Int32) (M : Mm) : Option (Int32 × Mm) := bd2 (f_X9_bars_0 x1 x2 x3 M) fun v_3 M_2 => ltv (wJ M_2 120 0 v_3) fun M_4 => some ((0 : Int32), M_4)
set_option maxHeartbeats 4000000 in
set_option maxRecDepth 100000 in
theorem gb_L_bars_0_120_0  {x1 : Int32} {x2 : Int32} {x3 : Int32} {M : Mm} {v : Int32} {M' : Mm} (hE : Has shA (eH E)) (C : Cx RL cL_bars 6 p (rmX 28) s m args meth c E) (hr : meth.sig.returnType = (some .int)) (h : bb_L_bars_0_120_0 x1 x2 x3 M = some (v, M')) : G p l e (rmX 28) s m args below meth c E 6 1 6 (QR below args s E 1 6 (some (.int v)) M') 0 [(0, .ref (eA E 0)), (1, .int x1), (2, .int x2), (3, .int x3), (4, .ref (eA E 120))] [] M := by
  unfold bb_L_bars_0_120_0 at h
  refine G.aload C 4 dL_bars_0 rfl ?_
  refine G.iconst (v := (0 : Int32)) C dL_bars_2 (by decide) ?_
  refine G.aload_n C 0 dL_bars_3 rfl rfl ?_
  refine G.iload_n C 1 dL_bars_4 rfl rfl ?_
  refine G.iload_n C 2 dL_bars_5 rfl rfl ?_
  refine G.iload_n C 3 dL_bars_6 rfl rfl ?_
  obtain ⟨v_3, M_2, hv_1, h⟩ := bd2_ex h
  refine G.callV (rest := [.int (0 : Int32), .ref (eA E 120)]) C (s_X9_bars_0 (hasC hE)  hv_1) ⟨tg_1371, tg_90, ok_X9_bars, Nat.le_of_ble_eq_true rfl, Nat.le_of_ble_eq_true rfl⟩ tg_1368 tg_1369 tg_1370 (sc_0 (hasC hE)) rfl rfl (Nat.le_of_ble_eq_true rfl) dL_bars_7 ⟨Nat.le_refl 1, Nat.le_refl 6⟩ ?_
  obtain ⟨M_4, eM_4, h⟩ := ltv_ex h
  refine G.sJ (j := 0) C (sa_120 hE) (by decide) (by decide) dL_bars_10 eM_4 ?_
  refine G.goto (tgt := 22) C dL_bars_11 (by decide) ?_
  refine G.iconst (v := (0 : Int32)) C dL_bars_22 (by decide) ?_
  cases h
  exact G.iret C hr dL_bars_23
def f_L_bars_0_120 (x1 : Int32) (x2 : Int32) (x3 : Int32) (M : Mm) : Option (Int32 × Mm) := bb_L_bars_0_120_0 x1 x2 x3 M
theorem s_L_bars_0_120 {l : Launch} {E : Ev} {x1 : Int32} {x2 : Int32} {x3 : Int32} {M : Mm} {v : Int32} {M' : Mm} (hE : Has shA (eH E)) (h : f_L_bars_0_120 x1 x2 x3 M = some (v, M')) : MetB l yL_bars cL_bars 6 (some .int) [(0, 11, 14, 22), (0, 11, 18, 13)] 28 E [.ref (eA E 0), .int x1, .int x2, .int x3, .ref (eA E 120)] M (some (.int v)) M' := by
  refine MetB.of (by decide +kernel) (Nat.le_of_ble_eq_true rfl) ?_
  intro p e s m below meth c C hr hT
  exact G.widen (Nat.zero_le 1) (Nat.zero_le 6) (G.sub [0, 1, 2, 3, 4] rfl (gb_L_bars_0_120_0 hE C hr h))
set_option maxHeartbeats 4000000 in
set_option maxRecDepth 100000 in
theorem w1_L_bars_0_120 {l : Launch} {E : Ev} {x1 : Int32} {x2 : Int32} {x3 : Int32} {M : Mm} (hl : l.stackTraces = false) (hE : Has shA (eH E)) (h : t_X9_bars_0 x1 x2 x3 M = some 1) : MetB l yL_bars cL_bars 6 (some .int) [(0, 11, 14, 22), (0, 11, 18, 13)] 28 E [.ref (eA E 0), .int x1, .int x2, .int x3, .ref (eA E 120)] M (some (.int 1)) M := by
  refine MetB.of (by decide +kernel) (Nat.le_of_ble_eq_true rfl) ?_
  intro p e s m below meth c C hr hT
  refine G.sub [0, 1, 2, 3, 4] (L' := [(0, .ref (eA E 0)), (1, .int x1), (2, .int x2), (3, .int x3), (4, .ref (eA E 120))]) rfl ?_
  refine G.aload C 4 dL_bars_0 rfl ?_
  refine G.iconst (v := (0 : Int32)) C dL_bars_2 (by decide) ?_
  refine G.aload_n C 0 dL_bars_3 rfl rfl ?_
  refine G.iload_n C 1 dL_bars_4 rfl rfl ?_
  refine G.iload_n C 2 dL_bars_5 rfl rfl ?_
  refine G.iload_n C 3 dL_bars_6 rfl rfl ?_
  refine G.callVC (k := 1) (hpc := 14) (rest := [.int (0 : Int32), .ref (eA E 120)]) C hT ⟨[], ⟨0, 11, 14, 22⟩, [⟨0, 11, 18, 13⟩], rfl, fun z hz => (List.not_mem_nil hz).elim, rfl, by decide, tg_886, tw_897, rfl⟩ (tt_X9_bars_0 hl (hasC hE) h) ⟨tg_1371, tg_90, ok_X9_bars, Nat.le_of_ble_eq_true rfl, Nat.le_of_ble_eq_true rfl⟩ tg_1368 tg_1369 tg_1370 (sc_0 (hasC hE)) rfl rfl (Nat.le_of_ble_eq_true rfl) dL_bars_7 ⟨Nat.le_refl 1, Nat.le_refl 6⟩ (fun x => ?_)
  refine G.astore (L' := [(5, .ref x), (0, .ref (eA E 0)), (1, .int x1), (2, .int x2), (3, .int x3), (4, .ref (eA E 120))]) C dL_bars_14 rfl (by decide) rfl ?_
  refine G.iconst (v := (1 : Int32)) C dL_bars_16 (by decide) ?_
  exact G.iret C hr dL_bars_17
set_option maxHeartbeats 4000000 in
set_option maxRecDepth 100000 in
theorem w2_L_bars_0_120 {l : Launch} {E : Ev} {x1 : Int32} {x2 : Int32} {x3 : Int32} {M : Mm} (hl : l.stackTraces = false) (hE : Has shA (eH E)) (h : t_X9_bars_0 x1 x2 x3 M = some 2) : MetB l yL_bars cL_bars 6 (some .int) [(0, 11, 14, 22), (0, 11, 18, 13)] 28 E [.ref (eA E 0), .int x1, .int x2, .int x3, .ref (eA E 120)] M (some (.int 2)) M := by
  refine MetB.of (by decide +kernel) (Nat.le_of_ble_eq_true rfl) ?_
  intro p e s m below meth c C hr hT
  refine G.sub [0, 1, 2, 3, 4] (L' := [(0, .ref (eA E 0)), (1, .int x1), (2, .int x2), (3, .int x3), (4, .ref (eA E 120))]) rfl ?_
  refine G.aload C 4 dL_bars_0 rfl ?_
  refine G.iconst (v := (0 : Int32)) C dL_bars_2 (by decide) ?_
  refine G.aload_n C 0 dL_bars_3 rfl rfl ?_
  refine G.iload_n C 1 dL_bars_4 rfl rfl ?_
  refine G.iload_n C 2 dL_bars_5 rfl rfl ?_
  refine G.iload_n C 3 dL_bars_6 rfl rfl ?_
  refine G.callVC (k := 2) (hpc := 18) (rest := [.int (0 : Int32), .ref (eA E 120)]) C hT ⟨[⟨0, 11, 14, 22⟩], ⟨0, 11, 18, 13⟩, [], rfl, fun z hz => by rw [List.mem_singleton.mp hz]; exact ⟨by decide, rfl, Or.inl tg_886⟩, rfl, by decide, tg_634, tw_644, rfl⟩ (tt_X9_bars_0 hl (hasC hE) h) ⟨tg_1371, tg_90, ok_X9_bars, Nat.le_of_ble_eq_true rfl, Nat.le_of_ble_eq_true rfl⟩ tg_1368 tg_1369 tg_1370 (sc_0 (hasC hE)) rfl rfl (Nat.le_of_ble_eq_true rfl) dL_bars_7 ⟨Nat.le_refl 1, Nat.le_refl 6⟩ (fun x => ?_)
  refine G.astore (L' := [(5, .ref x), (0, .ref (eA E 0)), (1, .int x1), (2, .int x2), (3, .int x3), (4, .ref (eA E 120))]) C dL_bars_18 rfl (by decide) rfl ?_
  refine G.iconst (v := (2 : Int32)) C dL_bars_20 (by decide) ?_
  exact G.iret C hr dL_bars_21
def bb_L_nearest_0_120_0 (x1 : Int64) (x3 : Int32) (x4 : Int32) (M : Mm) : Option (Int32 × Mm) := bd (f_X9_nearest_0 x1 x3 x4 M) fun v_2 => ltv (wJ M 120 0 (v_2.toInt64)) fun M_3 => some ((0 : Int32), M_3)
set_option maxHeartbeats 4000000 in
set_option maxRecDepth 100000 in
theorem gb_L_nearest_0_120_0  {x1 : Int64} {x3 : Int32} {x4 : Int32} {M : Mm} {v : Int32} {M' : Mm} (hE : Has shA (eH E)) (C : Cx RL cL_nearest 7 p (rmX 8) s m args meth c E) (hr : meth.sig.returnType = (some .int)) (h : bb_L_nearest_0_120_0 x1 x3 x4 M = some (v, M')) : G p l e (rmX 8) s m args below meth c E 7 1 6 (QR below args s E 1 6 (some (.int v)) M') 0 [(0, .ref (eA E 0)), (1, .long x1), (3, .int x3), (4, .int x4), (5, .ref (eA E 120))] [] M := by
  unfold bb_L_nearest_0_120_0 at h
  refine G.aload C 4 dL_nearest_0 rfl ?_
  refine G.iconst (v := (0 : Int32)) C dL_nearest_2 (by decide) ?_
  refine G.aload_n C 0 dL_nearest_3 rfl rfl ?_
  refine G.lload_n C 1 dL_nearest_4 rfl rfl ?_
  refine G.iload_n C 2 dL_nearest_5 rfl rfl ?_
  refine G.iload C 3 dL_nearest_6 rfl ?_
  obtain ⟨v_2, hv_1, h⟩ := bd_ex h
  refine G.callV (rest := [.int (0 : Int32), .ref (eA E 120)]) C (s_X9_nearest_0 (hasC hE)  hv_1) ⟨tg_1382, tg_90, ok_X9_nearest, Nat.le_of_ble_eq_true rfl, Nat.le_of_ble_eq_true rfl⟩ tg_1379 tg_1380 tg_1381 (sc_0 (hasC hE)) rfl rfl (Nat.le_of_ble_eq_true rfl) dL_nearest_8 ⟨Nat.le_refl 1, Nat.le_refl 6⟩ ?_
  refine G.i2l (v := v_2.toInt64) C dL_nearest_11 rfl ?_
  obtain ⟨M_3, eM_3, h⟩ := ltv_ex h
  refine G.sJ (j := 0) C (sa_120 hE) (by decide) (by decide) dL_nearest_12 eM_3 ?_
  refine G.goto (tgt := 20) C dL_nearest_13 (by decide) ?_
  refine G.iconst (v := (0 : Int32)) C dL_nearest_20 (by decide) ?_
  cases h
  exact G.iret C hr dL_nearest_21
def f_L_nearest_0_120 (x1 : Int64) (x3 : Int32) (x4 : Int32) (M : Mm) : Option (Int32 × Mm) := bb_L_nearest_0_120_0 x1 x3 x4 M
theorem s_L_nearest_0_120 {l : Launch} {E : Ev} {x1 : Int64} {x3 : Int32} {x4 : Int32} {M : Mm} {v : Int32} {M' : Mm} (hE : Has shA (eH E)) (h : f_L_nearest_0_120 x1 x3 x4 M = some (v, M')) : MetB l yL_nearest cL_nearest 7 (some .int) [(0, 13, 16, 13)] 8 E [.ref (eA E 0), .long x1, .int x3, .int x4, .ref (eA E 120)] M (some (.int v)) M' := by
  refine MetB.of (by decide +kernel) (Nat.le_of_ble_eq_true rfl) ?_
  intro p e s m below meth c C hr hT
  exact G.widen (Nat.zero_le 1) (Nat.zero_le 6) (G.sub [0, 1, 2, 3, 4] rfl (gb_L_nearest_0_120_0 hE C hr h))
set_option maxHeartbeats 4000000 in
set_option maxRecDepth 100000 in
theorem w2_L_nearest_0_120 {l : Launch} {E : Ev} {x1 : Int64} {x3 : Int32} {x4 : Int32} {M : Mm} (hl : l.stackTraces = false) (hE : Has shA (eH E)) (h : t_X9_nearest_0 x1 x3 x4 M = some 2) : MetB l yL_nearest cL_nearest 7 (some .int) [(0, 13, 16, 13)] 8 E [.ref (eA E 0), .long x1, .int x3, .int x4, .ref (eA E 120)] M (some (.int 1)) M := by
  refine MetB.of (by decide +kernel) (Nat.le_of_ble_eq_true rfl) ?_
  intro p e s m below meth c C hr hT
  refine G.sub [0, 1, 2, 3, 4] (L' := [(0, .ref (eA E 0)), (1, .long x1), (3, .int x3), (4, .int x4), (5, .ref (eA E 120))]) rfl ?_
  refine G.aload C 4 dL_nearest_0 rfl ?_
  refine G.iconst (v := (0 : Int32)) C dL_nearest_2 (by decide) ?_
  refine G.aload_n C 0 dL_nearest_3 rfl rfl ?_
  refine G.lload_n C 1 dL_nearest_4 rfl rfl ?_
  refine G.iload_n C 2 dL_nearest_5 rfl rfl ?_
  refine G.iload C 3 dL_nearest_6 rfl ?_
  refine G.callVC (k := 2) (hpc := 16) (rest := [.int (0 : Int32), .ref (eA E 120)]) C hT ⟨[], ⟨0, 13, 16, 13⟩, [], rfl, fun z hz => (List.not_mem_nil hz).elim, rfl, by decide, tg_634, tw_644, rfl⟩ (tt_X9_nearest_0 hl (hasC hE) h) ⟨tg_1382, tg_90, ok_X9_nearest, Nat.le_of_ble_eq_true rfl, Nat.le_of_ble_eq_true rfl⟩ tg_1379 tg_1380 tg_1381 (sc_0 (hasC hE)) rfl rfl (Nat.le_of_ble_eq_true rfl) dL_nearest_8 ⟨Nat.le_refl 1, Nat.le_refl 6⟩ (fun x => ?_)
  refine G.astore (L' := [(6, .ref x), (0, .ref (eA E 0)), (1, .long x1), (3, .int x3), (4, .int x4), (5, .ref (eA E 120))]) C dL_nearest_16 rfl (by decide) rfl ?_
  refine G.iconst (v := (1 : Int32)) C dL_nearest_18 (by decide) ?_
  exact G.iret C hr dL_nearest_19
def bb_L_originals_0_120_0 (x1 : Int32) (x2 : Int32) (M : Mm) : Option (Int32 × Mm) := bd2 (f_X9_originals_0 x1 x2 M) fun v_3 M_2 => ltv (wJ M_2 120 0 (v_3.toInt64)) fun M_4 => some ((0 : Int32), M_4)
set_option maxHeartbeats 4000000 in
set_option maxRecDepth 100000 in
theorem gb_L_originals_0_120_0  {x1 : Int32} {x2 : Int32} {M : Mm} {v : Int32} {M' : Mm} (hE : Has shA (eH E)) (C : Cx RL cL_originals 5 p (rmX 8) s m args meth c E) (hr : meth.sig.returnType = (some .int)) (h : bb_L_originals_0_120_0 x1 x2 M = some (v, M')) : G p l e (rmX 8) s m args below meth c E 5 1 6 (QR below args s E 1 6 (some (.int v)) M') 0 [(0, .ref (eA E 0)), (1, .int x1), (2, .int x2), (3, .ref (eA E 120))] [] M := by
  unfold bb_L_originals_0_120_0 at h
  refine G.aload_n C 3 dL_originals_0 rfl rfl ?_
  refine G.iconst (v := (0 : Int32)) C dL_originals_1 (by decide) ?_
  refine G.aload_n C 0 dL_originals_2 rfl rfl ?_
  refine G.iload_n C 1 dL_originals_3 rfl rfl ?_
  refine G.iload_n C 2 dL_originals_4 rfl rfl ?_
  obtain ⟨v_3, M_2, hv_1, h⟩ := bd2_ex h
  refine G.callV (rest := [.int (0 : Int32), .ref (eA E 120)]) C (s_X9_originals_0 (hasC hE)  hv_1) ⟨tg_1399, tg_90, ok_X9_originals, Nat.le_of_ble_eq_true rfl, Nat.le_of_ble_eq_true rfl⟩ tg_1396 tg_1397 tg_1398 (sc_0 (hasC hE)) rfl rfl (Nat.le_of_ble_eq_true rfl) dL_originals_5 ⟨Nat.le_refl 1, Nat.le_refl 6⟩ ?_
  refine G.i2l (v := v_3.toInt64) C dL_originals_8 rfl ?_
  obtain ⟨M_4, eM_4, h⟩ := ltv_ex h
  refine G.sJ (j := 0) C (sa_120 hE) (by decide) (by decide) dL_originals_9 eM_4 ?_
  refine G.goto (tgt := 17) C dL_originals_10 (by decide) ?_
  refine G.iconst (v := (0 : Int32)) C dL_originals_17 (by decide) ?_
  cases h
  exact G.iret C hr dL_originals_18
def f_L_originals_0_120 (x1 : Int32) (x2 : Int32) (M : Mm) : Option (Int32 × Mm) := bb_L_originals_0_120_0 x1 x2 M
theorem s_L_originals_0_120 {l : Launch} {E : Ev} {x1 : Int32} {x2 : Int32} {M : Mm} {v : Int32} {M' : Mm} (hE : Has shA (eH E)) (h : f_L_originals_0_120 x1 x2 M = some (v, M')) : MetB l yL_originals cL_originals 5 (some .int) [(0, 10, 13, 13)] 8 E [.ref (eA E 0), .int x1, .int x2, .ref (eA E 120)] M (some (.int v)) M' := by
  refine MetB.of (by decide +kernel) (Nat.le_of_ble_eq_true rfl) ?_
  intro p e s m below meth c C hr hT
  exact G.widen (Nat.zero_le 1) (Nat.zero_le 6) (G.sub [0, 1, 2, 3] rfl (gb_L_originals_0_120_0 hE C hr h))
set_option maxHeartbeats 4000000 in
set_option maxRecDepth 100000 in
theorem w2_L_originals_0_120 {l : Launch} {E : Ev} {x1 : Int32} {x2 : Int32} {M : Mm} (hl : l.stackTraces = false) (hE : Has shA (eH E)) (h : t_X9_originals_0 x1 x2 M = some 2) : MetB l yL_originals cL_originals 5 (some .int) [(0, 10, 13, 13)] 8 E [.ref (eA E 0), .int x1, .int x2, .ref (eA E 120)] M (some (.int 1)) M := by
  refine MetB.of (by decide +kernel) (Nat.le_of_ble_eq_true rfl) ?_
  intro p e s m below meth c C hr hT
  refine G.sub [0, 1, 2, 3] (L' := [(0, .ref (eA E 0)), (1, .int x1), (2, .int x2), (3, .ref (eA E 120))]) rfl ?_
  refine G.aload_n C 3 dL_originals_0 rfl rfl ?_
  refine G.iconst (v := (0 : Int32)) C dL_originals_1 (by decide) ?_
  refine G.aload_n C 0 dL_originals_2 rfl rfl ?_
  refine G.iload_n C 1 dL_originals_3 rfl rfl ?_
  refine G.iload_n C 2 dL_originals_4 rfl rfl ?_
  refine G.callVC (k := 2) (hpc := 13) (rest := [.int (0 : Int32), .ref (eA E 120)]) C hT ⟨[], ⟨0, 10, 13, 13⟩, [], rfl, fun z hz => (List.not_mem_nil hz).elim, rfl, by decide, tg_634, tw_644, rfl⟩ (tt_X9_originals_0 hl (hasC hE) h) ⟨tg_1399, tg_90, ok_X9_originals, Nat.le_of_ble_eq_true rfl, Nat.le_of_ble_eq_true rfl⟩ tg_1396 tg_1397 tg_1398 (sc_0 (hasC hE)) rfl rfl (Nat.le_of_ble_eq_true rfl) dL_originals_5 ⟨Nat.le_refl 1, Nat.le_refl 6⟩ (fun x => ?_)
  refine G.astore (L' := [(4, .ref x), (0, .ref (eA E 0)), (1, .int x1), (2, .int x2), (3, .ref (eA E 120))]) C dL_originals_13 rfl (by decide) rfl ?_
  refine G.iconst (v := (1 : Int32)) C dL_originals_15 (by decide) ?_
  exact G.iret C hr dL_originals_16
def bb_L_fount_0_120_0 (x1 : Int32) (x2 : Int32) (x3 : Int32) (M : Mm) : Option (Int32 × Mm) := bd2 (f_X9_fount_0 x1 x2 x3 M) fun v_3 M_2 => ltv (wJ M_2 120 0 (v_3.toInt64)) fun M_4 => some ((0 : Int32), M_4)
set_option maxHeartbeats 4000000 in
set_option maxRecDepth 100000 in
theorem gb_L_fount_0_120_0  {x1 : Int32} {x2 : Int32} {x3 : Int32} {M : Mm} {v : Int32} {M' : Mm} (hE : Has shA (eH E)) (C : Cx RL cL_fount 6 p (rmX 24) s m args meth c E) (hr : meth.sig.returnType = (some .int)) (h : bb_L_fount_0_120_0 x1 x2 x3 M = some (v, M')) : G p l e (rmX 24) s m args below meth c E 6 1 6 (QR below args s E 1 6 (some (.int v)) M') 0 [(0, .ref (eA E 0)), (1, .int x1), (2, .int x2), (3, .int x3), (4, .ref (eA E 120))] [] M := by
  unfold bb_L_fount_0_120_0 at h
  refine G.aload C 4 dL_fount_0 rfl ?_
  refine G.iconst (v := (0 : Int32)) C dL_fount_2 (by decide) ?_
  refine G.aload_n C 0 dL_fount_3 rfl rfl ?_
  refine G.iload_n C 1 dL_fount_4 rfl rfl ?_
  refine G.iload_n C 2 dL_fount_5 rfl rfl ?_
  refine G.iload_n C 3 dL_fount_6 rfl rfl ?_
  obtain ⟨v_3, M_2, hv_1, h⟩ := bd2_ex h
  refine G.callV (rest := [.int (0 : Int32), .ref (eA E 120)]) C (s_X9_fount_0 (hasC hE)  hv_1) ⟨tg_1415, tg_90, ok_X9_fount, Nat.le_of_ble_eq_true rfl, Nat.le_of_ble_eq_true rfl⟩ tg_1412 tg_1413 tg_1414 (sc_0 (hasC hE)) rfl rfl (Nat.le_of_ble_eq_true rfl) dL_fount_7 ⟨Nat.le_refl 1, Nat.le_refl 6⟩ ?_
  refine G.i2l (v := v_3.toInt64) C dL_fount_10 rfl ?_
  obtain ⟨M_4, eM_4, h⟩ := ltv_ex h
  refine G.sJ (j := 0) C (sa_120 hE) (by decide) (by decide) dL_fount_11 eM_4 ?_
  refine G.goto (tgt := 19) C dL_fount_12 (by decide) ?_
  refine G.iconst (v := (0 : Int32)) C dL_fount_19 (by decide) ?_
  cases h
  exact G.iret C hr dL_fount_20
def f_L_fount_0_120 (x1 : Int32) (x2 : Int32) (x3 : Int32) (M : Mm) : Option (Int32 × Mm) := bb_L_fount_0_120_0 x1 x2 x3 M
theorem s_L_fount_0_120 {l : Launch} {E : Ev} {x1 : Int32} {x2 : Int32} {x3 : Int32} {M : Mm} {v : Int32} {M' : Mm} (hE : Has shA (eH E)) (h : f_L_fount_0_120 x1 x2 x3 M = some (v, M')) : MetB l yL_fount cL_fount 6 (some .int) [(0, 12, 15, 13)] 24 E [.ref (eA E 0), .int x1, .int x2, .int x3, .ref (eA E 120)] M (some (.int v)) M' := by
  refine MetB.of (by decide +kernel) (Nat.le_of_ble_eq_true rfl) ?_
  intro p e s m below meth c C hr hT
  exact G.widen (Nat.zero_le 1) (Nat.zero_le 6) (G.sub [0, 1, 2, 3, 4] rfl (gb_L_fount_0_120_0 hE C hr h))
set_option maxHeartbeats 4000000 in
set_option maxRecDepth 100000 in
theorem w2_L_fount_0_120 {l : Launch} {E : Ev} {x1 : Int32} {x2 : Int32} {x3 : Int32} {M : Mm} (hl : l.stackTraces = false) (hE : Has shA (eH E)) (h : t_X9_fount_0 x1 x2 x3 M = some 2) : MetB l yL_fount cL_fount 6 (some .int) [(0, 12, 15, 13)] 24 E [.ref (eA E 0), .int x1, .int x2, .int x3, .ref (eA E 120)] M (some (.int 1)) M := by
  refine MetB.of (by decide +kernel) (Nat.le_of_ble_eq_true rfl) ?_
  intro p e s m below meth c C hr hT
  refine G.sub [0, 1, 2, 3, 4] (L' := [(0, .ref (eA E 0)), (1, .int x1), (2, .int x2), (3, .int x3), (4, .ref (eA E 120))]) rfl ?_
  refine G.aload C 4 dL_fount_0 rfl ?_
  refine G.iconst (v := (0 : Int32)) C dL_fount_2 (by decide) ?_
  refine G.aload_n C 0 dL_fount_3 rfl rfl ?_
  refine G.iload_n C 1 dL_fount_4 rfl rfl ?_
  refine G.iload_n C 2 dL_fount_5 rfl rfl ?_
  refine G.iload_n C 3 dL_fount_6 rfl rfl ?_
  refine G.callVC (k := 2) (hpc := 15) (rest := [.int (0 : Int32), .ref (eA E 120)]) C hT ⟨[], ⟨0, 12, 15, 13⟩, [], rfl, fun z hz => (List.not_mem_nil hz).elim, rfl, by decide, tg_634, tw_644, rfl⟩ (tt_X9_fount_0 hl (hasC hE) h) ⟨tg_1415, tg_90, ok_X9_fount, Nat.le_of_ble_eq_true rfl, Nat.le_of_ble_eq_true rfl⟩ tg_1412 tg_1413 tg_1414 (sc_0 (hasC hE)) rfl rfl (Nat.le_of_ble_eq_true rfl) dL_fount_7 ⟨Nat.le_refl 1, Nat.le_refl 6⟩ (fun x => ?_)
  refine G.astore (L' := [(5, .ref x), (0, .ref (eA E 0)), (1, .int x1), (2, .int x2), (3, .int x3), (4, .ref (eA E 120))]) C dL_fount_15 rfl (by decide) rfl ?_
  refine G.iconst (v := (1 : Int32)) C dL_fount_17 (by decide) ?_
  exact G.iret C hr dL_fount_18
end
